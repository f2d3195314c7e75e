theorem s_tried (F : Nat) (hF : 300 ≤ F) : S_tried F Inv := by
  intro σ τ x1 x2 hI
  obtain ⟨-, hW, hR, -⟩ := id hI
  obtain ⟨nl, hnl, enl⟩ := many_n hW.1
  unfold mX11_tried mX12_tried jn_X11_tried_24 jn_X11_tried_25 jn_X11_tried_55 jn_X11_tried_56
  simp only [x0_told hR, m_told hW, isW, isI, x6_has (c := 3) hW.1 hR, m_loan hW.1, Option.bind_some, enl]
  rcases inr_c x1 1 60 with e1 | ⟨e1, h1, h2⟩
  · refine ⟨-1, σ, τ, ?_, by rw [e1]; rfl, hI⟩
    rw [e1]
    simp only [if_true, ite_self]
  obtain ⟨n, hn1, hn, rfl⟩ := inr_nat (a := 1) (b := 60) (by omega) (by omega) h1 h2
  rw [e1]
  simp only [if_neg (show ¬ (1 : Int32) = 0 by decide)]
  -- who is asked of
  have eP : ∀ p, p < 16 → nI (100 + p) - (100 : Int32) = nI p := fun p hp => by
    rw [show nI (100 + p) - (100 : Int32) = nI (100 + p - 100) from pk_sub (a := 100 + p) (b := 100) (by omega), show 100 + p - 100 = p by omega]
  have eL : ∀ l, l < 24 → nI (200 + l) - (200 : Int32) = nI l := fun l hl => by
    rw [show nI (200 + l) - (200 : Int32) = nI (200 + l - 200) from pk_sub (a := 200 + l) (b := 200) (by omega), show 200 + l - 200 = l by omega]
  rcases inr_c x2 0 2 with e2 | ⟨e2, h3, h4⟩
  · rw [e2]
    simp only [if_true]
    by_cases ct : tl (τ 1) (x2 - 100) = 0
    · rw [ct]
      simp only [if_true, ite_self]
      rcases ln_cases hnl (x2 - 200) with el | ⟨el, l, hl, hxl⟩
      · rw [el]
        simp only [if_true, ite_self]
        exact ⟨-1, σ, τ, rfl, rfl, hI⟩
      · rw [el]
        simp only [if_neg (show ¬ (1 : Int32) = 0 by decide)]
        have ex : x2 = nI (200 + l) := sub_back hxl
        subst ex
        rw [if_neg (show ¬ nI (200 + l) < (200 : Int32) from nI_nlt (a := 200 + l) (b := 200) (by omega) (by omega))]
        exact s_tried0 hF hI hn _ 0 1 (Or.inr (Or.inr ⟨l, by rw [enl]; exact nI_lt hl (by omega), by omega, rfl, rfl, rfl⟩))
    · rw [if_neg ct, if_neg ct]
      rcases tl_cases (τ 1) (x2 - 100) with ⟨z, -⟩ | ⟨p, hp, hxp⟩
      · exact absurd z ct
      · have ex : x2 = nI (100 + p) := sub_back hxp
        subst ex
        rw [if_neg (show ¬ nI (100 + p) < (100 : Int32) from nI_nlt (a := 100 + p) (b := 100) (by omega) (by omega)), if_pos (show nI (100 + p) < (200 : Int32) from nI_lt (b := 200) (by omega) (by omega))]
        exact s_tried0 hF hI hn _ 1 0 (Or.inr (Or.inl ⟨p, hp, rfl, rfl, rfl⟩))
  · obtain ⟨k, -, hk, rfl⟩ := inr_nat (a := 0) (b := 2) (by omega) (by omega) h3 h4
    rw [e2]
    simp only [if_neg (show ¬ (1 : Int32) = 0 by decide), if_pos (show nI k < (100 : Int32) from nI_lt (b := 100) (by omega) (by omega)), if_pos (show nI k < (200 : Int32) from nI_lt (b := 200) (by omega) (by omega))]
    exact s_tried0 hF hI hn _ 0 0 (Or.inl ⟨k, hk, rfl, rfl, rfl⟩)
/-- one day of a trial -/
theorem s_pass1 {F e B : Nat} (hF : 300 ≤ F) {σ0 τ0 σ τ : jS} (h11 : σ0 0 11 = nI e) (h : dz 23 e B σ0 τ0 σ τ) : (τ 1 210 < 9999 → ∃ r σ' τ', mX11_passDays F 23 1 σ = some (r, σ') ∧ mX12_dayGoes F τ = some τ' ∧ dz 23 e B σ0 τ0 σ' τ') ∧ (¬ τ 1 210 < 9999 → ∃ r, mX11_passDays F 23 1 σ = some (r, σ)) := by
  obtain ⟨h1, ⟨f1, f2, f3, -⟩, -⟩ := id h
  have he := h1.2.1
  have hk : kX e = 3 := by rcases he with rfl | rfl <;> rfl
  have e11 : σ 0 11 = nI e := by rw [f1 0 (by omega) (by omega) (by omega)]; exact h11
  obtain ⟨G, rfl⟩ : ∃ G, F = G + 2 := ⟨F - 2, by omega⟩
  unfold mX11_passDays
  rw [j_bits _ σ h1.2.2.2.1.2.1.2]
  simp only [Option.bind_some]
  rw [lp_X11_passDays_11, if_pos (show (0 : Int32) < 1 by decide), show σ 23 6 = τ 1 210 from cityR_day_at h1.2.2.2.1]
  constructor
  · intro c1
    rw [if_pos c1, ltE]
    simp only [e11, nI_clamp (show e < 2 ^ 31 by omega), hk, if_true]
    obtain ⟨σ', τ', u1, u2, u3⟩ := s_day1 hF h c1 1 (nI (fa_cnt (bt (σ 23 4)) 16)) 0 (fun x2_5 x3_5 x4_5 q8 => lp_X11_passDays_11 (G + 2) 23 (G + 1) x2_5 x3_5 ((x4_5 + (1 : Int32))) q8)
    rw [u1, u2, lp_X11_passDays_11, if_neg (show ¬ (0 : Int32) + 1 < 1 by decide), j_bits _ σ' u3.1.2.2.2.1.2.1.2]
    exact ⟨_, σ', τ', rfl, rfl, u3⟩
  · intro c1
    rw [if_neg c1]
    exact ⟨_, rfl⟩
/-- no day goes by behind the last -/
theorem x_late {F p n : Nat} (hn : n ≤ 60) {σ : jS} (hpass : ∃ r, mX11_passDays F 23 1 σ = some (r, σ)) (hl : mX0_isLiving F 23 (nI p) σ = some 1) : ∀ (j k m : Nat), k + j = n → j < m → lp_X11_dies_49 F m (nI p) (nI n) (nI (k + 1)) σ = some (-2, σ) := by
  obtain ⟨r, hr⟩ := hpass
  intro j
  induction j with
  | zero =>
    intro k m hk hm
    obtain ⟨m, rfl⟩ : ∃ j, m = j + 1 := ⟨m - 1, by omega⟩
    rw [lp_X11_dies_49, if_pos (nI_lt (by omega) (by omega))]
  | succ j ih =>
    intro k m hk hm
    obtain ⟨m, rfl⟩ : ∃ j, m = j + 1 := ⟨m - 1, by omega⟩
    rw [lp_X11_dies_49, if_neg (nI_nlt (by omega) (by omega)), hr]
    simp only [Option.bind_some]
    rw [hl]
    simp only [Option.bind_some, if_neg (show ¬ (1 : Int32) = 0 by decide), nI1]
    exact ih (k + 1) m (by omega) (by omega)
theorem s_die {F e B p n : Nat} (hF : 300 ≤ F) (hp : p < 16) (hn : n ≤ 60) {σ0 τ0 : jS} (h11 : σ0 0 11 = nI e) : ∀ (j k m : Nat) (σ τ : jS), k + j = n → j + 1 < m → dz 23 e B σ0 τ0 σ τ → τ 1 (48 + p) = 1 → ∃ r σ' τ' z, lp_X11_dies_49 F m (nI p) (nI n) (nI (k + 1)) σ = some (r, σ') ∧ lp_X12_dies_33 F (fun x1_7 x3_7 σ7 => (jn_X12_dies_71 F x1_7 x3_7 σ7)) m (nI p) (nI n) (nI k) τ = jn_X12_dies_71 F (nI p) z τ' ∧ dz 23 e B σ0 τ0 σ' τ' ∧ ((τ' 1 (48 + p) = 1 ∧ r = -2) ∨ (τ' 1 (48 + p) = 0 ∧ r = z)) := by
  intro j
  induction j with
  | zero =>
    intro k m σ τ hk hm h hl
    obtain ⟨m, rfl⟩ : ∃ j, m = j + 1 := ⟨m - 1, by omega⟩
    rw [lp_X11_dies_49, lp_X12_dies_33, if_pos (nI_lt (by omega) (by omega)), m_live h.1.2.2.1, tl_in _ hp, hl]
    simp only [Option.bind_some, if_neg (show ¬ (1 : Int32) = 0 by decide)]
    rw [if_neg (nI_nlt (by omega) (by omega))]
    exact ⟨-2, σ, τ, nI k, rfl, rfl, h, Or.inl ⟨hl, rfl⟩⟩
  | succ j ih =>
    intro k m σ τ hk hm h hl
    obtain ⟨m, rfl⟩ : ∃ j, m = j + 1 := ⟨m - 1, by omega⟩
    obtain ⟨g1, g2⟩ := s_pass1 hF h11 h
    by_cases c1 : τ 1 210 < 9999
    · obtain ⟨r, σ', τ', u1, u2, u3⟩ := g1 c1
      rw [lp_X11_dies_49, lp_X12_dies_33, if_neg (nI_nlt (by omega) (by omega)), m_live h.1.2.2.1, tl_in _ hp, hl, u1]
      simp only [Option.bind_some, if_neg (show ¬ (1 : Int32) = 0 by decide)]
      rw [if_pos (nI_lt (by omega) (by omega)), if_pos c1, u2, x0_live u3.1.2.2.2.1, tl_in _ hp]
      simp only [Option.bind_some, ltE, nI1]
      rcases rk01 (u3.1.2.2.1.1 (48 + p) (by omega)) (Or.inr ⟨by omega, by omega⟩) with e0 | e0
      · rw [if_pos e0]
        obtain ⟨m, rfl⟩ : ∃ j, m = j + 1 := ⟨m - 1, by omega⟩
        rw [lp_X12_dies_33, m_live u3.1.2.2.1, tl_in _ hp, e0]
        simp only [Option.bind_some, if_true]
        exact ⟨_, σ', τ', nI (k + 1), rfl, rfl, u3, Or.inr ⟨e0, rfl⟩⟩
      · rw [if_neg (show ¬ τ' 1 (48 + p) = 0 by rw [e0]; decide)]
        exact ih (k + 1) m σ' τ' (by omega) (by omega) u3 e0
    · have hx := x_late (F := F) (p := p) hn (g2 c1) (by rw [x0_live h.1.2.2.2.1, tl_in _ hp]; exact congrArg some hl) (j + 1) k (m + 1) hk (by omega)
      rw [hx, lp_X12_dies_33, m_live h.1.2.2.1, tl_in _ hp, hl]
      simp only [Option.bind_some, if_neg (show ¬ (1 : Int32) = 0 by decide)]
      rw [if_pos (nI_lt (by omega) (by omega)), if_neg c1]
      exact ⟨-2, σ, τ, nI k, rfl, rfl, h, Or.inl ⟨hl, rfl⟩⟩
theorem s_dies (F : Nat) (hF : 300 ≤ F) : S_dies F Inv := by
  intro σ τ x1 x2 hI
  obtain ⟨-, hW, hR, -⟩ := id hI
  obtain ⟨e, hc, h11⟩ := cy_Inv hI
  unfold mX11_dies mX12_dies
  rw [x0_told hR, m_told hW, isW, isI, x0_live hR]
  rcases tl_cases (τ 1) x1 with ⟨e0, -⟩ | ⟨p, hp, rfl⟩
  · rw [e0]; exact ⟨-1, σ, τ, rfl, rfl, hI⟩
  simp only [tl_in _ hp, Option.bind_some]
  by_cases c0 : τ 1 p = 0
  · rw [if_pos c0, if_pos c0]; exact ⟨-1, σ, τ, rfl, rfl, hI⟩
  rw [if_neg c0, if_neg c0]
  rcases inr_c x2 1 60 with e1 | ⟨e1, h1, h2⟩
  · rw [e1]; exact ⟨-1, σ, τ, rfl, rfl, hI⟩
  obtain ⟨n, hn1, hn, rfl⟩ := inr_nat (a := 1) (b := 60) (by omega) (by omega) h1 h2
  rw [e1]
  simp only [if_neg (show ¬ (1 : Int32) = 0 by decide)]
  obtain ⟨σ1, τ1, a1, a2, a3, a4, a5, a6⟩ := s_aside hF hc
  have t1 : τ1 1 = τ 1 := a4 1 (by omega)
  rw [a2]
  simp only [Option.bind_some]
  rcases rk01 (hW.1 (48 + p) (by omega)) (Or.inr ⟨by omega, by omega⟩) with l0 | l1
  · -- dead already
    rw [if_pos l0]
    obtain ⟨G, rfl⟩ : ∃ G, F = G + 1 := ⟨F - 1, by omega⟩
    rw [lp_X12_dies_33, m_live a6.2.2.1, tl_in _ hp, t1, l0]
    simp only [Option.bind_some, if_true]
    unfold jn_X12_dies_71 jn_X12_dies_84
    obtain ⟨τ3, v1, v2, v3⟩ := m_copies (F := G + 1) (by omega) (a := 2) (b := 1) (by omega) τ1
    rw [m_live a6.2.2.1, tl_in _ hp, t1, l0, v1]
    simp only [Option.bind_some, if_true, if_neg (show ¬ (1 : Int32) = 0 by decide)]
    refine ⟨0, σ, τ3, rfl, rfl, Inv_trial hI (fun _ _ _ _ => rfl) (fun d q0 q1 q2 q3 q4 => by rw [v2 d q1, a4 d q2]) (fun k hk => by rw [v2 0 (by omega), a4 0 (by omega)]) (fun i hi => by rw [v3 i hi]; exact a5 i hi)⟩
  · rw [if_neg (show ¬ τ 1 (48 + p) = 0 by rw [l1]; decide), a1]
    simp only [Option.bind_some]
    obtain ⟨k0, -, ek0⟩ := wb_of32 (τ1 0 39)
    have hz : dz 23 e (k0 + fa_cnt (bt (σ1 23 4)) 16) σ1 τ1 σ1 τ1 := ⟨a6, ⟨fun _ _ _ _ => rfl, fun _ _ _ _ _ => rfl, fun _ _ => rfl, rfl⟩, k0, ek0, rfl⟩
    obtain ⟨r, σ2, τ2, z, u1, u2, u3, u4⟩ := s_die hF hp hn (σ0 := σ1) (τ0 := τ1) (by rw [a3 0 (by omega)]; exact h11) n 0 F σ1 τ1 (by omega) (by omega) hz (by rw [t1]; exact l1)
    have u1 : lp_X11_dies_49 F F (nI p) (nI n) 1 σ1 = some (r, σ2) := u1
    have u2 : lp_X12_dies_33 F _ F (nI p) (nI n) 0 τ1 = _ := u2
    rw [u1, u2]
    unfold jn_X12_dies_71 jn_X12_dies_84
    obtain ⟨h5, ⟨f1, f2, f3, -⟩, -⟩ := u3
    obtain ⟨τ3, v1, v2, v3⟩ := m_copies (F := F) (by omega) (a := 2) (b := 1) (by omega) τ2
    rw [m_live h5.2.2.1, tl_in _ hp, v1]
    simp only [Option.bind_some, if_true, if_neg (show ¬ (1 : Int32) = 0 by decide)]
    have hI2 : Inv σ2 τ3 := by
      refine Inv_trial hI (fun d q1 q2 q3 => by rw [f1 d (by omega) q2 q3, a3 d (by omega)]) (fun d q0 q1 q2 q3 q4 => by rw [v2 d q1, f2 d q0 q1 q3 q4, a4 d q2]) (fun k hk => by rw [v2 0 (by omega), f3 k hk, a4 0 (by omega)]) (fun i hi => ?_)
      rw [v3 i hi, f2 2 (by omega) (by omega) (by omega) (by omega)]
      exact a5 i hi
    rcases u4 with ⟨w1, rfl⟩ | ⟨w1, rfl⟩
    · rw [w1, if_neg (show ¬ (1 : Int32) = 0 by decide)]
      exact ⟨_, σ2, τ3, rfl, rfl, hI2⟩
    · rw [w1, if_pos rfl]
      exact ⟨_, σ2, τ3, rfl, rfl, hI2⟩
