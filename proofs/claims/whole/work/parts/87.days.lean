/-! ===== days, tried, dies ===== -/
theorem s_pass {F c e B : Nat} (hF : 300 ≤ F) {σ0 τ0 : jS} (h11 : σ0 0 11 = nI e) (hB : B ≤ 16) {n : Nat} (hn : n ≤ 60) : ∀ (j i m : Nat) (σ τ : jS), i + j = n → j < m → dz c e B σ0 τ0 σ τ → ∃ k σ' τ', lp_X11_passDays_11 F c m (nI n) (nI B) (nI i) σ = some (nI k, σ') ∧ lp_X12_daysGo_7 F m (nI n) (nI i) τ = some τ' ∧ τ' 0 39 = nI k ∧ dz c e B σ0 τ0 σ' τ' := by
  have fin : ∀ (σ τ : jS), dz c e B σ0 τ0 σ τ → ∃ k, (Option.bind (mJ6_bitCount_0f7a4 F ((σ c 4)) σ) fun q9 => some ((nI B - q9), σ)) = some (nI k, σ) ∧ τ 0 39 = nI k := by
    intro σ τ h
    obtain ⟨h1, -, k, k1, k2⟩ := h
    rw [j_bits F σ h1.2.2.2.1.2.1.2]
    simp only [Option.bind_some]
    rw [pk_sub (show fa_cnt (bt (σ c 4)) 16 ≤ B by omega)]
    exact ⟨k, by rw [show B - fa_cnt (bt (σ c 4)) 16 = k by omega], k1⟩
  intro j
  induction j with
  | zero =>
    intro i m σ τ hi hm h
    obtain ⟨m, rfl⟩ : ∃ j, m = j + 1 := ⟨m - 1, by omega⟩
    obtain ⟨k, f1, f2⟩ := fin σ τ h
    rw [lp_X11_passDays_11, lp_X12_daysGo_7, if_neg (nI_nlt (by omega) (by omega)), if_neg (nI_nlt (by omega) (by omega)), f1]
    exact ⟨k, σ, τ, rfl, rfl, f2, h⟩
  | succ j ih =>
    intro i m σ τ hi hm h
    obtain ⟨m, rfl⟩ : ∃ j, m = j + 1 := ⟨m - 1, by omega⟩
    obtain ⟨h1, ⟨f1, f2, f3, -⟩, -⟩ := id h
    have hc := h1.1
    have he := h1.2.1
    have hk : kX e = 3 := by rcases he with rfl | rfl <;> rfl
    have e11 : σ 0 11 = nI e := by rw [f1 0 (by omega) (by omega) (by omega)]; exact h11
    rw [lp_X11_passDays_11, lp_X12_daysGo_7, if_pos (nI_lt (by omega) (by omega)), if_pos (nI_lt (by omega) (by omega)), cityR_day_at h1.2.2.2.1]
    by_cases c1 : τ 1 210 < 9999
    · rw [if_pos c1, if_pos c1]
      rw [ltE]
      simp only [e11, nI_clamp (show e < 2 ^ 31 by omega), hk, if_true]
      obtain ⟨σ', τ', u1, u2, u3⟩ := s_day1 hF h c1 (nI n) (nI B) (nI i) (fun x2_5 x3_5 x4_5 q8 => lp_X11_passDays_11 F c m x2_5 x3_5 ((x4_5 + (1 : Int32))) q8)
      rw [u1, u2]
      simp only [Option.bind_some, nI1]
      exact ih (i + 1) m σ' τ' (by omega) (by omega) u3
    · rw [if_neg c1, if_neg c1]
      obtain ⟨k, g1, g2⟩ := fin σ τ h
      rw [g1]
      exact ⟨k, σ, τ, rfl, rfl, g2, h⟩
theorem s_passDays {F c e : Nat} (hF : 300 ≤ F) {σ τ : jS} (hc : cy c e σ τ) (h11 : σ 0 11 = nI e) {n : Nat} (hn : n ≤ 60) : ∃ k B σ' τ', mX11_passDays F c (nI n) σ = some (nI k, σ') ∧ mX12_daysGo F (nI n) τ = some τ' ∧ τ' 0 39 = nI k ∧ dz c e B σ (js τ 0 39 0) σ' τ' := by
  unfold mX11_passDays mX12_daysGo
  rw [ltE, j_bits F σ hc.2.2.2.1.2.1.2]
  simp only [Option.bind_some]
  have hB : fa_cnt (bt (σ c 4)) 16 ≤ 16 := fa_cnt_le _ 16
  have hz : dz c e (fa_cnt (bt (σ c 4)) 16) σ (js τ 0 39 0) σ (js τ 0 39 0) := by
    refine ⟨?_, ⟨fun _ _ _ _ => rfl, fun _ _ _ _ _ => rfl, fun _ _ => rfl, rfl⟩, 0, js_at _ _ _ _, by omega⟩
    obtain ⟨h1, h2, h3, h4, h5, h6⟩ := hc
    have e1 : js τ 0 39 0 1 = τ 1 := js_c _ _ _ (by omega)
    refine ⟨h1, h2, by rw [e1]; exact h3, by rw [e1]; exact h4, ?_, lawR_congr h6 (fun _ _ => rfl) (fun d a b => js_c _ _ _ (by omega)) (js_k _ _ (by omega))⟩
    unfold routX at h5 ⊢
    rw [js_c _ _ _ (show (4 : Nat) ≠ 0 by omega)]
    exact h5
  obtain ⟨k, σ', τ', u1, u2, u3, u4⟩ := s_pass hF h11 hB hn n 0 F σ (js τ 0 39 0) (by omega) (by omega) hz
  exact ⟨k, _, σ', τ', u1, u2, u3, u4⟩
theorem s_days (F : Nat) (hF : 300 ≤ F) : S_days F Inv := by
  intro σ τ x1 hI
  obtain ⟨e, hc, h11⟩ := cy_Inv hI
  unfold mX11_days mX12_days
  rw [isW, isI]
  rcases inr_c x1 1 60 with e2 | ⟨e2, h1, h2⟩
  · rw [e2]; exact ⟨-1, σ, τ, rfl, rfl, hI⟩
  obtain ⟨n, hn1, hn, rfl⟩ := inr_nat (a := 1) (b := 60) (by omega) (by omega) h1 h2
  rw [e2]
  simp only [Option.bind_some, if_neg (show ¬ (1 : Int32) = 0 by decide)]
  obtain ⟨k, B, σ', τ', u1, u2, u3, u4, ⟨f1, f2, f3, -⟩, -⟩ := s_passDays hF hc h11 hn
  rw [u1, u2]
  simp only [Option.bind_some, u3]
  refine ⟨nI k, σ', τ', rfl, rfl, ?_⟩
  have g2 : ∀ d, d ≠ 0 → d ≠ 1 → d ≠ 18 → d ≠ 19 → τ' d = τ d := fun d q1 q2 q3 q4 => by rw [f2 d q1 q2 q3 q4, js_c _ _ _ q1]
  have g3 : ∀ k, k ≠ 39 → τ' 0 k = τ 0 k := fun k hk => by rw [f3 k hk, js_k _ _ hk]
  refine Inv_city hI ⟨fun k _ => by rw [f1 0 (by omega) (by omega) (by omega)], f1 2 (by omega) (by omega) (by omega), fun c a b => f1 c (by omega) (by omega) (by omega), f1 34 (by omega) (by omega) (by omega), f1 35 (by omega) (by omega) (by omega), fun c a b => f1 c (by omega) (by omega) (by omega)⟩ ⟨g2 3 (by omega) (by omega) (by omega) (by omega), g2 4 (by omega) (by omega) (by omega) (by omega), g2 5 (by omega) (by omega) (by omega) (by omega), g2 6 (by omega) (by omega) (by omega) (by omega), fun c a b => g2 c (by omega) (by omega) (by omega) (by omega), g3 15 (by omega), g3 50 (by omega)⟩ (by rw [f1 1 (by omega) (by omega) (by omega)]) (g3 6 (by omega)) u4.2.2.1 u4.2.2.2.1
/-- behind a trial all is as it was -/
theorem Inv_trial {σ τ σ' τ' : jS} (h : Inv σ τ) (hX : ∀ d, (d < 23 ∨ 33 ≤ d) → d ≠ 58 → d ≠ 59 → σ' d = σ d) (hM : ∀ d, d ≠ 0 → d ≠ 1 → d ≠ 2 → d ≠ 18 → d ≠ 19 → τ' d = τ d) (h0 : ∀ k, k ≠ 39 → τ' 0 k = τ 0 k) (h1 : ∀ i, i < 212 → τ' 1 i = τ 1 i) : Inv σ' τ' := by
  obtain ⟨-, hW, hR, -⟩ := id h
  refine Inv_city h ⟨fun k _ => by rw [hX 0 (by omega) (by omega) (by omega)], hX 2 (by omega) (by omega) (by omega), fun c a b => hX c (by omega) (by omega) (by omega), hX 34 (by omega) (by omega) (by omega), hX 35 (by omega) (by omega) (by omega), fun c a b => hX c (by omega) (by omega) (by omega)⟩ ⟨hM 3 (by omega) (by omega) (by omega) (by omega) (by omega), hM 4 (by omega) (by omega) (by omega) (by omega) (by omega), hM 5 (by omega) (by omega) (by omega) (by omega) (by omega), hM 6 (by omega) (by omega) (by omega) (by omega) (by omega), fun c a b => hM c (by omega) (by omega) (by omega) (by omega) (by omega), h0 15 (by omega), h0 50 (by omega)⟩ (by rw [hX 1 (by omega) (by omega) (by omega)]) (h0 6 (by omega)) (cityW_congr hW h1) (cityR_congr2 (cityR_congr hR (fun j hj => hX _ (by omega) (by omega) (by omega))) h1)
theorem m_livingAt {F c : Nat} (hF : 17 ≤ F) {σ τ : jS} (h : cityW (τ 1)) (hR : cityR c σ (τ 1)) : mX12_livingSet F τ = some (σ c 4) := by
  unfold mX12_livingSet
  refine loop_p (fun n x a => lp_X12_livingSet_4 F τ n a x) 16 (fun i a => bitsR a (fun p => if p < i then τ 1 (48 + p) else 0)) (fun r => r = some (σ c 4)) ?_ ?_ F 0 0 (by omega) (by omega) ?_
  · intro n i a hi hP
    right
    show ∃ a', _ ∧ lp_X12_livingSet_4 F τ (n + 1) a (nI i) = lp_X12_livingSet_4 F τ n a' (nI (i + 1))
    rw [lp_X12_livingSet_4, if_pos (lt16 hi), m_live h, tl_in _ hi]
    simp only [Option.bind_some, lt, nI1]
    rcases rk01 (h.1 (48 + i) (by omega)) (Or.inr ⟨by omega, by omega⟩) with e | e
    · rw [if_pos e]
      refine ⟨a, bitsR_congr hP (fun p hp => ?_), rfl⟩
      by_cases h1 : p < i
      · simp [h1, show p < i + 1 by omega]
      · by_cases h2 : p = i
        · subst h2; simp [e]
        · simp [h1, show ¬ p < i + 1 by omega]
    · rw [if_neg (by rw [e]; decide)]
      refine ⟨_, bitsR_set hP hi (by simp [e]) (fun p hp hne => ?_), rfl⟩
      by_cases h1 : p < i
      · simp [h1, show p < i + 1 by omega]
      · simp [h1, show ¬ p < i + 1 by omega]
  · intro n a hP
    show lp_X12_livingSet_4 F τ (n + 1) a (nI 16) = _
    rw [lp_X12_livingSet_4, if_neg nlt16]
    exact congrArg some (bitsR_ext hP (bitsR_congr hR.2.1 (fun p hp => by simp [hp])))
  · exact ⟨fun p hp => ⟨Or.inl (by simp), by rw [b_0]; simp⟩, fun p _ => b_0 p⟩
/-- the city is laid aside, in both -/
theorem s_aside {F e : Nat} (hF : 300 ≤ F) {σ τ : jS} (hc : cy 3 e σ τ) : ∃ σ1 τ1, mX0_copy F 23 3 σ = some σ1 ∧ mX12_copies F 1 2 τ = some τ1 ∧ onlyX 23 σ σ1 ∧ (∀ d, d ≠ 2 → τ1 d = τ d) ∧ (∀ i, i < 212 → τ1 2 i = τ 1 i) ∧ cy 23 e σ1 τ1 := by
  obtain ⟨σ1, a1, a2, a3⟩ := x0_copy F (c := 23) (e := 3) σ (by omega)
  obtain ⟨τ1, b1, b2, b3⟩ := m_copies (F := F) (by omega) (a := 1) (b := 2) (by omega) τ
  obtain ⟨h1, h2, h3, h4, h5, h6⟩ := hc
  have e1 : τ1 1 = τ 1 := b2 1 (by omega)
  refine ⟨σ1, τ1, a1, b1, a2, b2, b3, Or.inr rfl, h2, by rw [e1]; exact h3, by rw [e1]; exact a3 _ h4, ?_, lawR_congr h6 (fun j hj => a2 _ (by omega)) (fun d a b => b2 d (by omega)) (by rw [b2 0 (by omega)])⟩
  unfold routX at h5 ⊢
  rw [a2 34 (by omega), b2 4 (by omega)]
  exact h5
theorem sub_back {x : Int32} {k p : Nat} (h : x - nI k = nI p) : x = nI (k + p) := by
  have : x = x - nI k + nI k := (Int32.sub_add_cancel x (nI k)).symm
  rw [this, h, nI_add, Nat.add_comm]
/-- what a trial comes to -/
theorem s_tried0 {F : Nat} (hF : 300 ≤ F) {σ τ : jS} (hI : Inv σ τ) {n : Nat} (hn : n ≤ 60) (x2 x3 x4 : Int32) (hx : (∃ k, k ≤ 2 ∧ x2 = nI k ∧ x3 = 0 ∧ x4 = 0) ∨ (∃ p, p < 16 ∧ x2 = nI (100 + p) ∧ x3 = 1 ∧ x4 = 0) ∨ ∃ l, nI l < τ 1 208 ∧ l < 24 ∧ x2 = nI (200 + l) ∧ x3 = 0 ∧ x4 = 1) : ∃ r σ' τ', jn_X11_tried_88 F (nI n) x2 x3 x4 σ = some (r, σ') ∧ jn_X12_tried_44 F (nI n) x2 τ = some (r, τ') ∧ Inv σ' τ' := by
  obtain ⟨e, hc, h11⟩ := cy_Inv hI
  obtain ⟨σ1, τ1, a1, a2, a3, a4, a5, a6⟩ := s_aside hF hc
  obtain ⟨k, B, σ2, τ2, u1, u2, u3, u4, ⟨f1, f2, f3, f4⟩, -⟩ := s_passDays hF a6 (by rw [a3 0 (by omega)]; exact h11) hn
  have hW := u4.2.2.1
  have hR := u4.2.2.2.1
  obtain ⟨τ3, v1, v2, v3⟩ := m_copies (F := F) (by omega) (a := 2) (b := 1) (by omega) τ2
  have hI2 : Inv σ2 τ3 := by
    refine Inv_trial hI (fun d q1 q2 q3 => by rw [f1 d (by omega) q2 q3, a3 d (by omega)]) (fun d q0 q1 q2 q3 q4 => by rw [v2 d q1, f2 d q0 q1 q3 q4, js_c _ _ _ q0, a4 d q2]) (fun k hk => by rw [v2 0 (by omega), f3 k hk, js_k _ _ hk, a4 0 (by omega)]) (fun i hi => ?_)
    rw [v3 i hi, f2 2 (by omega) (by omega) (by omega) (by omega), js_c _ _ _ (show (2 : Nat) ≠ 0 by omega)]
    exact a5 i hi
  unfold jn_X11_tried_88 jn_X12_tried_44
  rw [a1, a2]
  simp only [Option.bind_some]
  rw [u1, u2]
  simp only [Option.bind_some, ltE, u3, v1]
  rcases hx with ⟨j, hj, rfl, rfl, rfl⟩ | ⟨p, hp, rfl, rfl, rfl⟩ | ⟨l, hln, hl, rfl, rfl, rfl⟩
  · simp only [if_true]
    rw [m_livingAt (by omega) hW hR, show σ2 23 5 = τ2 1 209 from cityR_parish_at hR]
    simp only [Option.bind_some]
    match j, hj with
    | 0, _ => exact ⟨_, σ2, τ3, rfl, rfl, hI2⟩
    | 1, _ => exact ⟨_, σ2, τ3, rfl, rfl, hI2⟩
    | 2, _ => exact ⟨_, σ2, τ3, rfl, rfl, hI2⟩
  · have e1 : nI (100 + p) - (100 : Int32) = nI p := by
      rw [show nI (100 + p) - (100 : Int32) = nI (100 + p - 100) from pk_sub (a := 100 + p) (b := 100) (by omega), show 100 + p - 100 = p by omega]
    have e2 : (16 : Int32) + nI (100 + p) - (100 : Int32) = nI (16 + p) := by
      rw [show (16 : Int32) + nI (100 + p) = nI (16 + (100 + p)) from nI_add 16 (100 + p), show nI (16 + (100 + p)) - (100 : Int32) = nI (16 + (100 + p) - 100) from pk_sub (a := 16 + (100 + p)) (b := 100) (by omega), show 16 + (100 + p) - 100 = 16 + p by omega]
    have ne : ∀ k : Nat, k ≤ 2 → ¬ nI (100 + p) = nI k := fun k hk h => by have := nI_inj (by omega) (by omega) h; omega
    simp only [if_true, if_neg (show ¬ (1 : Int32) = 0 by decide), e1, e2, x0_beats hR hp, Option.bind_some, if_neg (show ¬ nI (100 + p) = (0 : Int32) from ne 0 (by omega)), if_neg (show ¬ nI (100 + p) = (1 : Int32) from ne 1 (by omega)), if_neg (show ¬ nI (100 + p) = (2 : Int32) from ne 2 (by omega)), if_pos (show nI (100 + p) < (200 : Int32) from nI_lt (b := 200) (by omega) (by omega)), jin_nI (show 16 + p < 212 by omega) (show 212 < 2 ^ 31 by omega), nI_clamp (show 16 + p < 2 ^ 31 by omega)]
    exact ⟨_, σ2, τ3, rfl, rfl, hI2⟩
  · have e1 : nI (200 + l) - (200 : Int32) = nI l := by
      rw [show nI (200 + l) - (200 : Int32) = nI (200 + l - 200) from pk_sub (a := 200 + l) (b := 200) (by omega), show 200 + l - 200 = l by omega]
    have e2 : (184 : Int32) + nI (200 + l) - (200 : Int32) = nI (184 + l) := by
      rw [show (184 : Int32) + nI (200 + l) = nI (184 + (200 + l)) from nI_add 184 (200 + l), show nI (184 + (200 + l)) - (200 : Int32) = nI (184 + (200 + l) - 200) from pk_sub (a := 184 + (200 + l)) (b := 200) (by omega), show 184 + (200 + l) - 200 = 184 + l by omega]
    have ne : ∀ k : Nat, k ≤ 2 → ¬ nI (200 + l) = nI k := fun k hk h => by have := nI_inj (by omega) (by omega) h; omega
    have hln2 : nI l < τ2 1 208 := by rw [f4, js_c _ _ _ (show (1 : Nat) ≠ 0 by omega), a4 1 (by omega)]; exact hln
    have hdue : mX6_dueOf F 26 (nI l) σ2 = some (τ2 1 (184 + l)) := by
      unfold mX6_dueOf
      rw [x6_has (c := 23) hW.1 hR]
      have e5 : ln (τ2 1 208) (nI l) = 1 := by
        unfold ln
        rw [if_neg (nI_pos (by omega)), if_pos hln2]
      simp only [e5, Option.bind_some, if_neg (show ¬ (1 : Int32) = 0 by decide), jin_nI hl (show 24 < 2 ^ 31 by omega), if_true, nI_clamp (show l < 2 ^ 31 by omega), show σ2 (26 + 6) l = τ2 1 (184 + l) from cityR_due_at hR hl hln2]
    simp only [if_neg (show ¬ (1 : Int32) = 0 by decide), e1, e2, hdue, Option.bind_some, if_neg (show ¬ nI (200 + l) = (0 : Int32) from ne 0 (by omega)), if_neg (show ¬ nI (200 + l) = (1 : Int32) from ne 1 (by omega)), if_neg (show ¬ nI (200 + l) = (2 : Int32) from ne 2 (by omega)), if_neg (show ¬ nI (200 + l) < (200 : Int32) from nI_nlt (a := 200 + l) (b := 200) (by omega) (by omega)), jin_nI (show 184 + l < 212 by omega) (show 212 < 2 ^ 31 by omega), if_true, nI_clamp (show 184 + l < 2 ^ 31 by omega)]
    exact ⟨_, σ2, τ3, rfl, rfl, hI2⟩
