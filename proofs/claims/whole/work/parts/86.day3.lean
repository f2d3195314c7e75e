/-- what the parish gives to one -/
theorem s_give {F c e B : Nat} (hF : 300 ≤ F) {σ0 τ0 σ τ : jS} (h : dy c e B σ0 τ0 σ τ) {p : Nat} (hp : p < 16) (hl : τ 1 (48 + p) = 1) (k : jS → Option jS) : ∃ σ' τ', (Option.bind (mX2_turnTo F (nI p) (24 : Int32) (0 : Int32) (0 : Int32) σ) fun q2 => (Option.bind (mX2_worth F (105 : Int32) (0 : Int32) (0 : Int32) (9999 : Int32) q2) fun q3 => (Option.bind (mX0_give F c (nI p) q3.1 q3.2) fun q4 => (k q4)))) = k σ' ∧ mX12_parishGives F (nI p) τ = some τ' ∧ dy c e B σ0 τ0 σ' τ' := by
  obtain ⟨σ1, τ1, a1, a2, a3, a4, a5, a6, -⟩ := s_ask hF h.1 h.2.1 hp (show 24 ≤ 24 by omega) (am := 0) (Or.inl rfl) 0 0 (by rw [if_pos rfl])
  have a1 : mX2_turnTo F (nI p) (24 : Int32) 0 0 σ = some σ1 := a1
  have a2 : mX12_feels F (nI p) (24 : Int32) 0 0 τ = some τ1 := a2
  obtain ⟨r, σ2, τ2, b1, b2, b3, b4, b5⟩ := s_worth hF a3 (kd := 105) (Or.inr rfl) 0 0 9999 (by decide)
  have b1 : mX2_worth F (105 : Int32) 0 0 9999 σ1 = some (r, σ2) := b1
  have b2 : mX12_byLaw F (105 : Int32) 0 9999 0 τ1 = some (r, τ2) := b2
  have hr : ∃ w, w ≤ 9999 ∧ r = nI w := by
    rcases b5 with rfl | ⟨c1, c2⟩
    · exact ⟨0, by omega, rfl⟩
    · obtain ⟨w, -, w2, w3⟩ := inr_nat (a := 0) (b := 9999) (by omega) (by omega) c1 c2
      exact ⟨w, w2, w3⟩
  obtain ⟨w, hw, rfl⟩ := hr
  have g : dy c e B σ0 τ0 σ2 τ2 := dy_ev h (sX_tr a4 (sX_ev b3)) (sat_ev a5 b3) (sM_tr a6 (sM_ev b4))
  have t2 : τ2 1 = τ 1 := (sM_tr a6 (sM_ev b4)) 1 (by omega) (by omega)
  have l2 : τ2 1 (48 + p) = 1 := by rw [t2]; exact hl
  have hW := g.1.2.2.1
  have hR := g.1.2.2.2.1
  obtain ⟨b, hb, eb⟩ := beats_n hW.1 hp
  obtain ⟨v, hv, ev⟩ := parish_n hW.1
  have b0 : 1 ≤ b := nz (by rw [← eb]; exact (hW.2 p hp l2).2)
  unfold mX12_parishGives
  rw [a1, a2]
  simp only [Option.bind_some]
  rw [b1, b2]
  simp only [Option.bind_some]
  unfold mX0_give
  rw [x0_live hR, tl_in _ hp]
  simp only [Option.bind_some, if_neg (show ¬ τ2 1 (48 + p) = 0 by rw [l2]; decide), jin_nI hp (show 16 < 2 ^ 31 by omega), if_true, ltE, nI_clamp (show p < 2 ^ 31 by omega), cityR_parish_at hR, cityR_beats_at hR hp, show (16 : Int32) + nI p = nI (16 + p) from nI_add 16 p, jin_nI (show 16 + p < 212 by omega) (show 212 < 2 ^ 31 by omega), nI_clamp (show 16 + p < 2 ^ 31 by omega), eb, ev]
  rw [show (999999999 : Int32) - nI b = nI (999999999 - b) from pk_sub (a := 999999999) (by omega), imin_nI (show w < 2 ^ 31 by omega) (show v < 2 ^ 31 by omega), imin_nI (show min w v < 2 ^ 31 by omega) (show 999999999 - b < 2 ^ 31 by omega), m_min F τ2 (show v < 2 ^ 31 by omega) (show 999999999 - b < 2 ^ 31 by omega)]
  simp only [Option.bind_some]
  rw [m_min F τ2 (show w < 2 ^ 31 by omega) (show min v (999999999 - b) < 2 ^ 31 by omega)]
  simp only [Option.bind_some]
  rw [Nat.min_assoc]
  have z1 : min w (min v (999999999 - b)) ≤ v := Nat.le_trans (Nat.min_le_right _ _) (Nat.min_le_left _ _)
  have z2 : min w (min v (999999999 - b)) ≤ 999999999 - b := Nat.le_trans (Nat.min_le_right _ _) (Nat.min_le_right _ _)
  generalize min w (min v (999999999 - b)) = z at z1 z2
  have s1 : js σ2 (c + 1) p (nI b + nI z) c 5 = nI v := by rw [js_c _ _ _ (show c ≠ c + 1 by omega), cityR_parish_at hR, ev]
  have m1 : js τ2 1 209 (nI v - nI z) 1 (16 + p) = nI b := by rw [js_k _ _ (show 16 + p ≠ 209 by omega), eb]
  rw [s1, m1, nI_add, pk_sub z1]
  refine ⟨_, _, rfl, rfl, dy_row g (onlyX_tr (onlyX_js _ _ _ (by omega)) (onlyX_js _ _ _ (by omega))) ?_ (fun d hd => by rw [js_c _ _ _ hd, js_c _ _ _ hd]) ?_ ?_ ?_⟩
  · rw [js_k _ _ (show (4 : Nat) ≠ 5 by omega), js_c _ _ _ (show c ≠ c + 1 by omega)]
  · rw [js_row, js_row]
    exact cityW_beats (cityW_parish hW (by omega)) hp (by omega) (by omega)
  · rw [js_row, js_row, fa_upd_swap _ (show 209 ≠ 16 + p by omega)]
    exact cityR_parish (cityR_beats hR hp _) _
  · exact ⟨by rw [js_k _ _ (show 210 ≠ 16 + p by omega), js_k _ _ (show 210 ≠ 209 by omega)], by rw [js_k _ _ (show 208 ≠ 16 + p by omega), js_k _ _ (show 208 ≠ 209 by omega)]⟩
theorem s_gives {F c e B : Nat} (hF : 300 ≤ F) {σ0 τ0 σ τ : jS} (h : dy c e B σ0 τ0 σ τ) (k : jS → Option jS) : ∃ σ' τ', mX11_giveFromParish F c σ = some σ' ∧ lp_X12_dayGoes_69 F k F 0 τ = k τ' ∧ dy c e B σ0 τ0 σ' τ' := by
  unfold mX11_giveFromParish
  refine loop_q (fun m y (a : jS) => lp_X11_giveFromParish_2 F c m y a) (fun m y (b : jS) => lp_X12_dayGoes_69 F k m y b) 16 (fun i a b => dy c e B σ0 τ0 a b) (fun r s => ∃ σ' τ', r = some σ' ∧ s = k τ' ∧ dy c e B σ0 τ0 σ' τ') ?_ ?_ F 0 σ τ (by omega) (by omega) h
  · intro m i a b hi hP
    right
    show ∃ a' b', _ ∧ lp_X11_giveFromParish_2 F c (m + 1) (nI i) a = lp_X11_giveFromParish_2 F c m (nI (i + 1)) a' ∧ lp_X12_dayGoes_69 F k (m + 1) (nI i) b = lp_X12_dayGoes_69 F k m (nI (i + 1)) b'
    have hW := hP.1.2.2.1
    have hR := hP.1.2.2.2.1
    rw [lp_X11_giveFromParish_2, lp_X12_dayGoes_69, if_pos (lt16 hi), if_pos (lt16 hi), x0_live hR, m_live hW, tl_in _ hi, nI1]
    simp only [Option.bind_some]
    by_cases c1 : b 1 (48 + i) = 0
    · rw [if_pos c1, if_pos c1]
      exact ⟨a, b, hP, rfl, rfl⟩
    · rw [if_neg c1, if_neg c1]
      obtain ⟨σ', τ', u1, u2, u3⟩ := s_give hF hP hi (live1 hW.1 hi c1) (lp_X11_giveFromParish_2 F c m (nI (i + 1)))
      rw [u1, u2]
      exact ⟨σ', τ', u3, rfl, rfl⟩
  · intro m a b hP
    show ∃ σ' τ', lp_X11_giveFromParish_2 F c (m + 1) (nI 16) a = some σ' ∧ lp_X12_dayGoes_69 F k (m + 1) (nI 16) b = _ ∧ _
    rw [lp_X11_giveFromParish_2, lp_X12_dayGoes_69, if_neg nlt16, if_neg nlt16]
    exact ⟨a, b, rfl, rfl, hP⟩
/-- what stays of a day's frame over many days -/
def dz (c e B : Nat) (σ0 τ0 σ τ : jS) : Prop := cy c e σ τ ∧ ((∀ d, (d < c ∨ c + 10 ≤ d) → d ≠ 58 → d ≠ 59 → σ d = σ0 d) ∧ (∀ d, d ≠ 0 → d ≠ 1 → d ≠ 18 → d ≠ 19 → τ d = τ0 d) ∧ (∀ k, k ≠ 39 → τ 0 k = τ0 0 k) ∧ τ 1 208 = τ0 1 208) ∧ ∃ k, τ 0 39 = nI k ∧ k + fa_cnt (bt (σ c 4)) 16 = B
theorem s_older {F c e B : Nat} (hF : 300 ≤ F) {σ0 τ0 σ τ : jS} (h : dy c e B σ0 τ0 σ τ) (hd : τ0 1 210 < 9999) : ∃ σ' τ', mX0_growOlder F c σ = some σ' ∧ lp_X12_dayGoes_96 F (fun σ16 => (lt (js σ16 1 210 ((σ16 1 210) + (1 : Int32))) fun σ17 => some σ17)) F 0 τ = some τ' ∧ cy c e σ' τ' ∧ (∀ d, (d < c ∨ c + 10 ≤ d) → d ≠ 58 → d ≠ 59 → σ' d = σ0 d) ∧ (∀ d, d ≠ 0 → d ≠ 1 → d ≠ 18 → d ≠ 19 → τ' d = τ0 d) ∧ (∀ k, k ≠ 39 → τ' 0 k = τ0 0 k) ∧ τ' 1 208 = τ0 1 208 ∧ ∃ k, τ' 0 39 = nI k ∧ k + fa_cnt (bt (σ' c 4)) 16 = B := by
  unfold mX0_growOlder
  refine loop_q (fun m y (a : jS) => lp_X0_growOlder_2 F c (fun σ5 => (lt (js σ5 c 6 (imin (9999 : Int32) ((σ5 c 6) + (1 : Int32)))) fun σ6 => some σ6)) m y a) (fun m y (b : jS) => lp_X12_dayGoes_96 F (fun σ16 => (lt (js σ16 1 210 ((σ16 1 210) + (1 : Int32))) fun σ17 => some σ17)) m y b) 16 (fun i a b => dy c e B σ0 τ0 a b) (fun r s => ∃ σ' τ', r = some σ' ∧ s = some τ' ∧ cy c e σ' τ' ∧ (∀ d, (d < c ∨ c + 10 ≤ d) → d ≠ 58 → d ≠ 59 → σ' d = σ0 d) ∧ (∀ d, d ≠ 0 → d ≠ 1 → d ≠ 18 → d ≠ 19 → τ' d = τ0 d) ∧ (∀ k, k ≠ 39 → τ' 0 k = τ0 0 k) ∧ τ' 1 208 = τ0 1 208 ∧ ∃ k, τ' 0 39 = nI k ∧ k + fa_cnt (bt (σ' c 4)) 16 = B) ?_ ?_ F 0 σ τ (by omega) (by omega) h
  · intro m i a b hi hP
    right
    show ∃ a' b', _ ∧ lp_X0_growOlder_2 F c _ (m + 1) (nI i) a = lp_X0_growOlder_2 F c _ m (nI (i + 1)) a' ∧ lp_X12_dayGoes_96 F _ (m + 1) (nI i) b = lp_X12_dayGoes_96 F _ m (nI (i + 1)) b'
    have hW := hP.1.2.2.1
    have hR := hP.1.2.2.2.1
    obtain ⟨g, hg, eg⟩ := age_n hW.1 hi
    rw [lp_X0_growOlder_2, lp_X12_dayGoes_96, if_pos (lt16 hi), if_pos (lt16 hi), x0_live hR, m_live hW, tl_in _ hi, nI1]
    simp only [Option.bind_some]
    by_cases c1 : b 1 (48 + i) = 0
    · rw [if_pos c1, if_pos c1]
      exact ⟨a, b, hP, rfl, rfl⟩
    · rw [if_neg c1, if_neg c1]
      simp only [jin_nI hi (show 16 < 2 ^ 31 by omega), if_true, ltE, nI_clamp (show i < 2 ^ 31 by omega), cityR_age_at hR hi, show (32 : Int32) + nI i = nI (32 + i) from nI_add 32 i, jin_nI (show 32 + i < 212 by omega) (show 212 < 2 ^ 31 by omega), nI_clamp (show 32 + i < 2 ^ 31 by omega), eg, nI1]
      rw [show imin (99999 : Int32) (nI (g + 1)) = nI (min 99999 (g + 1)) from imin_nI (a := 99999) (by omega) (by omega), show mX12_min F (99999 : Int32) (nI (g + 1)) b = some (nI (min 99999 (g + 1))) from m_min F b (a := 99999) (by omega) (by omega)]
      simp only [Option.bind_some]
      have hm : min 99999 (g + 1) ≤ 99999 := Nat.min_le_left _ _
      generalize min 99999 (g + 1) = w at hm
      refine ⟨_, _, dy_row hP (onlyX_js _ _ _ (by omega)) (by rw [js_c _ _ _ (show c ≠ c + 2 by omega)]) (fun d hd => js_c _ _ _ hd) ?_ ?_ ⟨js_k _ _ (by omega), js_k _ _ (by omega)⟩, rfl, rfl⟩
      · rw [js_row]; exact cityW_age hW hi hm
      · rw [js_row]; exact cityR_age hR hi _
  · intro m a b hP
    show ∃ σ' τ', lp_X0_growOlder_2 F c _ (m + 1) (nI 16) a = some σ' ∧ lp_X12_dayGoes_96 F _ (m + 1) (nI 16) b = some τ' ∧ _
    obtain ⟨h1, h2, ⟨f1, f2, f3, f4⟩, k, k1, k2⟩ := id hP
    have hW := h1.2.2.1
    have hR := h1.2.2.2.1
    obtain ⟨g, hg, eg⟩ := day_n hW.1
    rw [← f4.1, eg] at hd
    have hg2 : g < 9999 := by
      rcases Nat.lt_or_ge g 9999 with q | q
      · exact q
      · exact absurd hd (show ¬ nI g < (9999 : Int32) from nI_nlt (b := 9999) q (by omega))
    rw [lp_X0_growOlder_2, lp_X12_dayGoes_96, if_neg nlt16, if_neg nlt16]
    simp only [ltE, cityR_day_at hR, eg, nI1]
    rw [show imin (9999 : Int32) (nI (g + 1)) = nI (g + 1) by
      rw [show imin (9999 : Int32) (nI (g + 1)) = nI (min 9999 (g + 1)) from imin_nI (a := 9999) (by omega) (by omega), Nat.min_eq_right (by omega)]]
    have t1 : js b 1 210 (nI (g + 1)) 1 = upd (b 1) 210 (nI (g + 1)) := js_row _ _ _ _
    refine ⟨_, _, rfl, rfl, cy_new h1 (onlyX_js _ _ _ (by omega)) (fun d _ hd => js_c _ _ _ hd) (by rw [js_c _ _ _ (show (0 : Nat) ≠ 1 by omega)]) (by rw [t1]; exact cityW_day hW (by omega)) (by rw [t1]; exact cityR_day hR _), fun d q1 q2 q3 => ?_, fun d q1 q2 q3 q4 => by rw [js_c _ _ _ q2]; exact f2 d q1 q2 q3 q4, fun k hk => by rw [js_c _ _ _ (show (0 : Nat) ≠ 1 by omega)]; exact f3 k hk, by rw [js_k _ _ (show 208 ≠ 210 by omega)]; exact f4.2, k, by rw [js_c _ _ _ (show (0 : Nat) ≠ 1 by omega)]; exact k1, by rw [js_k _ _ (show (4 : Nat) ≠ 6 by omega)]; exact k2⟩
    rw [js_c _ _ _ (by omega)]
    exact f1 d q1 q2 q3
/-- one day -/
theorem s_day1 {F c e B : Nat} (hF : 300 ≤ F) {σ0 τ0 σ τ : jS} (h : dz c e B σ0 τ0 σ τ) (hd : τ 1 210 < 9999) (x2 x3 x4 : Int32) (kk : Int32 → Int32 → Int32 → jS → Option (Int32 × jS)) : ∃ σ' τ', (Option.bind (mX2_sit F c e σ) fun q3 => (lp_X11_passDays_42 F c (fun x2_5 x3_5 x4_5 σ5 => (Option.bind (mX0_payLoans F c σ5) fun q6 => (Option.bind (mX11_giveFromParish F c q6) fun q7 => (Option.bind (mX0_growOlder F c q7) fun q8 => (kk x2_5 x3_5 x4_5 q8))))) F x2 x3 x4 (0 : Int32) q3)) = kk x2 x3 x4 σ' ∧ mX12_dayGoes F τ = some τ' ∧ dz c e B σ0 τ0 σ' τ' := by
  obtain ⟨h1, ⟨f1, f2, f3, f4⟩, k, k1, k2⟩ := id h
  have hc := h1.1
  obtain ⟨σ1, a1, a2, a3⟩ := s_sit (F := F) (c := c) (e := e) σ
  rw [a1]
  simp only [Option.bind_some]
  have hy : dy c e B σ1 τ σ1 τ := ⟨cy_tr h1 a2 (sM_rf _), a3, ⟨fun _ _ _ _ => rfl, fun _ _ _ _ _ => rfl, fun _ _ => rfl, rfl, rfl⟩, k, k1, by rw [a2 c (by omega) (by omega)]; exact k2⟩
  unfold mX12_dayGoes
  refine loop_q (fun m y (a : jS) => lp_X11_passDays_42 F c (fun x2_5 x3_5 x4_5 σ5 => (Option.bind (mX0_payLoans F c σ5) fun q6 => (Option.bind (mX11_giveFromParish F c q6) fun q7 => (Option.bind (mX0_growOlder F c q7) fun q8 => (kk x2_5 x3_5 x4_5 q8))))) m x2 x3 x4 y a) (fun m y (b : jS) => lp_X12_dayGoes_2 F (fun σ4 => (lp_X12_dayGoes_44 F (fun σ6 => (lp_X12_dayGoes_69 F (fun σ9 => (lp_X12_dayGoes_96 F (fun σ16 => (lt (js σ16 1 210 ((σ16 1 210) + (1 : Int32))) fun σ17 => some σ17)) F (0 : Int32) σ9)) F (0 : Int32) σ6)) F (0 : Int32) σ4)) m y b) 24 (fun i a b => dy c e B σ1 τ a b) (fun r s => ∃ σ' τ', r = kk x2 x3 x4 σ' ∧ s = some τ' ∧ dz c e B σ0 τ0 σ' τ') ?_ ?_ F 0 σ1 τ (by omega) (by omega) hy
  · intro m i a b hi hP
    right
    show ∃ a' b', _ ∧ lp_X11_passDays_42 F c _ (m + 1) x2 x3 x4 (nI i) a = lp_X11_passDays_42 F c _ m x2 x3 x4 (nI (i + 1)) a' ∧ lp_X12_dayGoes_2 F _ (m + 1) (nI i) b = lp_X12_dayGoes_2 F _ m (nI (i + 1)) b'
    rw [lp_X11_passDays_42, lp_X12_dayGoes_2, if_pos (lt24 hi), if_pos (lt24 hi)]
    obtain ⟨σ', τ', u1, u2, u3⟩ := s_hours hF hP hi (fun x1_3 σ3 => (lp_X12_dayGoes_2 F (fun σ4 => (lp_X12_dayGoes_44 F (fun σ6 => (lp_X12_dayGoes_69 F (fun σ9 => (lp_X12_dayGoes_96 F (fun σ16 => (lt (js σ16 1 210 ((σ16 1 210) + (1 : Int32))) fun σ17 => some σ17)) F (0 : Int32) σ9)) F (0 : Int32) σ6)) F (0 : Int32) σ4)) m ((x1_3 + (1 : Int32))) σ3))
    rw [u1, u2]
    simp only [Option.bind_some, nI1]
    exact ⟨σ', τ', u3, rfl, rfl⟩
  · intro m a b hP
    show ∃ σ' τ', lp_X11_passDays_42 F c _ (m + 1) x2 x3 x4 (nI 24) a = _ ∧ lp_X12_dayGoes_2 F _ (m + 1) (nI 24) b = some τ' ∧ _
    rw [lp_X11_passDays_42, lp_X12_dayGoes_2, if_neg nlt24, if_neg nlt24]
    obtain ⟨σ2, τ2, u1, u2, u3⟩ := s_loans hF hP (fun σ6 => (lp_X12_dayGoes_69 F (fun σ9 => (lp_X12_dayGoes_96 F (fun σ16 => (lt (js σ16 1 210 ((σ16 1 210) + (1 : Int32))) fun σ17 => some σ17)) F (0 : Int32) σ9)) F (0 : Int32) σ6))
    rw [u1, u2]
    simp only [Option.bind_some]
    obtain ⟨σ3, τ3, v1, v2, v3⟩ := s_gives hF u3 (fun σ9 => (lp_X12_dayGoes_96 F (fun σ16 => (lt (js σ16 1 210 ((σ16 1 210) + (1 : Int32))) fun σ17 => some σ17)) F (0 : Int32) σ9))
    rw [v1, v2]
    simp only [Option.bind_some]
    obtain ⟨σ4, τ4, w1, w2, w3, w4, w5, w6, w8, w7⟩ := s_older hF v3 hd
    rw [w1, w2]
    refine ⟨σ4, τ4, rfl, rfl, w3, ⟨fun d q1 q2 q3 => ?_, fun d q1 q2 q3 q4 => ?_, fun k hk => ?_, by rw [w8]; exact f4⟩, w7⟩
    · rw [w4 d q1 q2 q3, a2 d q2 q3]; exact f1 d q1 q2 q3
    · rw [w5 d q1 q2 q3 q4]; exact f2 d q1 q2 q3 q4
    · rw [w6 k hk]; exact f3 k hk
