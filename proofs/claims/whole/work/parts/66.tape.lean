/-! ===== the tape ===== -/
theorem byte_same (x : Int32) {k : Nat} (hk : k ≤ 3) : (vp_nar .byte ((x >>> (nI (8 * k) &&& 31)).toInt8.toInt32)) &&& 255 = (x.toUInt32 >>> ((nI (8 * k)).toUInt32 &&& Int32.toUInt32 31)).toInt32 &&& 255 := by
  rw [vp_nar_byte, fb_byte_twice, bp_b]
  apply b_ext
  intro i hi
  rw [b_and, b_and, b_255, b_ushr (8 * k) (by omega), b_sshr (8 * k) (by omega) x hi]
  by_cases h : i < 8
  · rw [if_pos (by omega)]
  · simp [h]
theorem s_step (F : Nat) {σ τ : jS} {n : Nat} (hn : n < 260) (h1 : σ 1 1 = nI n) (h2 : τ 0 6 = nI n) (h3 : ∀ i, i < 260 → σ 2 i = τ 6 i &&& 255) (x : Int32) (m : Nat) {k : Nat} (hk : k ≤ 3) :
    ∃ σ' τ', lp_X10_add_3 F (m + 1) x (nI (8 * k)) σ = lp_X10_add_3 F m x (nI (8 * k) + (-8)) σ' ∧ lp_X12_types_2 F (m + 1) x (nI k) τ = lp_X12_types_2 F m x (nI k + (-1)) τ' ∧ σ' 1 1 = nI (n + 1) ∧ τ' 0 6 = nI (n + 1) ∧ (∀ i, i < 260 → σ' 2 i = τ' 6 i &&& 255) ∧ (∀ d, d ≠ 1 → d ≠ 2 → σ' d = σ d) ∧ (∀ d, d ≠ 0 → d ≠ 6 → τ' d = τ d) ∧ ∀ j, j ≠ 6 → τ' 0 j = τ 0 j := by
  rw [lp_X10_add_3, lp_X12_types_2, if_neg (nI_pos (show 8 * k < 2 ^ 31 by omega)), if_neg (nI_pos (show k < 2 ^ 31 by omega)), h1, h2]
  have e8 : (8 : Int32) * nI k = nI (8 * k) := pk_mul 8 k
  simp only [if_pos (show nI n < (260 : Int32) from nI_lt (b := 260) hn (by omega)), jin_nI hn (show 260 < 2 ^ 31 by omega), if_true, lt, nI_clamp (show n < 2 ^ 31 by omega), js_c _ _ _ (show (1 : Nat) ≠ 2 by omega), js_c _ _ _ (show (0 : Nat) ≠ 6 by omega), h1, h2, nI1, e8]
  refine ⟨_, _, rfl, rfl, js_at _ _ _ _, js_at _ _ _ _, ?_, ?_, ?_, ?_⟩
  · intro i hi
    rw [js_c _ _ _ (show (2 : Nat) ≠ 1 by omega), js_c _ _ _ (show (6 : Nat) ≠ 0 by omega)]
    by_cases e : i = n
    · subst e
      rw [js_at, js_at, byte_same x hk]
    · rw [js_k _ _ e, js_k _ _ e]
      exact h3 i hi
  · intro d a b
    rw [js_c _ _ _ a, js_c _ _ _ b]
  · intro d a b
    rw [js_c _ _ _ a, js_c _ _ _ b]
  · intro j hj
    rw [js_k _ _ hj, js_c _ _ _ (by omega)]
theorem s_four {F : Nat} (hF : 5 ≤ F) {σ τ : jS} {n : Nat} (hn : n + 4 ≤ 260) (h1 : σ 1 1 = nI n) (h2 : τ 0 6 = nI n) (h3 : ∀ i, i < 260 → σ 2 i = τ 6 i &&& 255) (x : Int32) :
    ∃ σ' τ', mX10_add F x σ = some σ' ∧ mX12_types F x τ = some τ' ∧ σ' 1 1 = nI (n + 4) ∧ τ' 0 6 = nI (n + 4) ∧ (∀ i, i < 260 → σ' 2 i = τ' 6 i &&& 255) ∧ (∀ d, d ≠ 1 → d ≠ 2 → σ' d = σ d) ∧ (∀ d, d ≠ 0 → d ≠ 6 → τ' d = τ d) ∧ ∀ j, j ≠ 6 → τ' 0 j = τ 0 j := by
  obtain ⟨m, rfl⟩ : ∃ m, F = m + 5 := ⟨F - 5, by omega⟩
  unfold mX10_add mX12_types
  obtain ⟨σ1, τ1, a1, a2, a3, a4, a5, a6, a7, a8⟩ := s_step (m + 5) (show n < 260 by omega) h1 h2 h3 x (m + 4) (k := 3) (by omega)
  obtain ⟨σ2, τ2, b1, b2, b3, b4, b5, b6, b7, b8⟩ := s_step (m + 5) (show n + 1 < 260 by omega) a3 a4 a5 x (m + 3) (k := 2) (by omega)
  obtain ⟨σ3, τ3, c1, c2, c3, c4, c5, c6, c7, c8⟩ := s_step (m + 5) (show n + 1 + 1 < 260 by omega) b3 b4 b5 x (m + 2) (k := 1) (by omega)
  obtain ⟨σ4, τ4, d1, d2, d3, d4, d5, d6, d7, d8⟩ := s_step (m + 5) (show n + 1 + 1 + 1 < 260 by omega) c3 c4 c5 x (m + 1) (k := 0) (by omega)
  refine ⟨σ4, τ4, ?_, ?_, d3, d4, d5, ?_, ?_, ?_⟩
  · refine (show _ = _ from a1).trans ?_
    refine (show _ = _ from b1).trans ?_
    refine (show _ = _ from c1).trans ?_
    refine (show _ = _ from d1).trans ?_
    rw [lp_X10_add_3, if_pos (by decide)]
  · refine (show _ = _ from a2).trans ?_
    refine (show _ = _ from b2).trans ?_
    refine (show _ = _ from c2).trans ?_
    refine (show _ = _ from d2).trans ?_
    rw [lp_X12_types_2, if_pos (by decide)]
  · intro d a b
    rw [d6 d a b, c6 d a b, b6 d a b, a6 d a b]
  · intro d a b
    rw [d7 d a b, c7 d a b, b7 d a b, a7 d a b]
  · intro j hj
    rw [d8 j hj, c8 j hj, b8 j hj, a8 j hj]
theorem s_feed (F : Nat) (hF : 5 ≤ F) : S_feed F Inv := by
  intro σ τ x1 x2 x3 x4 x5 hI
  obtain ⟨⟨⟨n, hn, t1, t2⟩, t3⟩, hW, hR, hK, hO, hL⟩ := id hI
  unfold mX11_feed mX12_feed
  rw [t1, t2]
  have e20 : nI n + (20 : Int32) = nI (n + 20) := nI_add n 20
  rw [e20]
  by_cases c : n + 20 ≤ 260
  · rw [if_neg (show ¬ (240 : Int32) < nI n from nI_nlt (a := 240) (by omega) (by omega)), if_neg (show ¬ (260 : Int32) < nI (n + 20) from nI_nlt (a := 260) (by omega) (by omega))]
    obtain ⟨σ1, τ1, a1, a2, a3, a4, a5, a6, a7, a8⟩ := s_four hF (show n + 4 ≤ 260 by omega) t1 t2 t3 x1
    obtain ⟨σ2, τ2, b1, b2, b3, b4, b5, b6, b7, b8⟩ := s_four hF (show n + 4 + 4 ≤ 260 by omega) a3 a4 a5 x2
    obtain ⟨σ3, τ3, c1, c2, c3, c4, c5, c6, c7, c8⟩ := s_four hF (show n + 4 + 4 + 4 ≤ 260 by omega) b3 b4 b5 x3
    obtain ⟨σ4, τ4, d1, d2, d3, d4, d5, d6, d7, d8⟩ := s_four hF (show n + 4 + 4 + 4 + 4 ≤ 260 by omega) c3 c4 c5 x4
    obtain ⟨σ5, τ5, f1, f2, f3, f4, f5, f6, f7, f8⟩ := s_four hF (show n + 4 + 4 + 4 + 4 + 4 ≤ 260 by omega) d3 d4 d5 x5
    simp only [a1, a2, b1, b2, c1, c2, d1, d2, f1, f2, Option.bind_some]
    have oX : ∀ d, d ≠ 1 → d ≠ 2 → σ5 d = σ d := fun d a b => by rw [f6 d a b, d6 d a b, c6 d a b, b6 d a b, a6 d a b]
    have oM : ∀ d, d ≠ 0 → d ≠ 6 → τ5 d = τ d := fun d a b => by rw [f7 d a b, d7 d a b, c7 d a b, b7 d a b, a7 d a b]
    have oN : ∀ j, j ≠ 6 → τ5 0 j = τ 0 j := fun j a => by rw [f8 j a, d8 j a, c8 j a, b8 j a, a8 j a]
    refine ⟨nI (n + 4 + 4 + 4 + 4 + 4), σ5, τ5, by rw [f3], by rw [f4], ⟨⟨⟨_, by omega, f3, f4⟩, f5⟩, by rw [oM 1 (by omega) (by omega)]; exact hW, by rw [oM 1 (by omega) (by omega)]; exact cityR_congr hR (fun j hj => oX _ (by omega) (by omega)), ?_, ?_, ?_⟩⟩
    · unfold keptR at hK ⊢
      rw [oX 0 (by omega) (by omega), oN 50 (by omega), oM 3 (by omega) (by omega)]
      rcases hK with h | ⟨k1, k2, k3, k4⟩
      · exact Or.inl h
      · exact Or.inr ⟨k1, k2, k3, cityR_congr k4 (fun j hj => oX _ (by omega) (by omega))⟩
    · unfold routR at hO ⊢
      rw [oX 34 (by omega) (by omega), oX 35 (by omega) (by omega), oM 4 (by omega) (by omega), oM 5 (by omega) (by omega)]
      exact hO
    · exact lawI_congr hL (by rw [oX 0 (by omega) (by omega)]) (by rw [oX 0 (by omega) (by omega)]) (fun c h1 h2 => oX c (by omega) (by omega)) (fun c h1 h2 => oM c (by omega) (by omega)) (oN 15 (by omega))
  · rw [if_pos (show (240 : Int32) < nI n from nI_lt (a := 240) (by omega) (by omega)), if_pos (show (260 : Int32) < nI (n + 20) from nI_lt (a := 260) (by omega) (by omega))]
    exact ⟨-1, σ, τ, rfl, rfl, hI⟩
/-- a text is opened: the tape is empty, its bytes stay -/
theorem x10_open (F : Nat) (σ : jS) {n : Nat} (hn : n ≤ 260) : ∃ σ', mX10_open F (nI n) σ = some σ' ∧ (∀ d, d ≠ 1 → σ' d = σ d) ∧ σ' 1 1 = 0 ∧ σ' 1 2 = nI n ∧ σ' 1 3 = 0 ∧ σ' 1 4 = (if 0 < n then σ 2 0 else -1) ∧ σ' 1 5 = 0 := by
  unfold mX10_open
  have em : imin (nI n) (260 : Int32) = nI n := by
    unfold imin
    rw [if_neg (show ¬ (260 : Int32) < nI n from nI_nlt (a := 260) hn (by omega))]
  simp only [em, lt, js_k _ _ (show (2 : Nat) ≠ 3 by omega), js_at, js_c _ _ _ (show (2 : Nat) ≠ 1 by omega)]
  by_cases c : 0 < n
  · rw [if_pos (show 0 < nI n from nI_lt (a := 0) c (by omega)), if_pos c]
    refine ⟨_, rfl, fun d hd => ?_, ?_, ?_, ?_, ?_, ?_⟩
    · rw [js_c _ _ _ hd, js_c _ _ _ hd, js_c _ _ _ hd, js_c _ _ _ hd, js_c _ _ _ hd]
    · rw [js_at]
    · rw [js_k _ _ (by omega), js_k _ _ (by omega), js_k _ _ (by omega), js_k _ _ (by omega), js_at]
    · rw [js_k _ _ (by omega), js_k _ _ (by omega), js_k _ _ (by omega), js_at]
    · rw [js_k _ _ (by omega), js_k _ _ (by omega), js_at]
    · rw [js_k _ _ (by omega), js_at]
  · rw [if_neg (show ¬ 0 < nI n from nI_nlt (b := n) (a := 0) (by omega) (by omega)), if_neg c]
    refine ⟨_, rfl, fun d hd => ?_, ?_, ?_, ?_, ?_, ?_⟩
    · rw [js_c _ _ _ hd, js_c _ _ _ hd, js_c _ _ _ hd, js_c _ _ _ hd, js_c _ _ _ hd]
    · rw [js_at]
    · rw [js_k _ _ (by omega), js_k _ _ (by omega), js_k _ _ (by omega), js_k _ _ (by omega), js_at]
    · rw [js_k _ _ (by omega), js_k _ _ (by omega), js_k _ _ (by omega), js_at]
    · rw [js_k _ _ (by omega), js_k _ _ (by omega), js_at]
    · rw [js_k _ _ (by omega), js_at]
theorem keepX_open {σ σ' : jS} (h : ∀ d, d ≠ 1 → σ' d = σ d) : keepX σ σ' := ⟨fun k _ => by rw [h 0 (by omega)], h 2 (by omega), fun c _ _ => h c (by omega), h 34 (by omega), h 35 (by omega), fun c _ _ => h c (by omega)⟩
theorem keepM_open (τ : jS) (v : Int32) : keepM τ (js τ 0 6 v) := by
  have h : ∀ d, d ≠ 0 → js τ 0 6 v d = τ d := fun d hd => js_c _ _ _ hd
  exact ⟨h 1 (by omega), h 3 (by omega), h 4 (by omega), h 5 (by omega), h 6 (by omega), fun c _ _ => h c (by omega), js_k _ _ (by omega), js_k _ _ (by omega)⟩
/-- a byte of the tape as a number -/
def bb (τ : jS) (i : Nat) : Nat := (τ 6 i &&& 255).toNatClampNeg
theorem bb_n (τ : jS) (i : Nat) : bb τ i < 256 ∧ τ 6 i &&& 255 = nI (bb τ i) := by
  obtain ⟨j, hj, e⟩ := pk_andE (τ 6 i) (m := 255) 8 (by decide)
  unfold bb
  rw [e, nI_clamp (by omega)]
  exact ⟨hj, rfl⟩
theorem m_oct (F : Nat) (τ : jS) {i : Nat} (hi : i < 260) : mX12_octet F (nI i) τ = some (nI (bb τ i)) := by
  unfold mX12_octet
  rw [if_pos (jin_nI hi (by omega)), nI_clamp (by omega), (bb_n τ i).2]
theorem x_byte (F : Nat) {σ τ : jS} (h : ∀ i, i < 260 → σ 2 i = τ 6 i &&& 255) {i : Nat} (hi : i < 260) : mX10_byteAt F (nI i) σ = some (nI (bb τ i)) := by
  unfold mX10_byteAt
  rw [if_neg (nI_pos (by omega)), if_pos (show nI i < (260 : Int32) from nI_lt (b := 260) hi (by omega)), if_pos (jin_nI hi (by omega)), nI_clamp (by omega), h i hi, (bb_n τ i).2]
theorem x_has {F : Nat} {σ : jS} {n m : Nat} (h : σ 1 1 = nI n) (hn : n ≤ 260) (hm : m ≤ 260) : mX10_has F (nI m) σ = some (if m ≤ n then 1 else 0) := by
  unfold mX10_has
  rw [h]
  by_cases c : m ≤ n
  · rw [if_neg (nI_nlt c (by omega)), if_pos c]
  · rw [if_pos (nI_lt (by omega) (by omega)), if_neg c]
/-! ===== check ===== -/
theorem s_check (F : Nat) (hF : 17 ≤ F) : S_check F Inv := by
  intro σ τ x hI
  obtain ⟨⟨⟨n, hn, t1, t2⟩, t3⟩, hW, hR, hK, hO, hL⟩ := id hI
  unfold mX11_check mX12_check
  rw [isW, isI]
  rcases inr_c x 0 16 with e | ⟨e, h1, h2⟩
  · simp only [e, Option.bind_some, if_true]
    exact ⟨-2, σ, τ, rfl, rfl, hI⟩
  obtain ⟨m, -, hm, rfl⟩ := inr_nat (a := 0) (b := 16) (by omega) (by omega) h1 h2
  simp only [e, Option.bind_some, if_neg (show ¬ (1 : Int32) = 0 by decide), x_has t1 hn (show m ≤ 260 by omega), t2]
  by_cases c : m ≤ n
  · obtain ⟨σ1, e1, o1, s1, -, -, -, -⟩ := x10_open F σ (show m ≤ 260 by omega)
    rw [if_pos c, if_neg (show ¬ nI n < nI m from nI_nlt c (by omega))]
    simp only [if_neg (show ¬ (1 : Int32) = 0 by decide), e1, Option.bind_some, lt]
    have hI2 : Inv σ1 (js τ 0 6 0) := Inv_empty hI (keepX_open o1) s1 (keepM_open τ 0) (js_at _ _ _ _)
    generalize js τ 0 6 0 = τ1 at hI2 ⊢
    obtain ⟨⟨-, t4⟩, hW2, hR2, -⟩ := id hI2
    refine loop_q (fun k y (a : Unit) => lp_X11_check_34 F k (nI m) y σ1) (fun k y (b : Unit) => lp_X12_check_28 F k (nI m) y τ1) m (fun i a b => True) (fun r s => ∃ z σ' τ', r = some (z, σ') ∧ s = some (z, τ') ∧ Inv σ' τ') ?_ ?_ F 0 () () (by omega) (by omega) trivial
    · intro k i _ _ hi _
      show (∃ z σ' τ', lp_X11_check_34 F (k + 1) (nI m) (nI i) σ1 = some (z, σ') ∧ lp_X12_check_28 F (k + 1) (nI m) (nI i) τ1 = some (z, τ') ∧ Inv σ' τ') ∨ ∃ (a' b' : Unit), True ∧ lp_X11_check_34 F (k + 1) (nI m) (nI i) σ1 = lp_X11_check_34 F k (nI m) (nI (i + 1)) σ1 ∧ lp_X12_check_28 F (k + 1) (nI m) (nI i) τ1 = lp_X12_check_28 F k (nI m) (nI (i + 1)) τ1
      have hi16 : i < 16 := by omega
      rw [lp_X11_check_34, lp_X12_check_28, if_pos (nI_lt hi (by omega)), if_pos (nI_lt hi (by omega))]
      unfold jn_X11_check_55
      simp only [x0_live hR2, x0_told hR2, m_told hW2, tl_in _ hi16, x_byte F t4 (show i < 260 by omega), m_oct F τ1 (show i < 260 by omega), Option.bind_some, lt, nI1, show (48 : Int32) + nI i = nI (48 + i) from nI_add 48 i, jin_nI (show 48 + i < 212 by omega) (show 212 < 2 ^ 31 by omega), if_true, nI_clamp (show 48 + i < 2 ^ 31 by omega)]
      have e01 : ∀ v : Int32, v = 0 ∨ v = 1 → (if v = 0 then (if nI (bb τ1 i) = 0 then lp_X11_check_34 F k (nI m) (nI (i + 1)) σ1 else some (nI i, σ1)) else if nI (bb τ1 i) = 1 then lp_X11_check_34 F k (nI m) (nI (i + 1)) σ1 else some (nI i, σ1)) = if nI (bb τ1 i) = v then lp_X11_check_34 F k (nI m) (nI (i + 1)) σ1 else some (nI i, σ1) := by
        intro v hv
        rcases hv with rfl | rfl <;> rfl
      rcases rk01 (hW2.1 i (by omega)) (Or.inl hi16) with e | e
      · simp only [e, if_true, ite_self]
        by_cases c2 : nI (bb τ1 i) = (255 : Int32)
        · right
          simp only [c2, if_true]
          refine ⟨(), (), trivial, ?_, ?_⟩ <;> first | rfl | trivial
        · left
          simp only [c2, if_false]
          exact ⟨_, _, _, rfl, rfl, hI2⟩
      · have e0 : ¬ τ1 1 i = 0 := by rw [e]; decide
        simp only [e0, if_false]
        rw [e01 _ (rk01 (hW2.1 (48 + i) (by omega)) (Or.inr ⟨by omega, by omega⟩))]
        by_cases c2 : nI (bb τ1 i) = τ1 1 (48 + i)
        · right
          rw [if_pos c2, if_pos c2]
          refine ⟨(), (), trivial, ?_, ?_⟩ <;> first | rfl | trivial
        · left
          rw [if_neg c2, if_neg c2]
          exact ⟨_, _, _, rfl, rfl, hI2⟩
    · intro k _ _ _
      show ∃ z σ' τ', lp_X11_check_34 F (k + 1) (nI m) (nI m) σ1 = some (z, σ') ∧ lp_X12_check_28 F (k + 1) (nI m) (nI m) τ1 = some (z, τ') ∧ Inv σ' τ'
      rw [lp_X11_check_34, lp_X12_check_28, if_neg (nI_nlt (Nat.le_refl m) (by omega)), if_neg (nI_nlt (Nat.le_refl m) (by omega))]
      exact ⟨_, _, _, rfl, rfl, hI2⟩
  · rw [if_neg c, if_pos (show nI n < nI m from nI_lt (by omega) (by omega))]
    exact ⟨-2, σ, τ, rfl, rfl, hI⟩
