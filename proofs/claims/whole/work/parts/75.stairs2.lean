theorem m_climbs {F : Nat} {τ : jS} {f t : Nat} (hf : f < 20) (ht : t < 20) (hft : f ≠ t) (x y : Nat × Nat) (hx : x.1 < 2 ^ 29 ∧ x.2 < 2 ^ 29) (hy : y.1 ≤ 1000000000 ∧ y.2 < 2 ^ 29) (e1 : τ 30 f = nI x.1) (e2 : τ 31 f = nI x.2) (e3 : τ 30 t = nI y.1) (e4 : τ 31 t = nI y.2) : ∃ τ', mX12_climbs F (nI f) (nI t) τ = some τ' ∧ τ' 30 t = nI (lexm (clA τ x f t) y).1 ∧ τ' 31 t = nI (lexm (clA τ x f t) y).2 ∧ (∀ d, d ≠ 30 → d ≠ 31 → τ' d = τ d) ∧ (∀ j, j ≠ t → τ' 30 j = τ 30 j ∧ τ' 31 j = τ 31 j) := by
  have w := way_le τ f t
  have h1 := (bb_n τ f).1
  have h2 := (bb_n τ t).1
  unfold mX12_climbs
  rw [m_oct F τ (show f < 260 by omega), m_oct F τ (show t < 260 by omega)]
  simp only [Option.bind_some, ltE, jin_nI (show f < 20 by omega) (show 20 < 2 ^ 31 by omega), if_true, nI_clamp (show f < 2 ^ 31 by omega), e1]
  have eW : (if 0 < nI (bb τ t) - nI (bb τ f) then jn_X12_climbs_32 F (nI f) (nI t) (nI x.1 + (2 : Int32)) ((3 : Int32) * (nI (bb τ t) - nI (bb τ f))) τ else jn_X12_climbs_32 F (nI f) (nI t) (nI x.1 + (2 : Int32)) (-(nI (bb τ t) - nI (bb τ f))) τ) = jn_X12_climbs_32 F (nI f) (nI t) (nI x.1) (nI (way τ f t)) τ := by
    unfold jn_X12_climbs_32 way
    by_cases c : bb τ f < bb τ t
    · rw [pk_sub (show bb τ f ≤ bb τ t by omega), if_pos (show 0 < nI (bb τ t - bb τ f) from nI_lt (a := 0) (by omega) (by omega)), if_pos c, show nI x.1 + (2 : Int32) + (3 : Int32) * nI (bb τ t - bb τ f) = nI x.1 + nI (2 + 3 * (bb τ t - bb τ f)) by
        show nI x.1 + nI 2 + nI 3 * nI _ = _
        rw [pk_mul, nI_add, nI_add, nI_add, Nat.add_assoc]]
    · rw [if_neg (show ¬ 0 < nI (bb τ t) - nI (bb τ f) by rw [fa_lt, pk_sub_toInt (by omega) (by omega)]; show ¬ (0 : Int) < _; omega), if_neg c, show -(nI (bb τ t) - nI (bb τ f)) = nI (bb τ f) - nI (bb τ t) from Int32.neg_sub, pk_sub (show bb τ t ≤ bb τ f by omega), show nI x.1 + (2 : Int32) + nI (bb τ f - bb τ t) = nI x.1 + nI (2 + (bb τ f - bb τ t)) by
        show nI x.1 + nI 2 + nI _ = _
        rw [nI_add, nI_add, nI_add, Nat.add_assoc]]
  rw [eW]
  unfold jn_X12_climbs_32
  simp only [Option.bind_some, ltE, jin_nI (show f < 20 by omega) (show 20 < 2 ^ 31 by omega), jin_nI (show t < 20 by omega) (show 20 < 2 ^ 31 by omega), if_true, nI_clamp (show f < 2 ^ 31 by omega), nI_clamp (show t < 2 ^ 31 by omega), e2, e3, e4, nI_add, nI1]
  have put : ∃ τ', some (js (js τ 30 t (nI (x.1 + way τ f t))) 31 t (nI (x.2 + 1))) = some τ' ∧ τ' 30 t = nI (x.1 + way τ f t) ∧ τ' 31 t = nI (x.2 + 1) ∧ (∀ d, d ≠ 30 → d ≠ 31 → τ' d = τ d) ∧ (∀ j, j ≠ t → τ' 30 j = τ 30 j ∧ τ' 31 j = τ 31 j) := by
    refine ⟨_, rfl, by rw [js_c _ _ _ (show (30 : Nat) ≠ 31 by omega), js_at], js_at _ _ _ _, fun d a b => by rw [js_c _ _ _ b, js_c _ _ _ a], fun j hj => ⟨by rw [js_c _ _ _ (show (30 : Nat) ≠ 31 by omega), js_k _ _ hj], by rw [js_k _ _ hj, js_c _ _ _ (show (31 : Nat) ≠ 30 by omega)]⟩⟩
  unfold lexm clA
  simp only
  by_cases c1 : x.1 + way τ f t < y.1
  · rw [if_neg (show ¬ nI y.1 < nI (x.1 + way τ f t) from nI_nlt (by omega) (by omega)), if_pos c1, if_neg (show ¬ nI (x.1 + way τ f t) = nI y.1 from fun h => by have := congrArg Int32.toInt h; rw [nI_toInt (by omega), nI_toInt (by omega)] at this; omega)]
    exact put
  · rw [if_neg c1]
    by_cases c2 : x.1 + way τ f t = y.1
    · rw [if_neg (show ¬ nI y.1 < nI (x.1 + way τ f t) from nI_nlt (by omega) (by omega)), if_pos (show nI (x.1 + way τ f t) = nI y.1 by rw [c2]), if_pos c2]
      by_cases c3 : x.2 + 1 < y.2
      · rw [if_pos (nI_lt c3 (by omega)), if_pos c3]
        exact put
      · rw [if_neg (nI_nlt (by omega) (by omega)), if_neg c3]
        exact ⟨τ, rfl, e3, e4, fun _ _ _ => rfl, fun _ _ => ⟨rfl, rfl⟩⟩
    · rw [if_pos (show nI y.1 < nI (x.1 + way τ f t) from nI_lt (by omega) (by omega)), if_neg c2]
      exact ⟨τ, rfl, e3, e4, fun _ _ _ => rfl, fun _ _ => ⟨rfl, rfl⟩⟩
theorem bb_cong {τ τ' : jS} (h : τ' 6 = τ 6) (i : Nat) : bb τ' i = bb τ i := by unfold bb; rw [h]
theorem clA_cong {τ τ' : jS} (h : τ' 6 = τ 6) (x : Nat × Nat) (f t : Nat) : clA τ' x f t = clA τ x f t := by unfold clA way; rw [bb_cong h, bb_cong h]
/-- climbing in the reference -/
theorem m_climb {F : Nat} {τ0 : jS} {n : Nat} (hn : n ≤ 20) (x2 : Int32) (k : Int32 → Int32 → jS → Option (Int32 × jS)) : ∀ (j m t : Nat) (τ : jS), t + j = n → 1 ≤ t → j < m → τ 6 = τ0 6 → (∀ i, i < t → τ 30 i = nI (cl τ0 i).1 ∧ τ 31 i = nI (cl τ0 i).2) → (∀ i, t ≤ i → i < n → τ 30 i = nI 1000000000 ∧ τ 31 i = nI 0) → ∃ τ', lp_X12_stairs_73 F k m (nI n) x2 (nI t) τ = k (nI n) x2 τ' ∧ (∀ i, i < n → τ' 30 i = nI (cl τ0 i).1 ∧ τ' 31 i = nI (cl τ0 i).2) ∧ (∀ d, d ≠ 30 → d ≠ 31 → τ' d = τ d) := by
  intro j
  induction j with
  | zero =>
    intro m t τ hj h1 hm h6 hP hO
    obtain ⟨m, rfl⟩ : ∃ j, m = j + 1 := ⟨m - 1, by omega⟩
    rw [lp_X12_stairs_73, if_neg (nI_nlt (by omega) (by omega))]
    exact ⟨τ, rfl, fun i hi => hP i (by omega), fun _ _ _ => rfl⟩
  | succ j ih =>
    intro m t τ hj h1 hm h6 hP hO
    obtain ⟨m, rfl⟩ : ∃ j, m = j + 1 := ⟨m - 1, by omega⟩
    obtain ⟨s, rfl⟩ : ∃ s, t = s + 1 := ⟨t - 1, by omega⟩
    have w := way_le τ0 s (s + 1)
    have l1 := cl_le τ0 s
    rw [lp_X12_stairs_73, if_pos (nI_lt (by omega) (by omega)), show nI (s + 1) - (1 : Int32) = nI s from pk_sub (a := s + 1) (b := 1) (by omega)]
    obtain ⟨τ1, a1, a2, a3, a4, a5⟩ := m_climbs (F := F) (τ := τ) (f := s) (t := s + 1) (by omega) (by omega) (by omega) (cl τ0 s) (1000000000, 0) ⟨by omega, by omega⟩ ⟨by simp, by simp⟩ (hP s (by omega)).1 (hP s (by omega)).2 (hO (s + 1) (by omega) (by omega)).1 (hO (s + 1) (by omega) (by omega)).2
    rw [clA_cong h6, lexm_far (show (clA τ0 (cl τ0 s) s (s + 1)).1 < 1000000000 by show (cl τ0 s).1 + way τ0 s (s + 1) < 1000000000; omega)] at a2 a3
    rw [a1]
    simp only [Option.bind_some]
    have fin : ∀ τ3 : jS, τ3 30 (s + 1) = nI (cl τ0 (s + 1)).1 → τ3 31 (s + 1) = nI (cl τ0 (s + 1)).2 → (∀ d, d ≠ 30 → d ≠ 31 → τ3 d = τ d) → (∀ j, j ≠ s + 1 → τ3 30 j = τ 30 j ∧ τ3 31 j = τ 31 j) → ∃ τ', lp_X12_stairs_73 F k m (nI n) x2 (nI (s + 1) + 1) τ3 = k (nI n) x2 τ' ∧ (∀ i, i < n → τ' 30 i = nI (cl τ0 i).1 ∧ τ' 31 i = nI (cl τ0 i).2) ∧ (∀ d, d ≠ 30 → d ≠ 31 → τ' d = τ d) := by
      intro τ3 b1 b2 b3 b4
      rw [nI1]
      obtain ⟨τ', r1, r2, r3⟩ := ih m (s + 1 + 1) τ3 (by omega) (by omega) (by omega) (by rw [b3 6 (by omega) (by omega)]; exact h6) (fun i hi => by
        by_cases e : i = s + 1
        · subst e; exact ⟨b1, b2⟩
        · rw [(b4 i e).1, (b4 i e).2]
          exact hP i (by omega)) (fun i hi hi2 => by
        rw [(b4 i (by omega)).1, (b4 i (by omega)).2]
        exact hO i (by omega) hi2)
      exact ⟨τ', r1, r2, fun d c1 c2 => by rw [r3 d c1 c2, b3 d c1 c2]⟩
    by_cases c : s = 0
    · subst c
      rw [if_neg (show ¬ (1 : Int32) < nI (0 + 1) by decide)]
      exact fin τ1 a2 a3 a4 a5
    · obtain ⟨r, rfl⟩ : ∃ r, s = r + 1 := ⟨s - 1, by omega⟩
      have l2 := cl_le τ0 r
      rw [if_pos (show (1 : Int32) < nI (r + 1 + 1) from nI_lt (a := 1) (by omega) (by omega)), show nI (r + 1 + 1) - (2 : Int32) = nI r from pk_sub (a := r + 1 + 1) (b := 2) (by omega)]
      obtain ⟨τ2, u1, u2, u3, u4, u5⟩ := m_climbs (F := F) (τ := τ1) (f := r) (t := r + 1 + 1) (by omega) (by omega) (by omega) (cl τ0 r) (clA τ0 (cl τ0 (r + 1)) (r + 1) (r + 1 + 1)) ⟨by omega, by omega⟩ ⟨by show (cl τ0 (r + 1)).1 + way τ0 (r + 1) (r + 1 + 1) ≤ _; omega, by show (cl τ0 (r + 1)).2 + 1 < _; omega⟩ (by rw [(a5 r (by omega)).1]; exact (hP r (by omega)).1) (by rw [(a5 r (by omega)).2]; exact (hP r (by omega)).2) a2 a3
      rw [clA_cong (show τ1 6 = τ0 6 by rw [a4 6 (by omega) (by omega)]; exact h6)] at u2 u3
      rw [u1]
      simp only [Option.bind_some]
      exact fin τ2 u2 u3 (fun d c1 c2 => by rw [u4 d c1 c2, a4 d c1 c2]) (fun i hi => by rw [(u5 i hi).1, (u5 i hi).2, (a5 i hi).1, (a5 i hi).2]; exact ⟨rfl, rfl⟩)
theorem m_far {F : Nat} {n : Nat} (hn : n ≤ 20) (x2 : Int32) (k : Int32 → Int32 → jS → Option (Int32 × jS)) (τ0 : jS) (hF : 21 ≤ F) : ∃ τ', lp_X12_stairs_36 F k F (nI n) x2 0 τ0 = k (nI n) x2 τ' ∧ (∀ i, i < n → τ' 30 i = (if i = 0 then nI 0 else nI 1000000000) ∧ τ' 31 i = nI 0) ∧ (∀ d, d ≠ 30 → d ≠ 31 → τ' d = τ0 d) := by
  refine loop_p (fun m y τ => lp_X12_stairs_36 F k m (nI n) x2 y τ) n (fun t τ => (∀ i, i < t → τ 30 i = (if i = 0 then nI 0 else nI 1000000000) ∧ τ 31 i = nI 0) ∧ (∀ d, d ≠ 30 → d ≠ 31 → τ d = τ0 d)) (fun o => ∃ τ', o = k (nI n) x2 τ' ∧ (∀ i, i < n → τ' 30 i = (if i = 0 then nI 0 else nI 1000000000) ∧ τ' 31 i = nI 0) ∧ (∀ d, d ≠ 30 → d ≠ 31 → τ' d = τ0 d)) ?_ ?_ F 0 τ0 (by omega) (by omega) ⟨fun i hi => absurd hi (by omega), fun _ _ _ => rfl⟩
  · intro m t τ ht hP
    right
    show ∃ τ', _ ∧ lp_X12_stairs_36 F k (m + 1) (nI n) x2 (nI t) τ = lp_X12_stairs_36 F k m (nI n) x2 (nI (t + 1)) τ'
    rw [lp_X12_stairs_36, if_pos (nI_lt ht (by omega))]
    simp only [jin_nI (show t < 20 by omega) (show 20 < 2 ^ 31 by omega), if_true, ltE, nI_clamp (show t < 2 ^ 31 by omega), nI1]
    have put : ∀ v : Int32, v = (if t = 0 then nI 0 else nI 1000000000) → (∀ i, i < t + 1 → js (js τ 30 t v) 31 t 0 30 i = (if i = 0 then nI 0 else nI 1000000000) ∧ js (js τ 30 t v) 31 t 0 31 i = nI 0) ∧ (∀ d, d ≠ 30 → d ≠ 31 → js (js τ 30 t v) 31 t 0 d = τ0 d) := by
      intro v hv
      refine ⟨fun i hi => ?_, fun d a b => by rw [js_c _ _ _ b, js_c _ _ _ a]; exact hP.2 d a b⟩
      rw [js_c _ _ _ (show (30 : Nat) ≠ 31 by omega)]
      by_cases e : i = t
      · subst e
        rw [js_at, js_at]
        exact ⟨hv, rfl⟩
      · rw [js_k _ _ e, js_k _ _ e, js_c _ _ _ (show (31 : Nat) ≠ 30 by omega)]
        exact hP.1 i (by omega)
    by_cases c : t = 0
    · subst c
      rw [if_pos (show nI 0 = (0 : Int32) from rfl)]
      exact ⟨_, put 0 rfl, rfl⟩
    · rw [if_neg (show ¬ nI t = (0 : Int32) from nI_ne0 (by omega) (by omega))]
      exact ⟨_, put 1000000000 (by rw [if_neg c]; rfl), rfl⟩
  · intro m τ hP
    show ∃ τ', lp_X12_stairs_36 F k (m + 1) (nI n) x2 (nI n) τ = _ ∧ _
    rw [lp_X12_stairs_36, if_neg (nI_nlt (Nat.le_refl n) (by omega))]
    exact ⟨τ, rfl, hP.1, hP.2⟩
theorem keepX_sums {σ σ' : jS} (h : ∀ d, d ≠ 68 → d ≠ 69 → σ' d = σ d) : keepX σ σ' ∧ σ' 1 1 = σ 1 1 := ⟨⟨fun k _ => by rw [h 0 (by omega) (by omega)], h 2 (by omega) (by omega), fun c _ _ => h c (by omega) (by omega), h 34 (by omega) (by omega), h 35 (by omega) (by omega), fun c _ _ => h c (by omega) (by omega)⟩, by rw [h 1 (by omega) (by omega)]⟩
theorem keepM_hi {τ τ' : jS} (h : ∀ d, d < 18 → τ' d = τ d) : keepM τ τ' ∧ τ' 0 6 = τ 0 6 := ⟨⟨h 1 (by omega), h 3 (by omega), h 4 (by omega), h 5 (by omega), h 6 (by omega), fun c _ _ => h c (by omega), by rw [h 0 (by omega)], by rw [h 0 (by omega)]⟩, by rw [h 0 (by omega)]⟩
theorem s_stairs (F : Nat) (hF : 100 ≤ F) : S_stairs F Inv := by
  intro σ τ x1 x2 hI
  unfold mX11_stairs mX12_stairs
  rw [isW, isI, isW, isI]
  rcases inr_c x1 2 20 with e | ⟨e, h1, h2⟩
  · rw [e]; exact ⟨-1, σ, τ, rfl, rfl, hI⟩
  rcases inr_c x2 0 1 with e2 | ⟨e2, -, -⟩
  · rw [e, e2]; exact ⟨-1, σ, τ, rfl, rfl, hI⟩
  obtain ⟨n, hn2, hn, rfl⟩ := inr_nat (a := 2) (b := 20) (by omega) (by omega) h1 h2
  simp only [e, e2, Option.bind_some, if_neg (show ¬ (1 : Int32) = 0 by decide)]
  rcases tape_cases F hI (show n ≤ 260 by omega) with ⟨a1, a2⟩ | ⟨a1, a2, σ1, a3, hI2, -⟩
  · rw [a1, if_pos a2]; exact ⟨-1, σ, τ, rfl, rfl, hI⟩
  rw [a1, if_neg a2, a3]
  simp only [Option.bind_some, if_neg (show ¬ (1 : Int32) = 0 by decide)]
  rw [ltE]
  generalize js τ 0 6 0 = τ1 at hI2 ⊢
  obtain ⟨⟨-, t4⟩, -⟩ := id hI2
  obtain ⟨τ2, b1, b2, b3⟩ := m_far (F := F) hn x2 (fun x1_12 x2_12 σ12 => (lp_X12_stairs_73 F (fun x1_15 x2_15 σ15 => (if x2_15 = 0 then (lt (x1_15 - (1 : Int32)) fun y16 => (if jin y16 20 = true then some ((σ15 30 y16.toNatClampNeg), σ15) else none)) else (lt (x1_15 - (1 : Int32)) fun y18 => (if jin y18 20 = true then some ((σ15 31 y18.toNatClampNeg), σ15) else none)))) F x1_12 x2_12 (1 : Int32) σ12)) τ1 (by omega)
  rw [b1]
  obtain ⟨τ3, c1, c2, c3⟩ := m_climb (F := F) (τ0 := τ1) hn x2 (fun x1_15 x2_15 σ15 => (if x2_15 = 0 then (lt (x1_15 - (1 : Int32)) fun y16 => (if jin y16 20 = true then some ((σ15 30 y16.toNatClampNeg), σ15) else none)) else (lt (x1_15 - (1 : Int32)) fun y18 => (if jin y18 20 = true then some ((σ15 31 y18.toNatClampNeg), σ15) else none)))) (n - 1) F 1 τ2 (by omega) (by omega) (by omega) (b3 6 (by omega) (by omega)) (fun i hi => by
    have e0 : i = 0 := by omega
    subst e0
    have := b2 0 (by omega)
    rw [if_pos rfl] at this
    exact this) (fun i hi hi2 => by
    have := b2 i hi2
    rw [if_neg (by omega)] at this
    exact this)
  have c1 : lp_X12_stairs_73 F _ F (nI n) x2 1 τ2 = _ := c1
  rw [c1]
  unfold mX9_climb
  simp only [ltE]
  generalize hσ2 : js (js σ1 68 0 (0 : Int32)) 69 0 (0 : Int32) = σ2
  have d3 : ∀ d, d ≠ 68 → d ≠ 69 → σ2 d = σ1 d := fun d a b => by rw [← hσ2, js_c _ _ _ b, js_c _ _ _ a]
  obtain ⟨σ3, f1, f2, f3⟩ := x9_climb (F := F) (by omega) (τ := τ1) hn x2 (fun x1_25 x2_25 σ25 => (jn_X9_climb_148 F x1_25 x2_25 σ25)) (n - 1) F 1 σ2 (by omega) (by omega) (by omega) (fun i hi => by rw [d3 2 (by omega) (by omega)]; exact t4 i hi) (fun i hi => by
    have e0 : i = 0 := by omega
    subst e0
    rw [← hσ2, js_at, js_c _ _ _ (show (68 : Nat) ≠ 69 by omega), js_at]
    exact ⟨rfl, rfl⟩)
  have f1 : lp_X9_climb_16 F _ F (nI n) x2 1 σ2 = _ := f1
  rw [f1]
  unfold jn_X9_climb_148
  have hI3 : Inv σ3 τ3 := by
    have k1 := keepX_sums (σ := σ1) (σ' := σ3) (fun d a b => by rw [f3 d a b, d3 d a b])
    have k2 := keepM_hi (τ := τ1) (τ' := τ3) (fun d hd => by rw [c3 d (by omega) (by omega), b3 d (by omega) (by omega)])
    exact Inv_keep hI2 k1.1 k1.2 k2.1 k2.2
  rw [if_neg (show ¬ nI n < (1 : Int32) from nI_nlt (a := n) (b := 1) (by omega) (by omega)), if_neg (show ¬ (256 : Int32) < nI n from nI_nlt (a := 256) (by omega) (by omega))]
  simp only [ltE, show nI n - (1 : Int32) = nI (n - 1) from pk_sub (show 1 ≤ n by omega), jin_nI (show n - 1 < 20 by omega) (show 20 < 2 ^ 31 by omega), jin_nI (show n - 1 < 256 by omega) (show 256 < 2 ^ 31 by omega), if_true, nI_clamp (show n - 1 < 2 ^ 31 by omega), (f2 (n - 1) (by omega)).1, (f2 (n - 1) (by omega)).2, (c2 (n - 1) (by omega)).1, (c2 (n - 1) (by omega)).2]
  by_cases c : x2 = 0
  · rw [if_pos c, if_pos c]; exact ⟨_, σ3, τ3, rfl, rfl, hI3⟩
  · rw [if_neg c, if_neg c]; exact ⟨_, σ3, τ3, rfl, rfl, hI3⟩
