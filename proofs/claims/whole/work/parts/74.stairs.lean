/-! ===== stairs ===== -/
def way (τ : jS) (f t : Nat) : Nat := 2 + if bb τ f < bb τ t then 3 * (bb τ t - bb τ f) else bb τ f - bb τ t
theorem way_le (τ : jS) (f t : Nat) : way τ f t ≤ 767 := by
  have h1 := (bb_n τ f).1
  have h2 := (bb_n τ t).1
  unfold way
  split <;> omega
/-- the cheaper way, of those the one with fewer -/
def lexm (p q : Nat × Nat) : Nat × Nat := if p.1 < q.1 then p else if p.1 = q.1 then (if p.2 < q.2 then p else q) else q
theorem lexm_comm (p q : Nat × Nat) : lexm p q = lexm q p := by
  obtain ⟨a, b⟩ := p
  obtain ⟨c, d⟩ := q
  unfold lexm
  simp only
  by_cases h1 : a < c
  · rw [if_pos h1, if_neg (by omega), if_neg (by omega)]
  · rw [if_neg h1]
    by_cases h2 : a = c
    · subst h2
      rw [if_pos rfl, if_neg (show ¬ a < a by omega), if_pos rfl]
      by_cases h3 : b < d
      · rw [if_pos h3, if_neg (by omega)]
      · rw [if_neg h3]
        by_cases h4 : d < b
        · rw [if_pos h4]
        · rw [if_neg h4, show b = d by omega]
    · rw [if_neg h2, if_pos (by omega)]
def clA (τ : jS) (x : Nat × Nat) (f t : Nat) : Nat × Nat := (x.1 + way τ f t, x.2 + 1)
def cl (τ : jS) : Nat → Nat × Nat
  | 0 => (0, 0)
  | 1 => clA τ (0, 0) 0 1
  | k + 2 => lexm (clA τ (cl τ k) k (k + 2)) (clA τ (cl τ (k + 1)) (k + 1) (k + 2))
theorem lexm_or (p q : Nat × Nat) : lexm p q = p ∨ lexm p q = q := by
  unfold lexm
  split
  · exact Or.inl rfl
  · split
    · split
      · exact Or.inl rfl
      · exact Or.inr rfl
    · exact Or.inr rfl
theorem cl_le (τ : jS) : ∀ k, (cl τ k).1 ≤ 767 * k ∧ (cl τ k).2 ≤ k
  | 0 => ⟨by simp [cl], by simp [cl]⟩
  | 1 => by
    have := way_le τ 0 1
    show 0 + way τ 0 1 ≤ 767 * 1 ∧ 0 + 1 ≤ 1
    omega
  | k + 2 => by
    have h1 := cl_le τ k
    have h2 := cl_le τ (k + 1)
    have w1 := way_le τ k (k + 2)
    have w2 := way_le τ (k + 1) (k + 2)
    rw [cl]
    rcases lexm_or (clA τ (cl τ k) k (k + 2)) (clA τ (cl τ (k + 1)) (k + 1) (k + 2)) with e | e
    · rw [e]
      show (cl τ k).1 + way τ k (k + 2) ≤ _ ∧ (cl τ k).2 + 1 ≤ _
      omega
    · rw [e]
      show (cl τ (k + 1)).1 + way τ (k + 1) (k + 2) ≤ _ ∧ (cl τ (k + 1)).2 + 1 ≤ _
      omega
theorem x9_way (F : Nat) {σ τ : jS} (h4 : ∀ i, i < 260 → σ 2 i = τ 6 i &&& 255) {f t : Nat} (hf : f < 260) (ht : t < 260) : mX9_costOfWay F (nI f) (nI t) σ = some (nI (way τ f t)) := by
  have h1 := (bb_n τ f).1
  have h2 := (bb_n τ t).1
  unfold mX9_costOfWay way
  rw [x_byte F h4 hf, x_byte F h4 ht]
  simp only [Option.bind_some, lt]
  by_cases c : bb τ f < bb τ t
  · rw [pk_sub (show bb τ f ≤ bb τ t by omega), if_pos (show 0 < nI (bb τ t - bb τ f) from nI_lt (a := 0) (by omega) (by omega)), if_pos c]
    show some (nI 2 + nI 3 * nI _) = _
    rw [pk_mul, nI_add]
  · rw [if_neg (show ¬ 0 < nI (bb τ t) - nI (bb τ f) by rw [fa_lt, pk_sub_toInt (by omega) (by omega)]; show ¬ (0 : Int) < _; omega), if_neg c]
    rw [show -(nI (bb τ t) - nI (bb τ f)) = nI (bb τ f) - nI (bb τ t) from Int32.neg_sub, pk_sub (show bb τ t ≤ bb τ f by omega)]
    show some (nI 2 + nI _) = _
    rw [nI_add]
/-- one place of climbing in the class -/
theorem x9_from {F : Nat} {σ τ : jS} (h4 : ∀ i, i < 260 → σ 2 i = τ 6 i &&& 255) (k : Int32 → Int32 → Int32 → jS → Option (Int32 × jS)) (x1 x2 : Int32) {f t : Nat} (hft : f < t) (ht : t < 256) (x y : Nat × Nat) (hx : x.1 < 2 ^ 29 ∧ x.2 < 2 ^ 29) (hy : y.1 < 2 ^ 29 ∧ y.2 < 2 ^ 29) (e1 : σ 68 f = nI x.1) (e2 : σ 69 f = nI x.2) (e3 : σ 68 t = nI y.1) (e4 : σ 69 t = nI y.2) (m : Nat) : ∃ σ', lp_X9_climb_53 F k (m + 1) x1 x2 (nI t) (nI f) σ = lp_X9_climb_53 F k m x1 x2 (nI t) (nI (f + 1)) σ' ∧ σ' 68 t = nI (lexm (clA τ x f t) y).1 ∧ σ' 69 t = nI (lexm (clA τ x f t) y).2 ∧ (∀ d, d ≠ 68 → d ≠ 69 → σ' d = σ d) ∧ (∀ j, j ≠ t → σ' 68 j = σ 68 j ∧ σ' 69 j = σ 69 j) := by
  have w := way_le τ f t
  rw [lp_X9_climb_53, if_pos (nI_lt hft (by omega)), x9_way F h4 (show f < 260 by omega) (show t < 260 by omega)]
  simp only [jin_nI (show f < 256 by omega) (show 256 < 2 ^ 31 by omega), jin_nI (show t < 256 by omega) (show 256 < 2 ^ 31 by omega), if_true, Option.bind_some, ltE, nI_clamp (show f < 2 ^ 31 by omega), nI_clamp (show t < 2 ^ 31 by omega), e1, e2, e3, e4, nI_add, nI1]
  have put : ∃ σ', lp_X9_climb_53 F k m x1 x2 (nI t) (nI (f + 1)) (js (js σ 68 t (nI (x.1 + way τ f t))) 69 t (nI (x.2 + 1))) = lp_X9_climb_53 F k m x1 x2 (nI t) (nI (f + 1)) σ' ∧ σ' 68 t = nI (x.1 + way τ f t) ∧ σ' 69 t = nI (x.2 + 1) ∧ (∀ d, d ≠ 68 → d ≠ 69 → σ' d = σ d) ∧ (∀ j, j ≠ t → σ' 68 j = σ 68 j ∧ σ' 69 j = σ 69 j) := by
    refine ⟨_, rfl, by rw [js_c _ _ _ (show (68 : Nat) ≠ 69 by omega), js_at], js_at _ _ _ _, fun d a b => by rw [js_c _ _ _ b, js_c _ _ _ a], fun j hj => ⟨by rw [js_c _ _ _ (show (68 : Nat) ≠ 69 by omega), js_k _ _ hj], by rw [js_k _ _ hj, js_c _ _ _ (show (69 : Nat) ≠ 68 by omega)]⟩⟩
  unfold lexm clA
  simp only
  by_cases c1 : x.1 + way τ f t < y.1
  · rw [if_pos (nI_lt c1 (by omega)), if_pos c1]
    exact put
  · rw [if_neg (nI_nlt (by omega) (by omega)), if_neg c1]
    by_cases c2 : x.1 + way τ f t = y.1
    · rw [if_pos (by rw [c2]), if_pos c2]
      by_cases c3 : x.2 + 1 < y.2
      · rw [if_pos (nI_lt c3 (by omega)), if_pos c3]
        exact put
      · rw [if_neg (nI_nlt (by omega) (by omega)), if_neg c3]
        exact ⟨σ, rfl, e3, e4, fun _ _ _ => rfl, fun _ _ => ⟨rfl, rfl⟩⟩
    · rw [if_neg (show ¬ nI (x.1 + way τ f t) = nI y.1 from fun h => c2 (by have := congrArg Int32.toInt h; rw [nI_toInt (by omega), nI_toInt (by omega)] at this; omega)), if_neg c2]
      exact ⟨σ, rfl, e3, e4, fun _ _ _ => rfl, fun _ _ => ⟨rfl, rfl⟩⟩
theorem lexm_far {p : Nat × Nat} {M : Nat} (h : p.1 < M) (z : Nat) : lexm p (M, z) = p := if_pos h
/-- climbing in the class, up to the n-th place -/
theorem x9_climb {F : Nat} (hF : 30 ≤ F) {τ : jS} {n : Nat} (hn : n ≤ 20) (x2 : Int32) (k : Int32 → Int32 → jS → Option (Int32 × jS)) : ∀ (j m t : Nat) (σ : jS), t + j = n → 1 ≤ t → j < m → (∀ i, i < 260 → σ 2 i = τ 6 i &&& 255) → (∀ i, i < t → σ 68 i = nI (cl τ i).1 ∧ σ 69 i = nI (cl τ i).2) → ∃ σ', lp_X9_climb_16 F k m (nI n) x2 (nI t) σ = k (nI n) x2 σ' ∧ (∀ i, i < n → σ' 68 i = nI (cl τ i).1 ∧ σ' 69 i = nI (cl τ i).2) ∧ (∀ d, d ≠ 68 → d ≠ 69 → σ' d = σ d) := by
  intro j
  induction j with
  | zero =>
    intro m t σ hj h1 hm h4 hP
    obtain ⟨m, rfl⟩ : ∃ j, m = j + 1 := ⟨m - 1, by omega⟩
    rw [lp_X9_climb_16, if_neg (nI_nlt (by omega) (by omega))]
    exact ⟨σ, rfl, fun i hi => hP i (by omega), fun _ _ _ => rfl⟩
  | succ j ih =>
    intro m t σ hj h1 hm h4 hP
    obtain ⟨m, rfl⟩ : ∃ j, m = j + 1 := ⟨m - 1, by omega⟩
    have e4 : nI t < (256 : Int32) := nI_lt (b := 256) (by omega) (by omega)
    rw [lp_X9_climb_16, if_pos (nI_lt (by omega) (by omega)), if_pos e4]
    simp only [jin_nI (show t < 256 by omega) (show 256 < 2 ^ 31 by omega), if_true, ltE, nI_clamp (show t < 2 ^ 31 by omega)]
    generalize hσ2 : js (js σ 68 t (1000000 : Int32)) 69 t (1000000 : Int32) = σ2
    have a1 : σ2 68 t = nI ((1000000, 1000000) : Nat × Nat).1 := by rw [← hσ2, js_c _ _ _ (show (68 : Nat) ≠ 69 by omega), js_at]; rfl
    have a2 : σ2 69 t = nI ((1000000, 1000000) : Nat × Nat).2 := by rw [← hσ2, js_at]; rfl
    have a3 : ∀ d, d ≠ 68 → d ≠ 69 → σ2 d = σ d := fun d a b => by rw [← hσ2, js_c _ _ _ b, js_c _ _ _ a]
    have a5 : ∀ j, j ≠ t → σ2 68 j = σ 68 j ∧ σ2 69 j = σ 69 j := fun j hj => ⟨by rw [← hσ2, js_c _ _ _ (show (68 : Nat) ≠ 69 by omega), js_k _ _ hj], by rw [← hσ2, js_k _ _ hj, js_c _ _ _ (show (69 : Nat) ≠ 68 by omega)]⟩
    have h42 : ∀ i, i < 260 → σ2 2 i = τ 6 i &&& 255 := fun i hi => by rw [a3 2 (by omega) (by omega)]; exact h4 i hi
    have fin : ∀ σ3 : jS, σ3 68 t = nI (cl τ t).1 → σ3 69 t = nI (cl τ t).2 → (∀ d, d ≠ 68 → d ≠ 69 → σ3 d = σ2 d) → (∀ j, j ≠ t → σ3 68 j = σ2 68 j ∧ σ3 69 j = σ2 69 j) → ∃ σ', lp_X9_climb_16 F k m (nI n) x2 (nI t + 1) σ3 = k (nI n) x2 σ' ∧ (∀ i, i < n → σ' 68 i = nI (cl τ i).1 ∧ σ' 69 i = nI (cl τ i).2) ∧ (∀ d, d ≠ 68 → d ≠ 69 → σ' d = σ d) := by
      intro σ3 b1 b2 b3 b4
      rw [nI1]
      obtain ⟨σ', r1, r2, r3⟩ := ih m (t + 1) σ3 (by omega) (by omega) (by omega) (fun i hi => by rw [b3 2 (by omega) (by omega)]; exact h42 i hi) (fun i hi => by
        by_cases e : i = t
        · subst e; exact ⟨b1, b2⟩
        · rw [(b4 i e).1, (b4 i e).2, (a5 i e).1, (a5 i e).2]
          exact hP i (by omega))
      exact ⟨σ', r1, r2, fun d c1 c2 => by rw [r3 d c1 c2, b3 d c1 c2, a3 d c1 c2]⟩
    obtain ⟨G, rfl⟩ : ∃ G, F = G + 3 := ⟨F - 3, by omega⟩
    by_cases c : t = 1
    · subst c
      have w := way_le τ 0 1
      rw [show imax (0 : Int32) (nI 1 - (2 : Int32)) = nI 0 by decide]
      obtain ⟨σ3, r1, r2, r3, r4, r5⟩ := x9_from (F := G + 3) h42 (fun x1_24 x2_24 x3_24 σ24 => (lp_X9_climb_16 (G + 3) k m x1_24 x2_24 ((x3_24 + (1 : Int32))) σ24)) (nI n) x2 (f := 0) (t := 1) (by omega) (by omega) (cl τ 0) (1000000, 1000000) ⟨by simp [cl], by simp [cl]⟩ ⟨by simp, by simp⟩ (by rw [(a5 0 (by omega)).1]; exact (hP 0 (by omega)).1) (by rw [(a5 0 (by omega)).2]; exact (hP 0 (by omega)).2) a1 a2 (G + 2)
      rw [r1, lp_X9_climb_53, if_neg (show ¬ nI (0 + 1) < nI 1 by decide)]
      rw [lexm_far (show (clA τ (cl τ 0) 0 1).1 < 1000000 by show 0 + way τ 0 1 < 1000000; omega)] at r2 r3
      exact fin σ3 r2 r3 r4 r5
    · obtain ⟨s, rfl⟩ : ∃ s, t = s + 2 := ⟨t - 2, by omega⟩
      have w := way_le τ s (s + 2)
      have l1 := cl_le τ s
      have l2 := cl_le τ (s + 1)
      rw [show nI (s + 2) - (2 : Int32) = nI s from pk_sub (a := s + 2) (b := 2) (by omega), show imax (0 : Int32) (nI s) = nI s by
        show imax (nI 0) (nI s) = nI s
        rw [imax_nI (by omega) (by omega), Nat.max_eq_right (by omega)]]
      obtain ⟨σ3, r1, r2, r3, r4, r5⟩ := x9_from (F := G + 3) h42 (fun x1_24 x2_24 x3_24 σ24 => (lp_X9_climb_16 (G + 3) k m x1_24 x2_24 ((x3_24 + (1 : Int32))) σ24)) (nI n) x2 (f := s) (t := s + 2) (by omega) (by omega) (cl τ s) (1000000, 1000000) ⟨by omega, by omega⟩ ⟨by simp, by simp⟩ (by rw [(a5 s (by omega)).1]; exact (hP s (by omega)).1) (by rw [(a5 s (by omega)).2]; exact (hP s (by omega)).2) a1 a2 (G + 2)
      rw [lexm_far (show (clA τ (cl τ s) s (s + 2)).1 < 1000000 by show (cl τ s).1 + way τ s (s + 2) < 1000000; omega)] at r2 r3
      have h43 : ∀ i, i < 260 → σ3 2 i = τ 6 i &&& 255 := fun i hi => by rw [r4 2 (by omega) (by omega)]; exact h42 i hi
      obtain ⟨σ4, u1, u2, u3, u4, u5⟩ := x9_from (F := G + 3) h43 (fun x1_24 x2_24 x3_24 σ24 => (lp_X9_climb_16 (G + 3) k m x1_24 x2_24 ((x3_24 + (1 : Int32))) σ24)) (nI n) x2 (f := s + 1) (t := s + 2) (by omega) (by omega) (cl τ (s + 1)) (clA τ (cl τ s) s (s + 2)) ⟨by omega, by omega⟩ ⟨by show (cl τ s).1 + way τ s (s + 2) < _; omega, by show (cl τ s).2 + 1 < _; omega⟩ (by rw [(r5 (s + 1) (by omega)).1, (a5 (s + 1) (by omega)).1]; exact (hP (s + 1) (by omega)).1) (by rw [(r5 (s + 1) (by omega)).2, (a5 (s + 1) (by omega)).2]; exact (hP (s + 1) (by omega)).2) r2 r3 (G + 1)
      rw [r1, u1, lp_X9_climb_53, if_neg (nI_nlt (by omega) (by omega))]
      rw [lexm_comm] at u2 u3
      exact fin σ4 u2 u3 (fun d c1 c2 => by rw [u4 d c1 c2, r4 d c1 c2]) (fun i hi => by rw [(u5 i hi).1, (u5 i hi).2, (r5 i hi).1, (r5 i hi).2]; exact ⟨rfl, rfl⟩)
