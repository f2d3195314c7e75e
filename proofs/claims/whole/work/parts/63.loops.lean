/-! ===== loops that count up ===== -/
theorem loop_p {α R : Type} (L : Nat → Int32 → α → Option R) (c : Nat) (P : Nat → α → Prop) (Q : Option R → Prop)
    (hs : ∀ n i a, i < c → P i a → Q (L (n + 1) (nI i) a) ∨ ∃ a', P (i + 1) a' ∧ L (n + 1) (nI i) a = L n (nI (i + 1)) a')
    (hx : ∀ n a, P c a → Q (L (n + 1) (nI c) a)) : ∀ n i a, i ≤ c → c - i < n → P i a → Q (L n (nI i) a) := by
  intro n
  induction n with
  | zero => intro i a _ h; exact absurd h (Nat.not_lt_zero _)
  | succ n ih =>
    intro i a hi hn hP
    rcases Nat.lt_or_ge i c with h | h
    · rcases hs n i a h hP with q | ⟨a', hP', e⟩
      · exact q
      · rw [e]
        exact ih (i + 1) a' (by omega) (by omega) hP'
    · have e : i = c := by omega
      subst e
      exact hx n a hP
theorem loop_q {α β R S : Type} (L : Nat → Int32 → α → Option R) (K : Nat → Int32 → β → Option S) (c : Nat) (P : Nat → α → β → Prop) (Q : Option R → Option S → Prop)
    (hs : ∀ n i a b, i < c → P i a b → Q (L (n + 1) (nI i) a) (K (n + 1) (nI i) b) ∨ ∃ a' b', P (i + 1) a' b' ∧ L (n + 1) (nI i) a = L n (nI (i + 1)) a' ∧ K (n + 1) (nI i) b = K n (nI (i + 1)) b')
    (hx : ∀ n a b, P c a b → Q (L (n + 1) (nI c) a) (K (n + 1) (nI c) b)) : ∀ n i a b, i ≤ c → c - i < n → P i a b → Q (L n (nI i) a) (K n (nI i) b) := by
  intro n
  induction n with
  | zero => intro i a b _ h; exact absurd h (Nat.not_lt_zero _)
  | succ n ih =>
    intro i a b hi hn hP
    rcases Nat.lt_or_ge i c with h | h
    · rcases hs n i a b h hP with q | ⟨a', b', hP', e1, e2⟩
      · exact q
      · rw [e1, e2]
        exact ih (i + 1) a' b' (by omega) (by omega) hP'
    · have e : i = c := by omega
      subst e
      exact hx n a b hP
theorem lt16 {i : Nat} (h : i < 16) : nI i < (16 : Int32) := nI_lt (b := 16) h (by omega)
theorem nlt16 : ¬ nI 16 < (16 : Int32) := by decide
theorem nI1 (i : Nat) : nI i + (1 : Int32) = nI (i + 1) := nI_1 i
/-- the set of those told, of those living -/
theorem m_toldSet {F : Nat} (hF : 17 ≤ F) {σ τ : jS} (h : cityW (τ 1)) (hR : cityR 3 σ (τ 1)) : mX12_toldSet F τ = some (σ 3 3) := by
  unfold mX12_toldSet
  refine loop_p (fun n x a => lp_X12_toldSet_4 F τ n a x) 16 (fun i a => bitsR a (fun p => if p < i then τ 1 p else 0)) (fun r => r = some (σ 3 3)) ?_ ?_ F 0 0 (by omega) (by omega) ?_
  · intro n i a hi hP
    right
    show ∃ a', _ ∧ lp_X12_toldSet_4 F τ (n + 1) a (nI i) = lp_X12_toldSet_4 F τ n a' (nI (i + 1))
    rw [lp_X12_toldSet_4, if_pos (lt16 hi), m_told h, tl_in _ hi]
    simp only [Option.bind_some, lt, nI1]
    rcases rk01 (h.1 i (by omega)) (Or.inl hi) with e | e
    · rw [if_pos e]
      refine ⟨a, bitsR_congr hP (fun p hp => ?_), rfl⟩
      by_cases h1 : p < i
      · simp [h1, show p < i + 1 by omega]
      · by_cases h2 : p = i
        · subst h2; simp [e]
        · simp [h1, show ¬ p < i + 1 by omega]
    · rw [if_neg (by rw [e]; decide)]
      refine ⟨_, bitsR_set hP hi (by simp [e]) (fun p hp hne => ?_), rfl⟩
      by_cases h1 : p < i
      · simp [h1, show p < i + 1 by omega]
      · simp [h1, show ¬ p < i + 1 by omega]
  · intro n a hP
    show lp_X12_toldSet_4 F τ (n + 1) a (nI 16) = _
    rw [lp_X12_toldSet_4, if_neg nlt16]
    exact congrArg some (bitsR_ext hP (bitsR_congr hR.1 (fun p hp => by simp [hp])))
  · exact ⟨fun p hp => ⟨Or.inl (by simp), by rw [b_0]; simp⟩, fun p _ => b_0 p⟩
theorem m_livingSet {F : Nat} (hF : 17 ≤ F) {σ τ : jS} (h : cityW (τ 1)) (hR : cityR 3 σ (τ 1)) : mX12_livingSet F τ = some (σ 3 4) := by
  unfold mX12_livingSet
  refine loop_p (fun n x a => lp_X12_livingSet_4 F τ n a x) 16 (fun i a => bitsR a (fun p => if p < i then τ 1 (48 + p) else 0)) (fun r => r = some (σ 3 4)) ?_ ?_ F 0 0 (by omega) (by omega) ?_
  · intro n i a hi hP
    right
    show ∃ a', _ ∧ lp_X12_livingSet_4 F τ (n + 1) a (nI i) = lp_X12_livingSet_4 F τ n a' (nI (i + 1))
    rw [lp_X12_livingSet_4, if_pos (lt16 hi), m_live h, tl_in _ hi]
    simp only [Option.bind_some, lt, nI1]
    rcases rk01 (h.1 (48 + i) (by omega)) (Or.inr ⟨by omega, by omega⟩) with e | e
    · rw [if_pos e]
      refine ⟨a, bitsR_congr hP (fun p hp => ?_), rfl⟩
      by_cases h1 : p < i
      · simp [h1, show p < i + 1 by omega]
      · by_cases h2 : p = i
        · subst h2; simp [e]
        · simp [h1, show ¬ p < i + 1 by omega]
    · rw [if_neg (by rw [e]; decide)]
      refine ⟨_, bitsR_set hP hi (by simp [e]) (fun p hp hne => ?_), rfl⟩
      by_cases h1 : p < i
      · simp [h1, show p < i + 1 by omega]
      · simp [h1, show ¬ p < i + 1 by omega]
  · intro n a hP
    show lp_X12_livingSet_4 F τ (n + 1) a (nI 16) = _
    rw [lp_X12_livingSet_4, if_neg nlt16]
    exact congrArg some (bitsR_ext hP (bitsR_congr hR.2.1 (fun p hp => by simp [hp])))
  · exact ⟨fun p hp => ⟨Or.inl (by simp), by rw [b_0]; simp⟩, fun p _ => b_0 p⟩
/-- a place of the row as a number -/
theorem rk_at {t : Nat → Int32} (h : cityW0 t) {i : Nat} (hi : i < 212) : ∃ n : Nat, n ≤ 999999999 ∧ t i = nI n := by
  obtain ⟨n, e, hn⟩ := h i hi
  refine ⟨n, ?_, e⟩
  refine Nat.le_trans hn ?_
  split
  · omega
  · split
    · omega
    · split
      · omega
      · split
        · omega
        · split
          · omega
          · split
            · omega
            · split
              · omega
              · split
                · omega
                · split
                  · omega
                  · split
                    · omega
                    · split
                      · omega
                      · split <;> omega
theorem s_richest {F : Nat} (hF : 17 ≤ F) {σ τ : jS} (h : cityW (τ 1)) (hR : cityR 3 σ (τ 1)) : ∃ r, mX0_richest F 3 σ = some r ∧ mX12_richest F τ = some r := by
  unfold mX0_richest mX12_richest
  refine loop_q (fun n x (a : Int32 × Int32) => lp_X0_richest_7 F 3 σ n a.1 a.2 x) (fun n x (b : Int32) => lp_X12_richest_5 F τ n b x) 16 (fun i a b => a.1 = b ∧ ((b = -2 ∧ a.2 = -1) ∨ ∃ q, q < 16 ∧ b = nI q ∧ a.2 = τ 1 (16 + q))) (fun r s => ∃ x, r = some x ∧ s = some x) ?_ ?_ F 0 (-2, -1) (-2) (by omega) (by omega) ⟨rfl, Or.inl ⟨rfl, rfl⟩⟩
  · intro n i a b hi hP
    right
    obtain ⟨a1, a2⟩ := a
    obtain ⟨e1, hP⟩ := hP
    have e1 : a1 = b := e1
    subst e1
    show ∃ (a' : Int32 × Int32) (b' : Int32), _ ∧ lp_X0_richest_7 F 3 σ (n + 1) a1 a2 (nI i) = lp_X0_richest_7 F 3 σ n a'.1 a'.2 (nI (i + 1)) ∧ lp_X12_richest_5 F τ (n + 1) a1 (nI i) = lp_X12_richest_5 F τ n b' (nI (i + 1))
    rw [lp_X0_richest_7, lp_X12_richest_5, if_pos (lt16 hi), if_pos (lt16 hi), x0_told hR, m_told h, tl_in _ hi]
    simp only [Option.bind_some, lt, nI1, jin_nI (show i < 16 by omega) (by omega), if_true, nI_clamp (show i < 2 ^ 31 by omega), show (16 : Int32) + nI i = nI (16 + i) from nI_add 16 i, jin_nI (show 16 + i < 212 by omega) (by omega), nI_clamp (show 16 + i < 2 ^ 31 by omega), show σ (3 + 1) i = τ 1 (16 + i) from cityR_beats_at hR hi]
    rcases rk01 (h.1 i (by omega)) (Or.inl hi) with e | e
    · rw [if_pos e, if_pos e]
      exact ⟨(a1, a2), a1, ⟨rfl, hP⟩, rfl, rfl⟩
    · have e0 : ¬ τ 1 i = 0 := by rw [e]; decide
      rw [if_neg e0, if_neg e0]
      obtain ⟨m, hm, em⟩ := rk_at h.1 (show 16 + i < 212 by omega)
      rcases hP with ⟨rfl, e2⟩ | ⟨q, hq, rfl, e2⟩
      · have e2 : a2 = -1 := e2
        subst e2
        rw [if_pos (show (-1 : Int32) < τ 1 (16 + i) by rw [em, fa_lt, nI_toInt (by omega)]; show (-1 : Int) < _; omega), if_pos rfl]
        exact ⟨(nI i, τ 1 (16 + i)), nI i, ⟨rfl, Or.inr ⟨i, hi, rfl, rfl⟩⟩, rfl, rfl⟩
      · have e2 : a2 = τ 1 (16 + q) := e2
        subst e2
        rw [if_neg (show ¬ nI q = (-2 : Int32) by rw [fa_eq, nI_toInt (by omega)]; show ¬ (q : Int) = -2; omega)]
        simp only [show (16 : Int32) + nI q = nI (16 + q) from nI_add 16 q, jin_nI (show 16 + q < 212 by omega) (by omega), nI_clamp (show 16 + q < 2 ^ 31 by omega), if_true]
        by_cases c : τ 1 (16 + q) < τ 1 (16 + i)
        · rw [if_pos c, if_pos c]
          exact ⟨(nI i, τ 1 (16 + i)), nI i, ⟨rfl, Or.inr ⟨i, hi, rfl, rfl⟩⟩, rfl, rfl⟩
        · rw [if_neg c, if_neg c]
          exact ⟨(nI q, τ 1 (16 + q)), nI q, ⟨rfl, Or.inr ⟨q, hq, rfl, rfl⟩⟩, rfl, rfl⟩
  · intro n a b hP
    obtain ⟨a1, a2⟩ := a
    have e1 : a1 = b := hP.1
    subst e1
    show ∃ x, lp_X0_richest_7 F 3 σ (n + 1) a1 a2 (nI 16) = some x ∧ lp_X12_richest_5 F τ (n + 1) a1 (nI 16) = some x
    rw [lp_X0_richest_7, lp_X12_richest_5, if_neg nlt16, if_neg nlt16]
    exact ⟨a1, rfl, rfl⟩
theorem s_count (F : Nat) (hF : 17 ≤ F) : S_count F Inv := by
  intro σ τ x hI
  obtain ⟨⟨⟨n, hn, t1, t2⟩, -⟩, hW, hR, -, -, ⟨e, he, h1, h2, ⟨cd, m, hm, l1, l2, -⟩⟩⟩ := id hI
  obtain ⟨r, hr1, hr2⟩ := s_richest hF hW hR
  unfold mX11_count mX12_count
  rw [m_toldSet hF hW hR, m_livingSet hF hW hR, hr1, hr2, cityR_day_at hR, cityR_parish_at hR, cityR_lot_at hR, show σ 6 6 = τ 1 208 from cityR_many_at hR, h1, t1, t2, l2]
  have ke : kX e = 3 := by rcases he with rfl | rfl <;> rfl
  simp only [Option.bind_some, lt, nI_clamp (show e < 2 ^ 31 by omega), ke, if_true, l1]
  by_cases c0 : x = 0
  · rw [if_pos c0]
    exact ⟨_, rfl, rfl, hI⟩
  rw [if_neg c0]
  by_cases c1 : x = 1
  · rw [if_pos c1]
    exact ⟨_, rfl, rfl, hI⟩
  rw [if_neg c1]
  by_cases c2 : x = 2
  · rw [if_pos c2]
    exact ⟨_, rfl, rfl, hI⟩
  rw [if_neg c2]
  by_cases c3 : x = 3
  · rw [if_pos c3]
    exact ⟨_, rfl, rfl, hI⟩
  rw [if_neg c3]
  by_cases c4 : x = 4
  · rw [if_pos c4]
    exact ⟨_, rfl, rfl, hI⟩
  rw [if_neg c4]
  by_cases c5 : x = 5
  · rw [if_pos c5]
    exact ⟨_, rfl, rfl, hI⟩
  rw [if_neg c5]
  by_cases c6 : x = 6
  · rw [if_pos c6]
    exact ⟨_, rfl, rfl, hI⟩
  rw [if_neg c6]
  by_cases c7 : x = 7
  · rw [if_pos c7]
    exact ⟨_, rfl, rfl, hI⟩
  rw [if_neg c7]
  by_cases c8 : x = 8
  · rw [if_pos c8]
    exact ⟨_, rfl, rfl, hI⟩
  rw [if_neg c8]
  exact ⟨_, rfl, rfl, hI⟩
