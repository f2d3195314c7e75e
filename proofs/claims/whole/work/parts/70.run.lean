/-! ===== a text opened in both ===== -/
theorem tape_cases (F : Nat) {σ τ : jS} (hI : Inv σ τ) {m : Nat} (hm : m ≤ 260) : (mX10_has F (nI m) σ = some 0 ∧ τ 0 6 < nI m) ∨ (mX10_has F (nI m) σ = some 1 ∧ ¬ τ 0 6 < nI m ∧ ∃ σ1, mX10_open F (nI m) σ = some σ1 ∧ Inv σ1 (js τ 0 6 0) ∧ (∀ d, d ≠ 1 → σ1 d = σ d) ∧ σ1 1 2 = nI m ∧ σ1 1 3 = 0 ∧ σ1 1 4 = (if 0 < m then σ 2 0 else -1) ∧ σ1 1 5 = 0) := by
  obtain ⟨⟨n, hn, t1, t2⟩, t3⟩ := hI.1
  rw [x_has t1 hn hm, t2]
  by_cases c : m ≤ n
  · right
    obtain ⟨σ1, e1, o1, s1, s2, s3, s4, s5⟩ := x10_open F σ hm
    rw [if_pos c]
    exact ⟨rfl, nI_nlt c (by omega), σ1, e1, Inv_empty hI (keepX_open o1) s1 (keepM_open τ 0) (js_at _ _ _ _), o1, s2, s3, s4, s5⟩
  · left
    rw [if_neg c]
    exact ⟨rfl, nI_lt (by omega) (by omega)⟩
theorem m_bits {F : Nat} (hF : 17 ≤ F) (τ : jS) (x : Int32) : mX12_bits F x τ = some (nI (fa_cnt (bt x) 16)) := by
  unfold mX12_bits
  refine loop_p (fun n y a => lp_X12_bits_4 F τ n x a y) 16 (fun i a => a = nI (fa_cnt (bt x) i)) (fun r => r = some (nI (fa_cnt (bt x) 16))) ?_ ?_ F 0 0 (by omega) (by omega) rfl
  · intro n i a hi hP
    subst hP
    right
    show ∃ a', _ ∧ lp_X12_bits_4 F τ (n + 1) x _ (nI i) = lp_X12_bits_4 F τ n x a' (nI (i + 1))
    rw [lp_X12_bits_4, if_pos (lt16 hi), bt_shr1 x i (by omega)]
    simp only [lt, nI1]
    refine ⟨_, ?_, rfl⟩
    cases h : bt x i with
    | true => rw [if_pos rfl, fa_cnt_yes h, nI1]
    | false => rw [if_neg (by decide), fa_cnt_no h]; exact nI_add _ 0
  · intro n a hP
    subst hP
    show lp_X12_bits_4 F τ (n + 1) x _ (nI 16) = _
    rw [lp_X12_bits_4, if_neg nlt16]
theorem fa_cnt_cut (p : Nat → Bool) (n : Nat) : ∀ m, n ≤ m → fa_cnt (fun q => decide (q < n) && p q) m = fa_cnt p n := by
  intro m
  induction m with
  | zero => intro h; have : n = 0 := by omega
            subst this; rfl
  | succ m ih =>
    intro h
    by_cases c : n = m + 1
    · subst c
      exact fa_cnt_cong (fun k hk => by simp [hk])
    · rw [fa_cnt_no (show (decide (m < n) && p m) = false by simp; omega)]
      exact ih (by omega)
/-! ===== a run on the bank ===== -/
def bkN (τ : jS) (n t : Nat) : Nat := fa_cnt (fun q => decide (bb τ q ≤ t)) n
def bkG (τ : jS) (n : Nat) : Nat → Nat → Nat → Nat × Nat
  | 0, t, r => (t, r)
  | k + 1, t, r => if t < bkN τ n t then bkG τ n k (bkN τ n t) (r + 1) else bkG τ n k t r
theorem bkG_fix {τ : jS} {n t : Nat} (h : ¬ t < bkN τ n t) : ∀ k r, bkG τ n k t r = (t, r)
  | 0, _ => rfl
  | k + 1, r => by rw [bkG, if_neg h]; exact bkG_fix h k r
theorem bkN_le (τ : jS) (n t : Nat) : bkN τ n t ≤ n := fa_cnt_le _ n
theorem bkN_mono (τ : jS) (n : Nat) {t u : Nat} (h : t ≤ u) : bkN τ n t ≤ bkN τ n u := fa_cnt_mono n (fun k _ hk => by simp at hk ⊢; omega)
theorem x9_round {F : Nat} {σ τ : jS} (h4 : ∀ i, i < 260 → σ 2 i = τ 6 i &&& 255) {n : Nat} (hn : n ≤ 16) (hF : 17 ≤ F) (k : Int32 → Int32 → Int32 → Int32 → Int32 → Int32 → Option Int32) (x2 x4 x5 : Int32) {t : Nat} (ht : t ≤ 16) : lp_X9_bankRun_49 F σ k F (nI n) x2 (nI t) x4 x5 0 0 = k (nI n) x2 (nI t) x4 x5 (nI (bkN τ n t)) := by
  refine loop_p (fun m y a => lp_X9_bankRun_49 F σ k m (nI n) x2 (nI t) x4 x5 a y) n (fun i a => a = nI (bkN τ i t)) (fun r => r = k (nI n) x2 (nI t) x4 x5 (nI (bkN τ n t))) ?_ ?_ F 0 0 (by omega) (by omega) rfl
  · intro m i a hi hP
    subst hP
    right
    show ∃ a', _ ∧ lp_X9_bankRun_49 F σ k (m + 1) (nI n) x2 (nI t) x4 x5 _ (nI i) = lp_X9_bankRun_49 F σ k m (nI n) x2 (nI t) x4 x5 a' (nI (i + 1))
    have hb := (bb_n τ i).1
    rw [lp_X9_bankRun_49, if_pos (nI_lt hi (by omega)), x_byte F h4 (show i < 260 by omega)]
    simp only [Option.bind_some, lt, nI1]
    by_cases c : bb τ i ≤ t
    · rw [if_neg (nI_nlt c (by omega))]
      exact ⟨_, by unfold bkN; rw [fa_cnt_yes (by simpa using c)], rfl⟩
    · rw [if_pos (nI_lt (by omega) (by omega))]
      exact ⟨_, by unfold bkN; rw [fa_cnt_no (by simpa using c)]; exact nI_add _ 0, rfl⟩
  · intro m a hP
    subst hP
    show lp_X9_bankRun_49 F σ k (m + 1) (nI n) x2 (nI t) x4 x5 _ (nI n) = _
    rw [lp_X9_bankRun_49, if_neg (nI_nlt (by omega) (by omega))]
theorem x9_rounds {F : Nat} {σ τ : jS} (h4 : ∀ i, i < 260 → σ 2 i = τ 6 i &&& 255) {n : Nat} (hn : n ≤ 16) (hF : 17 ≤ F) (x2 : Int32) : ∀ (k m i t r : Nat), i + k = n → k < m → t ≤ 16 → lp_X9_bankRun_37 F σ m (nI n) x2 (nI t) (nI r) (nI i) = if x2 = 0 then some (nI (bkG τ n k t r).1) else some (nI (bkG τ n k t r).2) := by
  intro k
  induction k with
  | zero =>
    intro m i t r hi hm ht
    obtain ⟨m, rfl⟩ : ∃ j, m = j + 1 := ⟨m - 1, by omega⟩
    rw [lp_X9_bankRun_37, if_neg (nI_nlt (by omega) (by omega))]
    rfl
  | succ k ih =>
    intro m i t r hi hm ht
    obtain ⟨m, rfl⟩ : ∃ j, m = j + 1 := ⟨m - 1, by omega⟩
    have hN := bkN_le τ n t
    rw [lp_X9_bankRun_37, if_pos (nI_lt (by omega) (by omega)), x9_round h4 hn hF _ _ _ _ ht]
    simp only [nI1]
    rw [bkG]
    by_cases c : t < bkN τ n t
    · rw [if_pos (nI_lt c (by omega)), if_pos c]
      exact ih m (i + 1) _ _ (by omega) (by omega) (by omega)
    · rw [if_neg (nI_nlt (by omega) (by omega)), if_neg c]
      exact ih m (i + 1) _ _ (by omega) (by omega) (by omega)
theorem m_round {F : Nat} {τ : jS} {n : Nat} (hn : n ≤ 16) (hF : 17 ≤ F) (k : Int32 → Int32 → Int32 → Int32 → Int32 → jS → Option (Int32 × jS)) (x2 x5 come : Int32) (hc : ∀ q, q < 32 → bt come q = true → q < n ∧ bb τ q ≤ fa_cnt (bt come) 16) : ∃ come', lp_X12_run_86 F k F (nI n) x2 come come x5 0 τ = k (nI n) x2 come' come x5 τ ∧ ∀ q, q < 32 → (bt come' q = true ↔ q < n ∧ bb τ q ≤ fa_cnt (bt come) 16) := by
  have hc16 : fa_cnt (bt come) 16 ≤ 16 := fa_cnt_le _ 16
  refine loop_p (fun m y a => lp_X12_run_86 F k m (nI n) x2 a come x5 y τ) n (fun i a => ∀ q, q < 32 → (bt a q = true ↔ bt come q = true ∨ (q < i ∧ bb τ q ≤ fa_cnt (bt come) 16))) (fun r => ∃ come', r = k (nI n) x2 come' come x5 τ ∧ ∀ q, q < 32 → (bt come' q = true ↔ q < n ∧ bb τ q ≤ fa_cnt (bt come) 16)) ?_ ?_ F 0 come (by omega) (by omega) (fun q hq => by simp)
  · intro m i a hi hP
    right
    show ∃ a', _ ∧ lp_X12_run_86 F k (m + 1) (nI n) x2 a come x5 (nI i) τ = lp_X12_run_86 F k m (nI n) x2 a' come x5 (nI (i + 1)) τ
    have hb := (bb_n τ i).1
    rw [lp_X12_run_86, if_pos (nI_lt hi (by omega)), m_has F τ come (show i < 32 by omega), m_oct F τ (show i < 260 by omega), m_bits hF τ come]
    simp only [Option.bind_some, lt, nI1]
    have keep : (bb τ i ≤ fa_cnt (bt come) 16 → bt come i = true) → ∀ q, q < 32 → (bt a q = true ↔ bt come q = true ∨ (q < i + 1 ∧ bb τ q ≤ fa_cnt (bt come) 16)) := by
      intro hk q hq
      rw [hP q hq]
      constructor
      · rintro (h | ⟨h1, h2⟩)
        · exact Or.inl h
        · exact Or.inr ⟨by omega, h2⟩
      · rintro (h | ⟨h1, h2⟩)
        · exact Or.inl h
        · by_cases e : q = i
          · subst e; exact Or.inl (hk h2)
          · exact Or.inr ⟨by omega, h2⟩
    by_cases c : bt come i = true
    · rw [if_pos c, if_neg (show ¬ (1 : Int32) = 0 by decide)]
      exact ⟨_, keep (fun _ => c), rfl⟩
    · rw [if_neg c, if_pos rfl]
      by_cases c2 : bb τ i ≤ fa_cnt (bt come) 16
      · rw [if_neg (nI_nlt c2 (by omega))]
        refine ⟨_, fun q hq => ?_, rfl⟩
        rw [b_or, bt_one i q (by omega), Bool.or_eq_true, hP q hq, decide_eq_true_eq]
        constructor
        · rintro ((h | ⟨h1, h2⟩) | h)
          · exact Or.inl h
          · exact Or.inr ⟨by omega, h2⟩
          · subst h; exact Or.inr ⟨by omega, c2⟩
        · rintro (h | ⟨h1, h2⟩)
          · exact Or.inl (Or.inl h)
          · by_cases e : q = i
            · exact Or.inr e
            · exact Or.inl (Or.inr ⟨by omega, h2⟩)
      · rw [if_pos (nI_lt (by omega) (by omega))]
        exact ⟨_, keep (fun h => absurd h c2), rfl⟩
  · intro m a hP
    show ∃ come', lp_X12_run_86 F k (m + 1) (nI n) x2 a come x5 (nI n) τ = _ ∧ _
    rw [lp_X12_run_86, if_neg (nI_nlt (by omega) (by omega))]
    refine ⟨a, rfl, fun q hq => ?_⟩
    rw [hP q hq]
    constructor
    · rintro (h | h)
      · exact hc q hq h
      · exact h
    · intro h; exact Or.inr h
theorem m_rounds {F : Nat} {τ : jS} {n : Nat} (hn : n ≤ 16) (hF : 17 ≤ F) (x2 : Int32) : ∀ (k m : Nat) (come before many : Int32) (r : Nat), k + 1 < m → n - fa_cnt (bt come) 16 ≤ k → come ≠ before → (∀ q, q < 32 → bt come q = true → q < n ∧ bb τ q ≤ fa_cnt (bt come) 16) → many + 1 = nI r → lp_X12_run_68 F m (nI n) x2 come before many τ = if x2 = 0 then some (nI (bkG τ n k (fa_cnt (bt come) 16) r).1, τ) else some (nI (bkG τ n k (fa_cnt (bt come) 16) r).2, τ) := by
  intro k
  induction k with
  | zero =>
    intro m come before many r hm hk hne hc hr
    obtain ⟨m, rfl⟩ : ∃ j, m = j + 2 := ⟨m - 2, by omega⟩
    obtain ⟨c', e1, h1⟩ := m_round hn hF (fun x1_12 x2_12 x3_12 x4_12 x5_12 σ12 => (lp_X12_run_68 F (m + 1) x1_12 x2_12 x3_12 x4_12 x5_12 σ12)) x2 (nI r) come hc
    rw [lp_X12_run_68, if_neg hne]
    simp only [lt, hr]
    rw [e1]
    have hle : ∀ q, q < 16 → bt come q = true → bt c' q = true := fun q hq h => (h1 q (by omega)).mpr (hc q (by omega) h)
    have hN : fa_cnt (bt c') 16 = bkN τ n (fa_cnt (bt come) 16) := by
      unfold bkN
      rw [← fa_cnt_cut _ n 16 hn]
      exact fa_cnt_cong (fun q hq => by rw [Bool.eq_iff_iff, h1 q (by omega)]; simp)
    have e : c' = come := by
      apply Classical.byContradiction
      intro hx
      have : ∃ q, q < 16 ∧ bt come q = false ∧ bt c' q = true := by
        apply Classical.byContradiction
        intro hn2
        apply hx
        apply b_ext
        intro q hq
        rcases Nat.lt_or_ge q 16 with h | h
        · cases a : bt come q with
          | true => exact hle q h a
          | false =>
            cases b : bt c' q with
            | false => rfl
            | true => exact absurd ⟨q, h, a, b⟩ hn2
        · cases a : bt come q with
          | true => have := (hc q hq a).1; omega
          | false =>
            cases b : bt c' q with
            | false => rfl
            | true => have := ((h1 q hq).mp b).1; omega
      have h2 := fa_cnt_more 16 hle this
      have h3 := bkN_le τ n (fa_cnt (bt come) 16)
      omega
    rw [e, lp_X12_run_68, if_pos rfl, m_bits hF]
    rfl
  | succ k ih =>
    intro m come before many r hm hk hne hc hr
    obtain ⟨m, rfl⟩ : ∃ j, m = j + 2 := ⟨m - 2, by omega⟩
    obtain ⟨c', e1, h1⟩ := m_round hn hF (fun x1_12 x2_12 x3_12 x4_12 x5_12 σ12 => (lp_X12_run_68 F (m + 1) x1_12 x2_12 x3_12 x4_12 x5_12 σ12)) x2 (nI r) come hc
    rw [lp_X12_run_68, if_neg hne]
    simp only [lt, hr]
    rw [e1]
    have hle : ∀ q, q < 16 → bt come q = true → bt c' q = true := fun q hq h => (h1 q (by omega)).mpr (hc q (by omega) h)
    have hN : fa_cnt (bt c') 16 = bkN τ n (fa_cnt (bt come) 16) := by
      unfold bkN
      rw [← fa_cnt_cut _ n 16 hn]
      exact fa_cnt_cong (fun q hq => by rw [Bool.eq_iff_iff, h1 q (by omega)]; simp)
    by_cases e : c' = come
    · rw [e] at hN
      rw [e, lp_X12_run_68, if_pos rfl, m_bits hF, bkG_fix (by omega)]
      rfl
    · have : ∃ q, q < 16 ∧ bt come q = false ∧ bt c' q = true := by
        apply Classical.byContradiction
        intro hn2
        apply e
        apply b_ext
        intro q hq
        rcases Nat.lt_or_ge q 16 with h | h
        · cases a : bt come q with
          | true => exact hle q h a
          | false =>
            cases b : bt c' q with
            | false => rfl
            | true => exact absurd ⟨q, h, a, b⟩ hn2
        · cases a : bt come q with
          | true => have := (hc q hq a).1; omega
          | false =>
            cases b : bt c' q with
            | false => rfl
            | true => have := ((h1 q hq).mp b).1; omega
      have h2 := fa_cnt_more 16 hle this
      rw [bkG, if_pos (show fa_cnt (bt come) 16 < bkN τ n (fa_cnt (bt come) 16) by omega), ← hN]
      refine ih (m + 1) c' come (nI r) (r + 1) (by omega) (by omega) e (fun q hq hb => ?_) (nI1 r)
      obtain ⟨a, b⟩ := (h1 q hq).mp hb
      exact ⟨a, by omega⟩
theorem s_run (F : Nat) (hF : 100 ≤ F) : S_run F Inv := by
  intro σ τ x1 x2 hI
  unfold mX11_run mX12_run
  rw [isW, isI, isW, isI]
  rcases inr_c x1 2 16 with e | ⟨e, h1, h2⟩
  · rw [e]; exact ⟨-1, σ, τ, rfl, rfl, hI⟩
  rcases inr_c x2 0 1 with e2 | ⟨e2, -, -⟩
  · rw [e, e2]; exact ⟨-1, σ, τ, rfl, rfl, hI⟩
  obtain ⟨n, hn2, hn, rfl⟩ := inr_nat (a := 2) (b := 16) (by omega) (by omega) h1 h2
  simp only [e, e2, Option.bind_some, if_neg (show ¬ (1 : Int32) = 0 by decide)]
  rcases tape_cases F hI (show n ≤ 260 by omega) with ⟨a1, a2⟩ | ⟨a1, a2, σ1, a3, hI2, -⟩
  · rw [a1, if_pos a2]; exact ⟨-1, σ, τ, rfl, rfl, hI⟩
  rw [a1, if_neg a2, a3]
  simp only [Option.bind_some, if_neg (show ¬ (1 : Int32) = 0 by decide), lt]
  generalize js τ 0 6 0 = τ1 at hI2 ⊢
  obtain ⟨⟨-, t4⟩, -⟩ := id hI2
  unfold mX9_bankRun
  refine loop_q (fun m y (a : Unit) => Option.bind (lp_X9_bankRun_2 F σ1 (fun x1_2 x2_2 => (lp_X9_bankRun_37 F σ1 F x1_2 x2_2 (0 : Int32) (0 : Int32) (0 : Int32))) m (nI n) x2 y) fun q5 => some (q5, σ1)) (fun m y (b : Unit) => lp_X12_run_36 F (fun x1_5 x2_5 σ5 => (lp_X12_run_68 F F x1_5 x2_5 (0 : Int32) (-1 : Int32) (-1 : Int32) σ5)) m (nI n) x2 y τ1) n (fun i a b => True) (fun r s => ∃ z σ' τ', r = some (z, σ') ∧ s = some (z, τ') ∧ Inv σ' τ') ?_ ?_ F 0 () () (by omega) (by omega) trivial
  · intro m i _ _ hi _
    have hb := (bb_n τ1 i).1
    show (∃ z σ' τ', (Option.bind (lp_X9_bankRun_2 F σ1 _ (m + 1) (nI n) x2 (nI i)) fun q5 => some (q5, σ1)) = some (z, σ') ∧ lp_X12_run_36 F _ (m + 1) (nI n) x2 (nI i) τ1 = some (z, τ') ∧ Inv σ' τ') ∨ ∃ (a' b' : Unit), True ∧ (Option.bind (lp_X9_bankRun_2 F σ1 _ (m + 1) (nI n) x2 (nI i)) fun q5 => some (q5, σ1)) = (Option.bind (lp_X9_bankRun_2 F σ1 _ m (nI n) x2 (nI (i + 1))) fun q5 => some (q5, σ1)) ∧ lp_X12_run_36 F _ (m + 1) (nI n) x2 (nI i) τ1 = lp_X12_run_36 F _ m (nI n) x2 (nI (i + 1)) τ1
    rw [lp_X9_bankRun_2, lp_X12_run_36, if_pos (nI_lt hi (by omega)), if_pos (nI_lt hi (by omega)), x_byte F t4 (show i < 260 by omega), m_oct F τ1 (show i < 260 by omega)]
    simp only [Option.bind_some, nI1]
    by_cases c : (16 : Int32) < nI (bb τ1 i)
    · left
      rw [if_pos c, if_pos c]
      exact ⟨-2, σ1, τ1, rfl, rfl, hI2⟩
    · right
      rw [if_neg c, if_neg c]
      exact ⟨(), (), trivial, rfl, rfl⟩
  · intro m _ _ _
    show ∃ z σ' τ', (Option.bind (lp_X9_bankRun_2 F σ1 _ (m + 1) (nI n) x2 (nI n)) fun q5 => some (q5, σ1)) = some (z, σ') ∧ lp_X12_run_36 F _ (m + 1) (nI n) x2 (nI n) τ1 = some (z, τ') ∧ Inv σ' τ'
    rw [lp_X9_bankRun_2, lp_X12_run_36, if_neg (nI_nlt (Nat.le_refl n) (by omega)), if_neg (nI_nlt (Nat.le_refl n) (by omega))]
    have z0 : fa_cnt (bt 0) 16 = 0 := by decide
    have r1 := x9_rounds t4 hn (show 17 ≤ F by omega) x2 n F 0 0 0 (by omega) (by omega) (by omega)
    have r2 := m_rounds (τ := τ1) hn (show 17 ≤ F by omega) x2 n F 0 (-1) (-1) 0 (by omega) (by omega) (by decide) (fun q hq hb => by rw [b_0] at hb; exact absurd hb (by decide)) (by decide)
    rw [z0] at r2
    have r1 : lp_X9_bankRun_37 F σ1 F (nI n) x2 0 0 0 = _ := r1
    rw [r1, r2]
    by_cases c : x2 = 0
    · rw [if_pos c, if_pos c]
      exact ⟨_, _, _, rfl, rfl, hI2⟩
    · rw [if_neg c, if_neg c]
      exact ⟨_, _, _, rfl, rfl, hI2⟩
