/-! ===== how few payments settle all ===== -/
def netw (τ : jS) (p : Nat) : Int32 := nI (ww τ p) - 32768
def smF (τ : jS) (s k : Nat) (a : Int32) : Int32 := if s.testBit k = true then a + netw τ k else a
def sm (τ : jS) (s n : Nat) : Int32 := itr (smF τ s) 0 n 0
theorem itr_succ {α : Type} (f : Nat → α → α) : ∀ (k i : Nat) (a : α), itr f i (k + 1) a = f (i + k) (itr f i k a)
  | 0, i, a => rfl
  | k + 1, i, a => by
    show itr f (i + 1) (k + 1) (f i a) = _
    rw [itr_succ f k (i + 1) (f i a), show i + 1 + k = i + (k + 1) by omega]
    rfl
theorem sm_0 (τ : jS) (s : Nat) : sm τ s 0 = 0 := rfl
theorem sm_s (τ : jS) (s n : Nat) : sm τ s (n + 1) = smF τ s n (sm τ s n) := by
  have := itr_succ (smF τ s) n 0 0
  rw [Nat.zero_add] at this
  exact this
theorem x_net (F : Nat) {σ τ : jS} (h4 : ∀ i, i < 260 → σ 2 i = τ 6 i &&& 255) {p : Nat} (hp : p < 130) : mX9_netAt F (nI p) σ = some (netw τ p) := by
  unfold mX9_netAt
  rw [x_word F h4 hp]
  rfl
theorem m_sumOf {F : Nat} (hF : 30 ≤ F) {τ : jS} {s n : Nat} (hs : s < 65536) (hn : n ≤ 8) : mX12_sumOf F (nI s) (nI n) τ = some (sm τ s n) := by
  unfold mX12_sumOf sm
  refine loop_f (fun m y a => lp_X12_sumOf_5 F τ m (nI s) (nI n) a y) n (smF τ s) some ?_ ?_ F 0 0 (by omega) (by omega)
  · intro m k a hk
    show lp_X12_sumOf_5 F τ (m + 1) (nI s) (nI n) a (nI k) = _
    rw [lp_X12_sumOf_5, if_pos (nI_lt hk (by omega)), m_has F τ _ (show k < 32 by omega), bt_nat hs, m_word F τ (show k < 130 by omega)]
    simp only [Option.bind_some, ltE, nI1]
    unfold smF netw
    by_cases c : s.testBit k = true
    · rw [if_pos c, if_pos c, if_neg (show ¬ (1 : Int32) = 0 by decide), Int32.sub_eq_add_neg, Int32.sub_eq_add_neg, Int32.add_assoc]
    · rw [if_neg c, if_neg c, if_pos rfl]
  · intro m a
    show lp_X12_sumOf_5 F τ (m + 1) (nI s) (nI n) a (nI n) = _
    rw [lp_X12_sumOf_5, if_neg (nI_nlt (Nat.le_refl n) (by omega))]
theorem all_n : ∀ n, n < 9 → ((1 : Int32) <<< (nI n &&& 31)) - 1 = nI (2 ^ n - 1) := by decide +kernel
theorem shl_n : ∀ n, n < 16 → (1 : Int32) <<< (nI n &&& 31) = nI (2 ^ n) := by decide +kernel
theorem all_bit {n k : Nat} (hk : k < n) : (2 ^ n - 1).testBit k = true := by
  rw [Nat.testBit_two_pow_sub_one]
  simpa using hk
theorem m_max' (F : Nat) (τ : jS) (a b : Int32) : mX12_max F a b τ = some (imax a b) := by
  unfold mX12_max imax
  rcases fa_three a b with h | h | h
  · rw [if_neg (fa_of_lt h).2.2.1, if_pos h]
  · subst h
    rw [if_neg (by rw [fa_lt]; omega), if_neg (by rw [fa_lt]; omega)]
  · rw [if_pos h, if_neg (fa_of_lt h).2.2.1]
def pdF (τ : jS) (k : Nat) (a : Int32) : Int32 := a + imax 0 (netw τ k)
theorem x9_paid {F : Nat} (hF : 30 ≤ F) {σ τ : jS} (h4 : ∀ i, i < 260 → σ 2 i = τ 6 i &&& 255) {n : Nat} (hn : n ≤ 8) : mX9_paidInAll F (nI n) σ = if sm τ (2 ^ n - 1) n = 0 then some (itr (pdF τ) 0 n 0) else some (-2) := by
  unfold mX9_paidInAll
  have key : ∀ (j i m : Nat) (a b : Int32), i + j = n → j < m → a = sm τ (2 ^ n - 1) i → lp_X9_paidInAll_7 F σ m (nI n) a b (nI i) = if sm τ (2 ^ n - 1) n = 0 then some (itr (pdF τ) i j b) else some (-2) := by
    intro j
    induction j with
    | zero =>
      intro i m a b hi hm ha
      obtain ⟨m, rfl⟩ : ∃ j, m = j + 1 := ⟨m - 1, by omega⟩
      have e : i = n := by omega
      subst e
      rw [lp_X9_paidInAll_7, if_neg (nI_nlt (Nat.le_refl i) (by omega)), ha]
      rfl
    | succ j ih =>
      intro i m a b hi hm ha
      obtain ⟨m, rfl⟩ : ∃ j, m = j + 1 := ⟨m - 1, by omega⟩
      rw [lp_X9_paidInAll_7, if_pos (nI_lt (by omega) (by omega)), x_net F h4 (show i < 130 by omega)]
      simp only [Option.bind_some, ltE, nI1]
      exact ih (i + 1) m _ _ (by omega) (by omega) (by rw [sm_s, ha]; unfold smF; rw [if_pos (all_bit (by omega))])
  exact key n 0 F 0 0 (by omega) (by omega) rfl
theorem pd_n (τ : jS) : ∀ (n i v : Nat), v ≤ 65536 * i → ∃ w, w ≤ 65536 * (i + n) ∧ itr (pdF τ) i n (nI v) = nI w := by
  intro n
  induction n with
  | zero => intro i v hv; exact ⟨v, by omega, rfl⟩
  | succ n ih =>
    intro i v hv
    have hw := ww_lt τ i
    have e : ∃ u, u ≤ 65536 ∧ imax 0 (netw τ i) = nI u := by
      unfold netw imax
      by_cases c : 32768 < ww τ i
      · rw [show nI (ww τ i) - (32768 : Int32) = nI (ww τ i - 32768) from pk_sub (a := ww τ i) (b := 32768) (by omega), if_pos (show (0 : Int32) < nI (ww τ i - 32768) from nI_lt (a := 0) (by omega) (by omega))]
        exact ⟨_, by omega, rfl⟩
      · rw [if_neg (show ¬ (0 : Int32) < nI (ww τ i) - 32768 by
          show ¬ (0 : Int32) < nI (ww τ i) - nI 32768
          rw [fa_lt, pk_sub_toInt (by omega) (by omega)]
          show ¬ (0 : Int) < _
          omega)]
        exact ⟨0, by omega, rfl⟩
    obtain ⟨u, hu, eu⟩ := e
    obtain ⟨w, h1, h2⟩ := ih (i + 1) (v + u) (by omega)
    refine ⟨w, by omega, ?_⟩
    show itr (pdF τ) (i + 1) n (pdF τ i (nI v)) = nI w
    rw [show pdF τ i (nI v) = nI (v + u) by unfold pdF; rw [eu, nI_add]]
    exact h2
theorem m_paid {F : Nat} (hF : 30 ≤ F) {τ : jS} {n : Nat} (hn : n ≤ 8) (k : Int32 → Int32 → Int32 → Int32 → jS → Option (Int32 × jS)) (x2 x3 : Int32) : lp_X12_settled_60 F k F (nI n) x2 x3 0 0 τ = k (nI n) x2 x3 (itr (pdF τ) 0 n 0) τ := by
  refine loop_f (fun m y a => lp_X12_settled_60 F k m (nI n) x2 x3 a y τ) n (pdF τ) (fun a => k (nI n) x2 x3 a τ) ?_ ?_ F 0 0 (by omega) (by omega)
  · intro m i a hi
    show lp_X12_settled_60 F k (m + 1) (nI n) x2 x3 a (nI i) τ = _
    rw [lp_X12_settled_60, if_pos (nI_lt hi (by omega)), m_word F τ (show i < 130 by omega)]
    simp only [Option.bind_some, ltE, nI1, m_max']
    rfl
  · intro m a
    show lp_X12_settled_60 F k (m + 1) (nI n) x2 x3 a (nI n) τ = _
    rw [lp_X12_settled_60, if_neg (nI_nlt (Nat.le_refl n) (by omega))]
theorem bit_less : ∀ v, v < 256 → ∀ p, p < 8 → v.testBit p = true → v ^^^ 2 ^ p < v := by decide +kernel
theorem sm_same (τ : jS) {s t : Nat} : ∀ n, (∀ k, k < n → s.testBit k = t.testBit k) → sm τ s n = sm τ t n
  | 0, _ => rfl
  | n + 1, h => by
    rw [sm_s, sm_s, sm_same τ n (fun k hk => h k (by omega))]
    unfold smF
    rw [h n (by omega)]
theorem sm_bit (τ : jS) {s p : Nat} (hb : s.testBit p = true) : ∀ n, p < n → sm τ s n = sm τ (s ^^^ 2 ^ p) n + netw τ p := by
  intro n
  induction n with
  | zero => intro h; exact absurd h (Nat.not_lt_zero _)
  | succ n ih =>
    intro hp
    have tb : ∀ k, (s ^^^ 2 ^ p).testBit k = (s.testBit k ^^ decide (p = k)) := by
      intro k
      rw [Nat.testBit_xor, Nat.testBit_two_pow]
    rw [sm_s, sm_s]
    by_cases e : p = n
    · subst e
      rw [sm_same τ (s := s) (t := s ^^^ 2 ^ p) p (fun k hk => by rw [tb k, decide_eq_false (by omega), Bool.xor_false])]
      unfold smF
      rw [if_pos hb, if_neg (by rw [tb p, hb]; simp)]
    · have ih := ih (by omega)
      unfold smF
      rw [tb n]
      simp only [e, decide_false, Bool.xor_false]
      by_cases c : s.testBit n = true
      · rw [if_pos c, if_pos c, ih, Int32.add_assoc, Int32.add_assoc, Int32.add_comm (netw τ p)]
      · rw [if_neg c, if_neg c, ih]
theorem bit_ex {v n : Nat} (h1 : 1 ≤ v) (h2 : v < 2 ^ n) : ∃ p, p < n ∧ v.testBit p = true := by
  apply Classical.byContradiction
  intro hn
  have : v = 0 := by
    apply Nat.eq_of_testBit_eq
    intro i
    rw [Nat.zero_testBit]
    rcases Nat.lt_or_ge i n with h | h
    · cases hb : v.testBit i with
      | false => rfl
      | true => exact absurd ⟨i, h, hb⟩ hn
    · exact Nat.testBit_lt_two_pow (Nat.lt_of_lt_of_le h2 (Nat.pow_le_pow_right (by omega) h))
  omega
theorem off_xor {x : Int32} {p : Nat} (hp : p < 32) (h : bt x p = true) : x &&& (((1 : Int32) <<< (nI p &&& 31)) ^^^ (-1)) = x ^^^ ((1 : Int32) <<< (nI p &&& 31)) := by
  apply b_ext
  intro i hi
  rw [b_and, b_xor, b_xor, bt_one p i hp, b_m1 i hi]
  by_cases e : i = p
  · subst e; simp [h]
  · simp [e]
theorem s_settled (F : Nat) (hF : 300 ≤ F) : S_settled F Inv := by
  intro σ τ x1 x2 hI
  unfold mX11_settled mX12_settled
  rw [isW, isI, isW, isI]
  rcases inr_c x1 2 8 with e | ⟨e, h1, h2⟩
  · rw [e]; exact ⟨-1, σ, τ, rfl, rfl, hI⟩
  rcases inr_c x2 0 1 with e2 | ⟨e2, h3, h5⟩
  · rw [e, e2]; exact ⟨-1, σ, τ, rfl, rfl, hI⟩
  obtain ⟨n, hn2, hn, rfl⟩ := inr_nat (a := 2) (b := 8) (by omega) (by omega) h1 h2
  obtain ⟨w, -, hw, rfl⟩ := inr_nat (a := 0) (b := 1) (by omega) (by omega) h3 h5
  simp only [e, e2, Option.bind_some, if_neg (show ¬ (1 : Int32) = 0 by decide), show (2 : Int32) * nI n = nI (2 * n) from pk_mul 2 n]
  rcases tape_cases F hI (show 2 * n ≤ 260 by omega) with ⟨a1, a2⟩ | ⟨a1, a2, σ1, a3, hI2, -⟩
  · rw [a1, if_pos a2]; exact ⟨-1, σ, τ, rfl, rfl, hI⟩
  rw [a1, if_neg a2, a3]
  simp only [Option.bind_some, if_neg (show ¬ (1 : Int32) = 0 by decide)]
  rw [ltE]
  generalize js τ 0 6 0 = τ1 at hI2 ⊢
  obtain ⟨⟨-, t4⟩, -⟩ := id hI2
  have hall : 2 ^ n - 1 ≤ 255 := (by decide : ∀ n, n < 9 → 2 ^ n - 1 ≤ 255) n (by omega)
  have hpow : 2 ^ n ≤ 256 := (by decide : ∀ n, n < 9 → 2 ^ n ≤ 256) n (by omega)
  have hpos : 1 ≤ 2 ^ n := Nat.one_le_two_pow
  rw [ltE, all_n n (by omega), m_sumOf (by omega) (show 2 ^ n - 1 < 65536 by omega) hn]
  simp only [Option.bind_some]
  rw [x9_paid (by omega) t4 hn]
  have hpd : ∃ v, v ≤ 524288 ∧ itr (pdF τ1) 0 n 0 = nI v := by
    obtain ⟨v, v1, v2⟩ := pd_n τ1 n 0 0 (by omega)
    exact ⟨v, by omega, v2⟩
  obtain ⟨v0, hv0, ev0⟩ := hpd
  unfold mX9_payments
  rw [if_neg (show ¬ nI n < 0 from nI_pos (by omega)), if_neg (show ¬ (8 : Int32) < nI n from nI_nlt (a := 8) hn (by omega)), x9_paid (by omega) t4 hn]
  by_cases c0 : sm τ1 (2 ^ n - 1) n = 0
  · rw [if_pos c0, if_pos c0, m_paid (by omega) hn, ev0]
    simp only [Option.bind_some]
    rw [if_neg (show ¬ nI v0 = (-2 : Int32) by rw [fa_eq, nI_toInt (by omega)]; show ¬ (v0 : Int) = -2; omega)]
    rcases (show w = 0 ∨ w = 1 by omega) with rfl | rfl
    · rw [if_pos (show nI 0 = (0 : Int32) from rfl), if_neg (show ¬ nI 0 = (1 : Int32) by decide), ltE, all_n n (by omega), ltE, ltE, ltE]
      have base : Inv (js (js σ1 68 0 0) 69 0 0) (js τ1 27 0 0) := by
        have k1 := keepX_sums (σ := σ1) (σ' := js (js σ1 68 0 0) 69 0 0) (fun d a b => by rw [js_c _ _ _ b, js_c _ _ _ a])
        have k2 := keepM_hi (τ := τ1) (τ' := js τ1 27 0 0) (fun d hd => js_c _ _ _ (by omega))
        exact Inv_keep hI2 k1.1 k1.2 k2.1 k2.2
      refine loop_q (fun m y a => Option.bind (lp_X9_payments_45 F (fun x1_18 x2_18 σ18 => (if x2_18 < (256 : Int32) then (if jin x2_18 256 = true then some ((x1_18 - (σ18 69 x2_18.toNatClampNeg)), σ18) else none) else some ((-2 : Int32), σ18))) m (nI n) (nI (2 ^ n - 1)) y a) fun q5 => some (q5.1, q5.2)) (fun m y b => lp_X12_settled_109 F m (nI n) (nI (2 ^ n - 1)) y b) (2 ^ n) (fun v a b => 1 ≤ v ∧ (∀ d, d ≠ 68 → d ≠ 69 → a d = σ1 d) ∧ (∀ d, d ≠ 27 → b d = τ1 d) ∧ ∀ j, j < v → a 68 j = sm τ1 j n ∧ a 69 j = b 27 j) (fun r s => ∃ z σ' τ', r = some (z, σ') ∧ s = some (z, τ') ∧ Inv σ' τ') ?_ ?_ F 1 (js (js σ1 68 0 0) 69 0 0) (js τ1 27 0 0) (by omega) (by omega) ⟨by omega, fun d a b => by rw [js_c _ _ _ b, js_c _ _ _ a], fun d a => js_c _ _ _ a, fun j hj => by
        have e0 : j = 0 := by omega
        subst e0
        rw [js_at, js_at, js_c _ _ _ (show (68 : Nat) ≠ 69 by omega), js_at]
        refine ⟨?_, rfl⟩
        have z0 : ∀ m, sm τ1 0 m = 0 := by
          intro m
          induction m with
          | zero => rfl
          | succ m ih => rw [sm_s, ih]; unfold smF; rw [if_neg (by simp)]
        exact (z0 n).symm⟩
      · intro m v a b hv hP
        obtain ⟨p0, p1, p2, p3⟩ := hP
        right
        show ∃ a' b', _ ∧ (Option.bind (lp_X9_payments_45 F _ (m + 1) (nI n) (nI (2 ^ n - 1)) (nI v) a) fun q5 => some (q5.1, q5.2)) = (Option.bind (lp_X9_payments_45 F _ m (nI n) (nI (2 ^ n - 1)) (nI (v + 1)) a') fun q5 => some (q5.1, q5.2)) ∧ lp_X12_settled_109 F (m + 1) (nI n) (nI (2 ^ n - 1)) (nI v) b = lp_X12_settled_109 F m (nI n) (nI (2 ^ n - 1)) (nI (v + 1)) b'
        have v256 : v < 256 := by omega
        rw [lp_X9_payments_45, lp_X12_settled_109, if_neg (show ¬ nI (2 ^ n - 1) < nI v from nI_nlt (by omega) (by omega)), if_neg (show ¬ nI (2 ^ n - 1) < nI v from nI_nlt (by omega) (by omega)), if_pos (show nI v < (256 : Int32) from nI_lt (b := 256) v256 (by omega))]
        have t5 : ∀ i, i < 260 → a 2 i = τ1 6 i &&& 255 := fun i hi => by rw [p1 2 (by omega) (by omega)]; exact t4 i hi
        have inner : ∀ (k : Int32 → Int32 → Int32 → Int32 → Int32 → jS → Option (Int32 × jS)) (k2 : Int32 → Int32 → Int32 → Int32 → jS → Option (Int32 × jS)), ∃ most, lp_X9_payments_66 F k F (nI n) (nI (2 ^ n - 1)) (nI v) 0 0 0 a = k (nI n) (nI (2 ^ n - 1)) (nI v) most (sm τ1 v n) a ∧ lp_X12_settled_121 F k2 F (nI n) (nI (2 ^ n - 1)) (nI v) 0 0 b = k2 (nI n) (nI (2 ^ n - 1)) (nI v) most b := by
          intro k k2
          refine loop_q (fun m y (x : Int32 × Int32) => lp_X9_payments_66 F k m (nI n) (nI (2 ^ n - 1)) (nI v) x.1 x.2 y a) (fun m y (x : Int32) => lp_X12_settled_121 F k2 m (nI n) (nI (2 ^ n - 1)) (nI v) x y b) n (fun i x y => x.1 = y ∧ ((∃ p, p < i ∧ v.testBit p = true) → x.2 = sm τ1 v n)) (fun r s => ∃ most, r = k (nI n) (nI (2 ^ n - 1)) (nI v) most (sm τ1 v n) a ∧ s = k2 (nI n) (nI (2 ^ n - 1)) (nI v) most b) ?_ ?_ F 0 (0, 0) 0 (by omega) (by omega) ⟨rfl, fun h => by obtain ⟨p, h, -⟩ := h; exact absurd h (Nat.not_lt_zero _)⟩
          · intro m i x y hi hQ
            obtain ⟨x1, x2⟩ := x
            obtain ⟨q1, q2⟩ := hQ
            have q1 : x1 = y := q1
            subst q1
            right
            show ∃ (x' : Int32 × Int32) (y' : Int32), _ ∧ lp_X9_payments_66 F k (m + 1) (nI n) (nI (2 ^ n - 1)) (nI v) x1 x2 (nI i) a = lp_X9_payments_66 F k m (nI n) (nI (2 ^ n - 1)) (nI v) x'.1 x'.2 (nI (i + 1)) a ∧ lp_X12_settled_121 F k2 (m + 1) (nI n) (nI (2 ^ n - 1)) (nI v) x1 (nI i) b = lp_X12_settled_121 F k2 m (nI n) (nI (2 ^ n - 1)) (nI v) y' (nI (i + 1)) b
            rw [lp_X9_payments_66, lp_X12_settled_121, if_pos (nI_lt hi (by omega)), if_pos (nI_lt hi (by omega)), bt_shr1 _ i (by omega), m_has F b _ (show i < 32 by omega), bt_nat (show v < 65536 by omega)]
            by_cases cb : v.testBit i = true
            · rw [if_pos cb, if_neg (show ¬ (1 : Int32) = 0 by decide)]
              simp only [Option.bind_some, if_neg (show ¬ (1 : Int32) = 0 by decide), ltE]
              have hx := bit_less v v256 i (by omega) cb
              rw [off_xor (show i < 32 by omega) (by rw [bt_nat (by omega)]; exact cb), shl_n i (by omega), nx_xor]
              simp only [jin_nI (show v ^^^ 2 ^ i < 256 by omega) (show 256 < 2 ^ 31 by omega), if_true, nI_clamp (show v ^^^ 2 ^ i < 2 ^ 31 by omega), x_net F t5 (show i < 130 by omega), Option.bind_some, (p3 (v ^^^ 2 ^ i) hx).1, (p3 (v ^^^ 2 ^ i) hx).2, m_max', nI1]
              exact ⟨(imax x1 (b 27 (v ^^^ 2 ^ i)), sm τ1 (v ^^^ 2 ^ i) n + netw τ1 i), imax x1 (b 27 (v ^^^ 2 ^ i)), ⟨rfl, fun _ => (sm_bit τ1 cb n hi).symm⟩, rfl, rfl⟩
            · rw [if_neg cb, if_pos rfl]
              simp only [Option.bind_some, if_true, nI1]
              refine ⟨(x1, x2), x1, ⟨rfl, fun h => q2 ?_⟩, rfl, rfl⟩
              obtain ⟨p, h1, h2⟩ := h
              by_cases e : p = i
              · subst e; exact absurd h2 cb
              · exact ⟨p, by omega, h2⟩
          · intro m x y hQ
            obtain ⟨x1, x2⟩ := x
            obtain ⟨q1, q2⟩ := hQ
            have q1 : x1 = y := q1
            subst q1
            have q2 : x2 = sm τ1 v n := q2 (bit_ex p0 hv)
            subst q2
            show ∃ most, lp_X9_payments_66 F k (m + 1) (nI n) (nI (2 ^ n - 1)) (nI v) x1 _ (nI n) a = _ ∧ lp_X12_settled_121 F k2 (m + 1) (nI n) (nI (2 ^ n - 1)) (nI v) x1 (nI n) b = _
            rw [lp_X9_payments_66, lp_X12_settled_121, if_neg (nI_nlt (Nat.le_refl n) (by omega)), if_neg (nI_nlt (Nat.le_refl n) (by omega))]
            exact ⟨x1, rfl, rfl⟩
        obtain ⟨most, i1, i2⟩ := inner (fun x1_11 x2_11 x3_11 x4_11 x5_11 σ11 => (if jin x3_11 256 = true then (lt (js σ11 68 x3_11.toNatClampNeg x5_11) fun σ12 => (if x5_11 = 0 then (if jin x3_11 256 = true then (lt (js σ12 69 x3_11.toNatClampNeg (x4_11 + (1 : Int32))) fun σ14 => (lp_X9_payments_45 F (fun x1_18 x2_18 σ18 => (if x2_18 < (256 : Int32) then (if jin x2_18 256 = true then some ((x1_18 - (σ18 69 x2_18.toNatClampNeg)), σ18) else none) else some ((-2 : Int32), σ18))) m x1_11 x2_11 ((x3_11 + (1 : Int32))) σ14)) else none) else (if jin x3_11 256 = true then (lt (js σ12 69 x3_11.toNatClampNeg x4_11) fun σ16 => (lp_X9_payments_45 F (fun x1_18 x2_18 σ18 => (if x2_18 < (256 : Int32) then (if jin x2_18 256 = true then some ((x1_18 - (σ18 69 x2_18.toNatClampNeg)), σ18) else none) else some ((-2 : Int32), σ18))) m x1_11 x2_11 ((x3_11 + (1 : Int32))) σ16)) else none))) else none)) (fun x1_16 x3_16 x5_16 x6_16 σ16 => (Option.bind (mX12_sumOf F x5_16 x1_16 σ16) fun q17 => (if q17 = 0 then (if jin x5_16 256 = true then (lt (js σ16 27 x5_16.toNatClampNeg (x6_16 + (1 : Int32))) fun σ18 => (lp_X12_settled_109 F m x1_16 x3_16 ((x5_16 + (1 : Int32))) σ18)) else none) else (if jin x5_16 256 = true then (lt (js σ16 27 x5_16.toNatClampNeg (x6_16 + (0 : Int32))) fun σ20 => (lp_X12_settled_109 F m x1_16 x3_16 ((x5_16 + (1 : Int32))) σ20)) else none))))
        rw [i1, i2, m_sumOf (by omega) (show v < 65536 by omega) hn, show sm b v n = sm τ1 v n by
          have eb : ∀ k, netw b k = netw τ1 k := fun k => by unfold netw ww; rw [bb_cong (p2 6 (by omega)), bb_cong (p2 6 (by omega))]
          have : ∀ m, sm b v m = sm τ1 v m := by
            intro m
            induction m with
            | zero => rw [sm_0, sm_0]
            | succ m ih => rw [sm_s, sm_s, ih]; unfold smF; rw [eb]
          exact this n]
        simp only [Option.bind_some, jin_nI v256 (show 256 < 2 ^ 31 by omega), if_true, ltE, nI_clamp (show v < 2 ^ 31 by omega), nI1]
        have put : ∀ y : Int32, 1 ≤ v + 1 ∧ (∀ d, d ≠ 68 → d ≠ 69 → js (js a 68 v (sm τ1 v n)) 69 v y d = σ1 d) ∧ (∀ d, d ≠ 27 → js b 27 v y d = τ1 d) ∧ ∀ j, j < v + 1 → js (js a 68 v (sm τ1 v n)) 69 v y 68 j = sm τ1 j n ∧ js (js a 68 v (sm τ1 v n)) 69 v y 69 j = js b 27 v y 27 j := by
          intro y
          refine ⟨by omega, fun d q1 q2 => by rw [js_c _ _ _ q2, js_c _ _ _ q1]; exact p1 d q1 q2, fun d q1 => by rw [js_c _ _ _ q1]; exact p2 d q1, fun j hj => ?_⟩
          rw [js_c _ _ _ (show (68 : Nat) ≠ 69 by omega)]
          by_cases ej : j = v
          · subst ej
            rw [js_at, js_at, js_at]
            exact ⟨rfl, rfl⟩
          · rw [js_k _ _ ej, js_k _ _ ej, js_k _ _ ej, js_c _ _ _ (show (69 : Nat) ≠ 68 by omega)]
            exact p3 j (by omega)
        by_cases cz : sm τ1 v n = 0
        · rw [if_pos cz, if_pos cz]
          exact ⟨_, _, put _, rfl, rfl⟩
        · rw [if_neg cz, if_neg cz, Int32.add_zero]
          exact ⟨_, _, put _, rfl, rfl⟩
      · intro m a b hP
        obtain ⟨p0, p1, p2, p3⟩ := hP
        show ∃ z σ' τ', (Option.bind (lp_X9_payments_45 F _ (m + 1) (nI n) (nI (2 ^ n - 1)) (nI (2 ^ n)) a) fun q5 => some (q5.1, q5.2)) = some (z, σ') ∧ lp_X12_settled_109 F (m + 1) (nI n) (nI (2 ^ n - 1)) (nI (2 ^ n)) b = some (z, τ') ∧ Inv σ' τ'
        rw [lp_X9_payments_45, lp_X12_settled_109, if_pos (show nI (2 ^ n - 1) < nI (2 ^ n) from nI_lt (by omega) (by omega)), if_pos (show nI (2 ^ n - 1) < nI (2 ^ n) from nI_lt (by omega) (by omega)), if_pos (show nI (2 ^ n - 1) < (256 : Int32) from nI_lt (b := 256) (by omega) (by omega))]
        simp only [jin_nI (show 2 ^ n - 1 < 256 by omega) (show 256 < 2 ^ 31 by omega), if_true, nI_clamp (show 2 ^ n - 1 < 2 ^ 31 by omega), (p3 (2 ^ n - 1) (by omega)).2]
        have k1 := keepX_sums (σ := σ1) (σ' := a) p1
        have k2 := keepM_hi (τ := τ1) (τ' := b) (fun d hd => p2 d (by omega))
        exact ⟨_, a, b, rfl, rfl, Inv_keep hI2 k1.1 k1.2 k2.1 k2.2⟩
    · rw [if_neg (show ¬ nI 1 = (0 : Int32) by decide), if_pos (show nI 1 = (1 : Int32) from rfl)]
      exact ⟨_, σ1, τ1, rfl, rfl, hI2⟩
  · rw [if_neg c0, if_neg c0]
    simp only [Option.bind_some, if_true, ite_self]
    exact ⟨-2, σ1, τ1, rfl, rfl, hI2⟩
