/-! ### the reference's walk -/
def pw (P : Nat → Nat) : Nat → Int32
  | 0 => 0
  | k + 1 => pw P k ||| b1 (P k)
theorem pw_bt {P : Nat → Nat} : ∀ k, (∀ j, j < k → P j < 16) → ∀ q, (bt (pw P k) q = true ↔ ∃ j, j < k ∧ P j = q)
  | 0, _, q => by
    rw [pw, b_0]
    constructor
    · intro h; cases h
    · rintro ⟨j, h, _⟩; omega
  | k + 1, h, q => by
    rw [pw, bt_b1 (h k (by omega)), Bool.or_eq_true, pw_bt k (fun j hj => h j (by omega)) q, decide_eq_true_eq]
    constructor
    · rintro (⟨j, h1, h2⟩ | h1)
      · exact ⟨j, by omega, h2⟩
      · exact ⟨k, by omega, h1.symm⟩
    · rintro ⟨j, h1, h2⟩
      by_cases e : j = k
      · rw [e] at h2; exact Or.inr h2.symm
      · exact Or.inl ⟨j, by omega, h2⟩
theorem pw_congr {P Q : Nat → Nat} : ∀ k, (∀ j, j < k → P j = Q j) → pw P k = pw Q k
  | 0, _ => rfl
  | k + 1, h => by rw [pw, pw, pw_congr k (fun j hj => h j (by omega)), h k (by omega)]
def pth (k : Nat) (P : Nat → Nat) (τ : jS) : Prop := (∀ j, j < k → P j < 16) ∧ ∀ j, j < k → τ 25 j = nI (P j)
theorem m_inRing (F : Nat) (hF : 30 ≤ F) {k : Nat} {P : Nat → Nat} {τ : jS} (h : pth k P τ) (hk : k ≤ 16) {y : Nat} (hy : y < 16) : mX12_isInRing F (nI k) (nI y) τ = some (if bt (pw P k) y = true then 1 else 0) := by
  unfold mX12_isInRing
  refine loop_p (fun N x (u : Unit) => lp_X12_isInRing_2 F τ N (nI k) (nI y) x) k (fun i _ => ∀ j, j < i → P j ≠ y) (fun r => r = some (if bt (pw P k) y = true then 1 else 0)) ?_ ?_ F 0 () (by omega) (by omega) (fun j hj => absurd hj (by omega))
  · intro N i _ hi g
    show lp_X12_isInRing_2 F τ (N + 1) (nI k) (nI y) (nI i) = _ ∨ ∃ (u : Unit), _ ∧ lp_X12_isInRing_2 F τ (N + 1) (nI k) (nI y) (nI i) = lp_X12_isInRing_2 F τ N (nI k) (nI y) (nI (i + 1))
    rw [lp_X12_isInRing_2, if_pos (nI_lt hi (by omega)), jin_nI (show i < 16 by omega) (by omega), if_pos rfl, nI_clamp (by omega), h.2 i hi, nI1]
    by_cases e : P i = y
    · left
      rw [if_pos (by rw [e]), if_pos ((pw_bt k h.1 y).mpr ⟨i, hi, e⟩)]
    · right
      rw [if_neg (fun e2 => e (nI_inj (by have := h.1 i hi; omega) (by omega) e2))]
      refine ⟨(), fun j hj => ?_, rfl⟩
      by_cases e2 : j = i
      · rw [e2]; exact e
      · exact g j (by omega)
  · intro N _ g
    show lp_X12_isInRing_2 F τ (N + 1) (nI k) (nI y) (nI k) = _
    rw [lp_X12_isInRing_2, if_neg (nI_nlt (Nat.le_refl k) (by omega)), if_neg (fun e => by
      obtain ⟨j, h1, h2⟩ := (pw_bt k h.1 y).mp e
      exact g j h1 h2)]
theorem m_counts (F : Nat) (hF : 30 ≤ F) {k : Nat} {P : Nat → Nat} {τ : jS} (h : pth k P τ) (hk1 : 1 ≤ k) (hk : k ≤ 16) {a : Option rN} (ha : aM τ a) :
    ∃ τ', mX12_countsRing F (nI k) τ = some τ' ∧ aM τ' (nA a (k, pw P k)) ∧ (∀ d, d ≠ 0 → τ' d = τ d) ∧ ∀ j, j ≠ 42 → j ≠ 43 → τ' 0 j = τ 0 j := by
  unfold mX12_countsRing
  have hw : pw P k ≠ 0 := fun e => by
    have := (pw_bt k h.1 (P 0)).mpr ⟨0, by omega, rfl⟩
    rw [e, b_0] at this
    cases this
  refine loop_p (fun N x (w : Int32) => lp_X12_countsRing_4 F (fun x1_3 x2_3 σ3 => (if (σ3 0 42) < x1_3 then some σ3 else (if x1_3 = (σ3 0 42) then (if x2_3 < (σ3 0 43) then (lt (js σ3 0 42 x1_3) fun σ4 => (lt (js σ4 0 43 x2_3) fun σ5 => some σ5)) else some σ3) else (lt (js σ3 0 42 x1_3) fun σ6 => (lt (js σ6 0 43 x2_3) fun σ7 => some σ7))))) N (nI k) w x τ) k (fun i w => w = pw P i) (fun r => ∃ τ', r = some τ' ∧ aM τ' (nA a (k, pw P k)) ∧ (∀ d, d ≠ 0 → τ' d = τ d) ∧ ∀ j, j ≠ 42 → j ≠ 43 → τ' 0 j = τ 0 j) ?_ ?_ F 0 0 (by omega) (by omega) rfl
  · intro N i w hi e
    subst e
    right
    show ∃ w', _ ∧ lp_X12_countsRing_4 F _ (N + 1) (nI k) _ (nI i) τ = lp_X12_countsRing_4 F _ N (nI k) w' (nI (i + 1)) τ
    rw [lp_X12_countsRing_4, if_pos (nI_lt hi (by omega)), jin_nI (show i < 16 by omega) (by omega), if_pos rfl, nI_clamp (by omega), h.2 i hi, nI1, ltE]
    exact ⟨_, rfl, rfl⟩
  · intro N w e
    subst e
    show ∃ τ', lp_X12_countsRing_4 F _ (N + 1) (nI k) _ (nI k) τ = some τ' ∧ _
    rw [lp_X12_countsRing_4, if_neg (nI_nlt (Nat.le_refl k) (by omega))]
    have put : aM (js (js τ 0 42 (nI k)) 0 43 (pw P k)) (some (k, pw P k)) := ⟨fun r e => (by cases e; exact ⟨hk1, hk, hw⟩), fun e => (by cases e), fun r e => (by cases e; exact ⟨by rw [js_k _ _ (by omega), js_at], js_at _ _ _ _⟩)⟩
    have o1 : ∀ d, d ≠ 0 → js (js τ 0 42 (nI k)) 0 43 (pw P k) d = τ d := fun d hd => by rw [js_c _ _ _ hd, js_c _ _ _ hd]
    have o2 : ∀ j, j ≠ 42 → j ≠ 43 → js (js τ 0 42 (nI k)) 0 43 (pw P k) 0 j = τ 0 j := fun j h1 h2 => by rw [js_k _ _ h2, js_k _ _ h1]
    have hle := lenA_le ha.1
    rw [aM_len ha]
    simp only [ltE]
    cases a with
    | none =>
      have e0 : lenA (none : Option rN) = 17 := rfl
      rw [e0, if_neg (nI_nlt (by omega) (by omega)), if_neg (fun e => by have := nI_inj (by omega) (by omega) e; omega)]
      exact ⟨_, rfl, put, o1, o2⟩
    | some rr =>
      have e0 : lenA (some rr) = rr.1 := rfl
      rw [e0] at hle ⊢
      unfold nA
      by_cases c : rr.1 < k
      · rw [if_pos (nI_lt c (by omega))]
        simp only [if_neg (show ¬ (k < rr.1 ∨ (k = rr.1 ∧ pw P k < rr.2)) by omega)]
        exact ⟨τ, rfl, ha, fun _ _ => rfl, fun _ _ _ => rfl⟩
      · rw [if_neg (nI_nlt (by omega) (by omega))]
        by_cases c2 : k = rr.1
        · rw [if_pos (by rw [c2]), (ha.2.2 rr rfl).2]
          by_cases c3 : pw P k < rr.2
          · rw [if_pos c3]
            simp only [if_pos (show k < rr.1 ∨ (k = rr.1 ∧ pw P k < rr.2) from Or.inr ⟨c2, c3⟩)]
            exact ⟨_, rfl, put, o1, o2⟩
          · rw [if_neg c3]
            simp only [if_neg (show ¬ (k < rr.1 ∨ (k = rr.1 ∧ pw P k < rr.2)) from fun g => g.elim (fun g => by omega) (fun g => c3 g.2))]
            exact ⟨τ, rfl, ha, fun _ _ => rfl, fun _ _ _ => rfl⟩
        · rw [if_neg (fun e => c2 (nI_inj (by omega) (by omega) e))]
          simp only [if_pos (show k < rr.1 ∨ (k = rr.1 ∧ pw P k < rr.2) from Or.inl (by omega))]
          exact ⟨_, rfl, put, o1, o2⟩
def fits' (t : Nat → Int32) (x l : Nat) : Prop := t (184 + l) ≠ 0 ∧ t (64 + l) = nI x
theorem m_find (F : Nat) {t : Nat → Int32} {m : Nat} (hm : m ≤ 24) (em : t 208 = nI m) {τ : jS} (ht : τ 1 = t) {s k x : Nat} (hk1 : 1 ≤ k) (hk : k ≤ 16) (hx : τ 25 (k - 1) = nI x) :
    ∀ (j N l1 : Nat), m - l1 ≤ j → j < N → l1 ≤ m → ∃ l, l1 ≤ l ∧ l ≤ m ∧ (l < m → fits' t x l) ∧ (∀ l', l1 ≤ l' → l' < l → ¬ fits' t x l') ∧ ∀ k83, lp_X12_goesFrom_31 F k83 N (nI s) (nI k) (nI l1) τ = k83 (nI s) (nI k) (nI l) τ := by
  intro j
  induction j with
  | zero =>
    intro N l1 h1 hN h2
    obtain ⟨N, rfl⟩ : ∃ N', N = N' + 1 := ⟨N - 1, by omega⟩
    refine ⟨l1, Nat.le_refl _, h2, fun h => by omega, fun l' _ _ => by omega, fun k83 => ?_⟩
    rw [lp_X12_goesFrom_31, ht, em, if_neg (nI_nlt (by omega) (by omega))]
  | succ j ih =>
    intro N l1 h1 hN h2
    obtain ⟨N, rfl⟩ : ∃ N', N = N' + 1 := ⟨N - 1, by omega⟩
    by_cases c : l1 < m
    · have e1 : nI k - (1 : Int32) = nI (k - 1) := by rw [show (1 : Int32) = nI 1 from rfl, pk_sub (a := k) (b := 1) (by omega)]
      have step : ∀ k83, lp_X12_goesFrom_31 F k83 (N + 1) (nI s) (nI k) (nI l1) τ = if t (184 + l1) = 0 then lp_X12_goesFrom_31 F k83 N (nI s) (nI k) (nI (l1 + 1)) τ else if t (64 + l1) = nI x then k83 (nI s) (nI k) (nI l1) τ else lp_X12_goesFrom_31 F k83 N (nI s) (nI k) (nI (l1 + 1)) τ := by
        intro k83
        rw [lp_X12_goesFrom_31, ht, em, if_pos (nI_lt c (by omega))]
        simp only [ltE, e1, show (184 : Int32) + nI l1 = nI (184 + l1) from nI_add 184 l1, show (64 : Int32) + nI l1 = nI (64 + l1) from nI_add 64 l1, jin_nI (show 184 + l1 < 212 by omega) (show 212 < 2 ^ 31 by omega), jin_nI (show 64 + l1 < 212 by omega) (show 212 < 2 ^ 31 by omega), jin_nI (show k - 1 < 16 by omega) (show 16 < 2 ^ 31 by omega), if_true, nI_clamp (show 184 + l1 < 2 ^ 31 by omega), nI_clamp (show 64 + l1 < 2 ^ 31 by omega), nI_clamp (show k - 1 < 2 ^ 31 by omega), nI1, hx]
      by_cases f : fits' t x l1
      · refine ⟨l1, Nat.le_refl _, h2, fun _ => f, fun l' _ _ => by omega, fun k83 => ?_⟩
        rw [step, if_neg f.1, if_pos f.2]
      · obtain ⟨l, a1, a2, a3, a4, a5⟩ := ih N (l1 + 1) (by omega) (by omega) (by omega)
        refine ⟨l, by omega, a2, a3, fun l' b1 b2 => ?_, fun k83 => ?_⟩
        · by_cases e : l' = l1
          · rw [e]; exact f
          · exact a4 l' (by omega) b2
        · rw [step, a5 k83]
          by_cases f1 : t (184 + l1) = 0
          · rw [if_pos f1]
          · rw [if_neg f1, if_neg (fun f2 => f ⟨f1, f2⟩)]
    · obtain ⟨l, h⟩ := ih (N + 1) l1 (by omega) (by omega) h2
      exact ⟨l, h⟩
