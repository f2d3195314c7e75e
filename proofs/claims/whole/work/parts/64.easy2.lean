theorem same2 {α : Type} {P : Prop} {E : Option α} (h : E.isSome = true) (hp : P) : ∃ r, E = some r ∧ E = some r ∧ P := by
  obtain ⟨r, hr⟩ := Option.isSome_iff_exists.mp h
  exact ⟨r, hr, hr, hp⟩
theorem inr_n (x : Int32) {n : Nat} (hn : n < 2 ^ 30) : inr x 0 (nI n - 1) = if x < 0 then 0 else if x < nI n then 1 else 0 := by
  unfold inr
  by_cases h : x < 0
  · simp [h]
  · have e : nI n - 1 < x ↔ ¬ x < nI n := by
      have e1 : (nI n - 1 : Int32).toInt = (n : Int) - 1 := pk_sub_toInt (b := 1) (by omega) (by omega)
      rw [fa_lt, fa_lt, e1, nI_toInt (by omega)]
      omega
    by_cases h2 : x < nI n
    · simp [h, h2, e]
    · simp [h, h2, e]
/-- which loan: 1 if there is such a one -/
def ln (m x : Int32) : Int32 := if x < 0 then 0 else if x < m then 1 else 0
theorem ln_cases {n : Nat} (hn : n ≤ 24) (x : Int32) : ln (nI n) x = 0 ∨ (ln (nI n) x = 1 ∧ ∃ l, l < n ∧ x = nI l) := by
  unfold ln
  by_cases h : x < 0
  · simp [h]
  · by_cases h2 : x < nI n
    · exact Or.inr ⟨by simp [h, h2], rng (by omega) h h2⟩
    · simp [h, h2]
theorem many_n {t : Nat → Int32} (h : cityW0 t) : ∃ n, n ≤ 24 ∧ t 208 = nI n := by
  obtain ⟨n, e, hn⟩ := h 208 (by omega)
  exact ⟨n, by simpa using hn, e⟩
theorem m_loan {F : Nat} {τ : jS} (h : cityW0 (τ 1)) (x : Int32) : mX12_isLoan F x τ = some (ln (τ 1 208) x) := by
  obtain ⟨n, hn, e⟩ := many_n h
  unfold mX12_isLoan
  rw [e, isI, inr_n x (by omega)]
  show (if jbo (ln (nI n) x) = true then some (ln (nI n) x) else none) = _
  rcases ln_cases hn x with e1 | ⟨e1, -⟩ <;> rw [e1] <;> rfl
theorem x6_has {F c : Nat} {σ : jS} {t : Nat → Int32} (h : cityW0 t) (hR : cityR c σ t) (x : Int32) : mX6_has F (c + 3) x σ = some (ln (t 208) x) := by
  obtain ⟨n, hn, e⟩ := many_n h
  unfold mX6_has
  rw [cityR_many_at hR, e]
  by_cases h1 : x < 0
  · simp [ln, h1]
  · by_cases h2 : x < nI n
    · have h3 : x < 24 := by
        rw [fa_lt, nI_toInt (by omega)] at h2
        rw [fa_lt, show (24 : Int32).toInt = 24 from rfl]
        omega
      simp [ln, h1, h2, h3]
    · simp [ln, h1, h2]
/-! ===== loanIs ===== -/
theorem s_loanIs (F : Nat) : S_loanIs F Inv := by
  intro σ τ x1 x2 hI
  obtain ⟨-, hW, hR, -, -, -⟩ := id hI
  obtain ⟨n, hn, en⟩ := many_n hW.1
  unfold mX11_loanIs mX12_loanIs mX6_partOf
  rw [x6_has (c := 3) hW.1 hR, m_loan hW.1, en]
  rcases ln_cases hn x1 with e | ⟨e, l, hl, rfl⟩
  · simp only [e, Option.bind_some, if_true]
    exact ⟨-1, rfl, rfl, hI⟩
  · have hln : nI l < τ 1 208 := by rw [en]; exact nI_lt hl (by omega)
    simp only [e, Option.bind_some, if_neg (show ¬ (1 : Int32) = 0 by decide), isI, lt, jin_nI (show l < 24 by omega) (by omega), if_true, nI_clamp (show l < 2 ^ 31 by omega), show σ (6 + 1) l = τ 1 (64 + l) from cityR_from_at hR (by omega) hln, show σ (6 + 2) l = τ 1 (88 + l) from cityR_to_at hR (by omega) hln, show σ (6 + 3) l = τ 1 (112 + l) from cityR_lent_at hR (by omega) hln, show σ (6 + 4) l = τ 1 (136 + l) from cityR_rate_at hR (by omega) hln, show σ (6 + 5) l = τ 1 (160 + l) from cityR_paid_at hR (by omega) hln, show σ (6 + 6) l = τ 1 (184 + l) from cityR_due_at hR (by omega) hln]
    rcases inr_c x2 0 5 with e2 | ⟨e2, h1, h2⟩
    · have hne : ∀ k, k ≤ 5 → ¬ x2 = nI k := by
        intro k hk hx
        subst hx
        have : inr (nI k) 0 5 = 1 := by
          unfold inr
          rw [if_neg (nI_pos (by omega)), if_neg (show ¬ (5 : Int32) < nI k from nI_nlt (a := 5) hk (by omega))]
        rw [this] at e2
        exact absurd e2 (by decide)
      rw [if_neg (show ¬ x2 = 0 from hne 0 (by omega)), if_neg (show ¬ x2 = 1 from hne 1 (by omega)), if_neg (show ¬ x2 = 2 from hne 2 (by omega)), if_neg (show ¬ x2 = 3 from hne 3 (by omega)), if_neg (show ¬ x2 = 4 from hne 4 (by omega)), if_neg (show ¬ x2 = 5 from hne 5 (by omega)), e2]
      exact ⟨-1, rfl, rfl, hI⟩
    · obtain ⟨k, -, hk, rfl⟩ := inr_nat (a := 0) (b := 5) (by omega) (by omega) h1 h2
      have ek : (64 : Int32) + (24 : Int32) * nI k + nI l = nI (64 + 24 * k + l) := by
        show nI 64 + nI 24 * nI k + nI l = _
        rw [pk_mul, nI_add, nI_add]
      simp only [e2, if_neg (show ¬ (1 : Int32) = 0 by decide), ek, jin_nI (show 64 + 24 * k + l < 212 by omega) (by omega), if_true, nI_clamp (show 64 + 24 * k + l < 2 ^ 31 by omega)]
      match k, hk with
      | 0, _ => exact ⟨_, rfl, rfl, hI⟩
      | 1, _ => exact ⟨_, rfl, rfl, hI⟩
      | 2, _ => exact ⟨_, rfl, rfl, hI⟩
      | 3, _ => exact ⟨_, rfl, rfl, hI⟩
      | 4, _ => exact ⟨_, rfl, rfl, hI⟩
      | 5, _ => exact ⟨_, rfl, rfl, hI⟩
/-! ===== netOf, personIs ===== -/
theorem s_netOf {F : Nat} (hF : 25 ≤ F) {σ τ : jS} (h : cityW0 (τ 1)) (hR : cityR 3 σ (τ 1)) (x : Int32) : ∃ r, mX6_netOf F 6 x σ = some r ∧ mX12_netOf F x τ = some r := by
  obtain ⟨n, hn, en⟩ := many_n h
  unfold mX6_netOf mX12_netOf
  refine loop_q (fun m y a => lp_X6_netOf_4 F 6 σ m x a y) (fun m y b => lp_X12_netOf_4 F τ m x b y) n (fun i a b => a = b) (fun r s => ∃ z, r = some z ∧ s = some z) ?_ ?_ F 0 0 0 (by omega) (by omega) rfl
  · intro m l a b hl hP
    subst hP
    right
    show ∃ a' b' : Int32, _ ∧ lp_X6_netOf_4 F 6 σ (m + 1) x a (nI l) = lp_X6_netOf_4 F 6 σ m x a' (nI (l + 1)) ∧ lp_X12_netOf_4 F τ (m + 1) x a (nI l) = lp_X12_netOf_4 F τ m x b' (nI (l + 1))
    have hln : nI l < τ 1 208 := by rw [en]; exact nI_lt hl (by omega)
    rw [lp_X6_netOf_4, lp_X12_netOf_4, show σ 6 6 = τ 1 208 from cityR_many_at hR, if_pos hln, if_pos hln, if_pos (show nI l < (24 : Int32) from nI_lt (b := 24) (by omega) (by omega))]
    unfold jn_X6_netOf_37 jn_X12_netOf_42
    simp only [lt, jin_nI (show l < 24 by omega) (by omega), if_true, nI_clamp (show l < 2 ^ 31 by omega), show σ (6 + 1) l = τ 1 (64 + l) from cityR_from_at hR (by omega) hln, show σ (6 + 2) l = τ 1 (88 + l) from cityR_to_at hR (by omega) hln, show σ (6 + 6) l = τ 1 (184 + l) from cityR_due_at hR (by omega) hln, show (64 : Int32) + nI l = nI (64 + l) from nI_add 64 l, show (88 : Int32) + nI l = nI (88 + l) from nI_add 88 l, show (184 : Int32) + nI l = nI (184 + l) from nI_add 184 l, jin_nI (show 64 + l < 212 by omega) (by omega), jin_nI (show 88 + l < 212 by omega) (by omega), jin_nI (show 184 + l < 212 by omega) (by omega), nI_clamp (show 64 + l < 2 ^ 31 by omega), nI_clamp (show 88 + l < 2 ^ 31 by omega), nI_clamp (show 184 + l < 2 ^ 31 by omega), nI1]
    by_cases c1 : τ 1 (64 + l) = x
    · by_cases c2 : τ 1 (88 + l) = x
      · simp only [c1, c2, if_true]
        exact ⟨_, _, rfl, rfl, rfl⟩
      · simp only [c1, c2, if_true, if_false]
        exact ⟨_, _, rfl, rfl, rfl⟩
    · by_cases c2 : τ 1 (88 + l) = x
      · simp only [c1, c2, if_true, if_false]
        exact ⟨_, _, rfl, rfl, rfl⟩
      · simp only [c1, c2, if_false]
        exact ⟨_, _, rfl, rfl, rfl⟩
  · intro m a b hP
    subst hP
    show ∃ z, lp_X6_netOf_4 F 6 σ (m + 1) x a (nI n) = some z ∧ lp_X12_netOf_4 F τ (m + 1) x a (nI n) = some z
    have hnn : ¬ nI n < τ 1 208 := by rw [en]; exact nI_nlt (by omega) (by omega)
    rw [lp_X6_netOf_4, lp_X12_netOf_4, show σ 6 6 = τ 1 208 from cityR_many_at hR, if_neg hnn, if_neg hnn]
    exact ⟨a, rfl, rfl⟩
theorem x0_beats {F c : Nat} {σ : jS} {t : Nat → Int32} (hR : cityR c σ t) {p : Nat} (hp : p < 16) : mX0_beatsOf F c (nI p) σ = some (t (16 + p)) := by
  unfold mX0_beatsOf
  simp only [if_neg (nI_pos (show p < 2 ^ 31 by omega)), if_pos (lt16 hp), jin_nI (show p < 16 by omega) (by omega), if_true, nI_clamp (show p < 2 ^ 31 by omega), cityR_beats_at hR hp]
theorem x0_age {F c : Nat} {σ : jS} {t : Nat → Int32} (hR : cityR c σ t) {p : Nat} (hp : p < 16) : mX0_ageOf F c (nI p) σ = some (t (32 + p)) := by
  unfold mX0_ageOf
  simp only [if_neg (nI_pos (show p < 2 ^ 31 by omega)), if_pos (lt16 hp), jin_nI (show p < 16 by omega) (by omega), if_true, nI_clamp (show p < 2 ^ 31 by omega), cityR_age_at hR hp]
theorem s_personIs (F : Nat) (hF : 25 ≤ F) : S_personIs F Inv := by
  intro σ τ x1 x2 hI
  obtain ⟨-, hW, hR, -, hT, -⟩ := id hI
  obtain ⟨r, hr1, hr2⟩ := s_netOf hF hW.1 hR x1
  unfold mX11_personIs mX12_personIs
  rw [x0_told hR, m_told hW, hr1, hr2]
  rcases tl_cases (τ 1) x1 with ⟨e, -⟩ | ⟨p, hp, rfl⟩
  · simp only [e, Option.bind_some, if_true]
    exact ⟨_, rfl, rfl, hI⟩
  · rw [tl_in _ hp, x0_beats hR hp, x0_age hR hp, x0_live hR, tl_in _ hp]
    unfold mX8_hoursOf
    simp only [Option.bind_some, lt, show (16 : Int32) + nI p = nI (16 + p) from nI_add 16 p, show (32 : Int32) + nI p = nI (32 + p) from nI_add 32 p, show (48 : Int32) + nI p = nI (48 + p) from nI_add 48 p, jin_nI (show p < 16 by omega) (by omega), jin_nI (show 16 + p < 212 by omega) (by omega), jin_nI (show 32 + p < 212 by omega) (by omega), jin_nI (show 48 + p < 212 by omega) (by omega), nI_clamp (show p < 2 ^ 31 by omega), nI_clamp (show 16 + p < 2 ^ 31 by omega), nI_clamp (show 32 + p < 2 ^ 31 by omega), nI_clamp (show 48 + p < 2 ^ 31 by omega), if_true, if_neg (nI_pos (show p < 2 ^ 31 by omega)), if_pos (lt16 hp), hT.2 p hp]
    have e48 : (if τ 1 (48 + p) = 0 then some (0 : Int32) else some 1) = some (τ 1 (48 + p)) := by
      rcases rk01 (hW.1 (48 + p) (by omega)) (Or.inr ⟨by omega, by omega⟩) with e | e <;> rw [e] <;> rfl
    rw [e48]
    exact same2 (by repeat' (first | rfl | split)) hI
