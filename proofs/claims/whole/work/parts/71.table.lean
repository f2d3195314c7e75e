/-! ===== the greatest common divisor ===== -/
theorem x9_gcd0 {F : Nat} {σ : jS} : ∀ (k m a b i : Nat), b < 2 ^ k → a < 2 ^ 31 → k ≤ 30 → i + 2 * k + 1 ≤ 64 → 2 * k + 1 < m → lp_X9_commonDivisor_7 F σ m (nI a) (nI b) (nI i) = some (nI (Nat.gcd a b)) := by
  intro k
  induction k with
  | zero =>
    intro m a b i hb ha _ hi hm
    obtain ⟨m, rfl⟩ : ∃ j, m = j + 1 := ⟨m - 1, by omega⟩
    have e : b = 0 := by omega
    subst e
    rw [lp_X9_commonDivisor_7, if_pos (show nI i < (64 : Int32) from nI_lt (b := 64) (by omega) (by omega)), if_pos (show nI 0 = (0 : Int32) from rfl), Nat.gcd_zero_right]
  | succ k ih =>
    intro m a b i hb ha hk hi hm
    obtain ⟨m, rfl⟩ : ∃ j, m = j + 2 := ⟨m - 2, by omega⟩
    have hb31 : b < 2 ^ 31 := Nat.lt_of_lt_of_le hb (Nat.pow_le_pow_right (by omega) (by omega))
    rw [lp_X9_commonDivisor_7, if_pos (show nI i < (64 : Int32) from nI_lt (b := 64) (by omega) (by omega))]
    by_cases c : b = 0
    · subst c
      rw [if_pos (show nI 0 = (0 : Int32) from rfl), Nat.gcd_zero_right]
    have cb : ¬ nI b = (0 : Int32) := nI_ne0 (by omega) (by omega)
    rw [if_neg cb, if_neg cb]
    simp only [lt, irm_n ha (show 0 < b by omega) hb31, nI1]
    have hr : a % b < b := Nat.mod_lt _ (by omega)
    have eg : Nat.gcd a b = Nat.gcd b (a % b) := by rw [Nat.gcd_comm, Nat.gcd_rec, Nat.gcd_comm]
    rw [eg]
    rw [lp_X9_commonDivisor_7, if_pos (show nI (i + 1) < (64 : Int32) from nI_lt (b := 64) (by omega) (by omega))]
    by_cases c2 : a % b = 0
    · rw [c2, if_pos (show nI 0 = (0 : Int32) from rfl), Nat.gcd_zero_right]
    have cr : ¬ nI (a % b) = (0 : Int32) := nI_ne0 (by omega) (by omega)
    rw [if_neg cr, if_neg cr]
    simp only [lt, irm_n hb31 (show 0 < a % b by omega) (show a % b < 2 ^ 31 by omega), nI1]
    have eg2 : Nat.gcd b (a % b) = Nat.gcd (a % b) (b % (a % b)) := by rw [Nat.gcd_comm, Nat.gcd_rec, Nat.gcd_comm]
    rw [eg2]
    have hh : b % (a % b) < 2 ^ k := by
      have h1 : b % (a % b) < a % b := Nat.mod_lt _ (by omega)
      have h2 := Nat.div_add_mod b (a % b)
      have h3 : 1 ≤ b / (a % b) := Nat.div_pos (by omega) (by omega)
      have h4 : (a % b) * 1 ≤ (a % b) * (b / (a % b)) := Nat.mul_le_mul_left _ h3
      have h5 : 2 ^ (k + 1) = 2 * 2 ^ k := by rw [Nat.pow_succ, Nat.mul_comm]
      omega
    exact ih m _ _ (i + 1 + 1) hh (by omega) (by omega) (by omega) (by omega)
theorem x9_gcd {F : Nat} (hF : 70 ≤ F) {σ : jS} {a b : Nat} (ha : a < 2 ^ 31) (hb : b < 65536) : mX9_commonDivisor F (nI a) (nI b) σ = some (nI (Nat.gcd a b)) := x9_gcd0 16 F a b 0 (by omega) ha (by omega) (by omega) (by omega)
theorem m_gcd0 {F : Nat} {σ : jS} : ∀ (k m a b : Nat), b < 2 ^ k → a < 2 ^ 31 → k ≤ 30 → 2 * k + 1 < m → lp_X12_gcd_4 F σ m (nI a) (nI b) = some (nI (Nat.gcd a b)) := by
  intro k
  induction k with
  | zero =>
    intro m a b hb ha _ hm
    obtain ⟨m, rfl⟩ : ∃ j, m = j + 1 := ⟨m - 1, by omega⟩
    have e : b = 0 := by omega
    subst e
    rw [lp_X12_gcd_4, if_pos (show nI 0 = (0 : Int32) from rfl), Nat.gcd_zero_right]
  | succ k ih =>
    intro m a b hb ha hk hm
    obtain ⟨m, rfl⟩ : ∃ j, m = j + 2 := ⟨m - 2, by omega⟩
    have hb31 : b < 2 ^ 31 := Nat.lt_of_lt_of_le hb (Nat.pow_le_pow_right (by omega) (by omega))
    rw [lp_X12_gcd_4]
    by_cases c : b = 0
    · subst c
      rw [if_pos (show nI 0 = (0 : Int32) from rfl), Nat.gcd_zero_right]
    have cb : ¬ nI b = (0 : Int32) := nI_ne0 (by omega) (by omega)
    rw [if_neg cb, if_neg cb]
    simp only [lt, irm_n ha (show 0 < b by omega) hb31]
    have hr : a % b < b := Nat.mod_lt _ (by omega)
    have eg : Nat.gcd a b = Nat.gcd b (a % b) := by rw [Nat.gcd_comm, Nat.gcd_rec, Nat.gcd_comm]
    rw [eg]
    rw [lp_X12_gcd_4]
    by_cases c2 : a % b = 0
    · rw [c2, if_pos (show nI 0 = (0 : Int32) from rfl), Nat.gcd_zero_right]
    have cr : ¬ nI (a % b) = (0 : Int32) := nI_ne0 (by omega) (by omega)
    rw [if_neg cr, if_neg cr]
    simp only [lt, irm_n hb31 (show 0 < a % b by omega) (show a % b < 2 ^ 31 by omega)]
    have eg2 : Nat.gcd b (a % b) = Nat.gcd (a % b) (b % (a % b)) := by rw [Nat.gcd_comm, Nat.gcd_rec, Nat.gcd_comm]
    rw [eg2]
    have hh : b % (a % b) < 2 ^ k := by
      have h1 : b % (a % b) < a % b := Nat.mod_lt _ (by omega)
      have h2 := Nat.div_add_mod b (a % b)
      have h3 : 1 ≤ b / (a % b) := Nat.div_pos (by omega) (by omega)
      have h4 : (a % b) * 1 ≤ (a % b) * (b / (a % b)) := Nat.mul_le_mul_left _ h3
      have h5 : 2 ^ (k + 1) = 2 * 2 ^ k := by rw [Nat.pow_succ, Nat.mul_comm]
      omega
    exact ih m _ _ hh (by omega) (by omega) (by omega)
theorem m_gcd {F : Nat} (hF : 70 ≤ F) {σ : jS} {a b : Nat} (ha : a < 2 ^ 31) (hb : b < 65536) : mX12_gcd F (nI a) (nI b) σ = some (nI (Nat.gcd a b)) := m_gcd0 16 F a b (by omega) ha (by omega) (by omega)
/-! ===== tables of lives ===== -/
def tgood (τ : jS) (n : Nat) : Prop := 0 < bb τ 0 ∧ ∀ k, 1 ≤ k → k < n → bb τ k ≤ bb τ (k - 1)
noncomputable def tgB (τ : jS) (n : Nat) : Int32 := @ite _ (tgood τ n) (Classical.propDecidable _) 1 0
theorem tgB_1 {τ : jS} {n : Nat} (h : tgood τ n) : tgB τ n = 1 := if_pos h
theorem tgB_0 {τ : jS} {n : Nat} (h : ¬ tgood τ n) : tgB τ n = 0 := if_neg h
theorem tgood_s {τ : jS} {i : Nat} (hi : 1 ≤ i) : tgood τ (i + 1) ↔ tgood τ i ∧ bb τ i ≤ bb τ (i - 1) := by
  constructor
  · intro h
    exact ⟨⟨h.1, fun k a b => h.2 k a (by omega)⟩, h.2 i hi (by omega)⟩
  · intro h
    refine ⟨h.1.1, fun k a b => ?_⟩
    by_cases e : k = i
    · subst e; exact h.2
    · exact h.1.2 k a (by omega)
theorem x9_table {F : Nat} (hF : 70 ≤ F) {σ τ : jS} (h4 : ∀ i, i < 260 → σ 2 i = τ 6 i &&& 255) {n : Nat} (h1 : 1 ≤ n) (hn : n ≤ 30) : mX9_isLifeTable F (nI n) σ = some (tgB τ n) := by
  unfold mX9_isLifeTable jn_X9_isLifeTable_16
  have e0 : mX10_byteAt F (0 : Int32) σ = some (nI (bb τ 0)) := x_byte F h4 (i := 0) (by omega)
  have hb0 := (bb_n τ 0).1
  rw [e0]
  simp only [Option.bind_some]
  have start : (if 0 < nI (bb τ 0) then lp_X9_isLifeTable_19 F σ F (nI n) 1 1 else lp_X9_isLifeTable_19 F σ F (nI n) 0 1) = lp_X9_isLifeTable_19 F σ F (nI n) (tgB τ 1) 1 := by
    have hs : tgood τ 1 ↔ 0 < bb τ 0 := ⟨fun h => h.1, fun h => ⟨h, fun k a b => absurd b (by omega)⟩⟩
    by_cases c : 0 < bb τ 0
    · rw [if_pos (show 0 < nI (bb τ 0) from nI_lt (a := 0) c (by omega)), tgB_1 (hs.mpr c)]
    · rw [if_neg (show ¬ 0 < nI (bb τ 0) from nI_nlt (a := 0) (by omega) (by omega)), tgB_0 (fun h => c (hs.mp h))]
  rw [start]
  refine loop_p (fun m y a => lp_X9_isLifeTable_19 F σ m (nI n) a y) n (fun i a => 1 ≤ i ∧ a = tgB τ i) (fun r => r = some (tgB τ n)) ?_ ?_ F 1 (tgB τ 1) (by omega) (by omega) ⟨by omega, rfl⟩
  · intro m i a hi hP
    obtain ⟨h1i, rfl⟩ := hP
    right
    show ∃ a', _ ∧ lp_X9_isLifeTable_19 F σ (m + 1) (nI n) _ (nI i) = lp_X9_isLifeTable_19 F σ m (nI n) a' (nI (i + 1))
    have hb := (bb_n τ i).1
    have hb1 := (bb_n τ (i - 1)).1
    rw [lp_X9_isLifeTable_19, if_pos (nI_lt hi (by omega)), show nI i - (1 : Int32) = nI (i - 1) from pk_sub h1i, x_byte F h4 (show i < 260 by omega), x_byte F h4 (show i - 1 < 260 by omega)]
    simp only [Option.bind_some, nI1]
    by_cases c : tgood τ i
    · rw [tgB_1 c, if_neg (show ¬ (1 : Int32) = 0 by decide)]
      by_cases c2 : bb τ i ≤ bb τ (i - 1)
      · rw [if_neg (nI_nlt c2 (by omega))]
        exact ⟨1, ⟨by omega, (tgB_1 ((tgood_s h1i).mpr ⟨c, c2⟩)).symm⟩, rfl⟩
      · rw [if_pos (nI_lt (by omega) (by omega))]
        exact ⟨0, ⟨by omega, (tgB_0 (fun h => c2 ((tgood_s h1i).mp h).2)).symm⟩, rfl⟩
    · rw [tgB_0 c, if_pos rfl]
      exact ⟨0, ⟨by omega, (tgB_0 (fun h => c ((tgood_s h1i).mp h).1)).symm⟩, rfl⟩
  · intro m a hP
    obtain ⟨-, rfl⟩ := hP
    show lp_X9_isLifeTable_19 F σ (m + 1) (nI n) _ (nI n) = _
    rw [lp_X9_isLifeTable_19, if_neg (nI_nlt (Nat.le_refl n) (by omega))]
    by_cases c : tgood τ n
    · rw [tgB_1 c]; rfl
    · rw [tgB_0 c]; rfl
theorem m_table {F : Nat} (hF : 70 ≤ F) {τ : jS} {n : Nat} (h1 : 1 ≤ n) (hn : n ≤ 30) : mX12_isTable F (nI n) τ = some (tgB τ n) := by
  unfold mX12_isTable
  have e0 : mX12_octet F (0 : Int32) τ = some (nI (bb τ 0)) := m_oct F τ (i := 0) (by omega)
  have hb0 := (bb_n τ 0).1
  rw [e0]
  simp only [Option.bind_some]
  by_cases c : bb τ 0 = 0
  · rw [c, if_pos (show nI 0 = (0 : Int32) from rfl), tgB_0 (fun h => by have := h.1; omega)]
  rw [if_neg (show ¬ nI (bb τ 0) = 0 from nI_ne0 (by omega) (by omega))]
  refine loop_p (fun m y (a : Unit) => lp_X12_isTable_12 F τ m (nI n) y) n (fun i a => 1 ≤ i ∧ tgood τ i) (fun r => r = some (tgB τ n)) ?_ ?_ F 1 () (by omega) (by omega) ⟨by omega, by omega, fun k a b => absurd b (by omega)⟩
  · intro m i a hi hP
    obtain ⟨h1i, hg⟩ := hP
    show lp_X12_isTable_12 F τ (m + 1) (nI n) (nI i) = _ ∨ ∃ a' : Unit, _ ∧ lp_X12_isTable_12 F τ (m + 1) (nI n) (nI i) = lp_X12_isTable_12 F τ m (nI n) (nI (i + 1))
    have hb := (bb_n τ i).1
    have hb1 := (bb_n τ (i - 1)).1
    rw [lp_X12_isTable_12, if_pos (nI_lt hi (by omega)), show nI i - (1 : Int32) = nI (i - 1) from pk_sub h1i, m_oct F τ (show i < 260 by omega), m_oct F τ (show i - 1 < 260 by omega)]
    simp only [Option.bind_some, nI1]
    by_cases c2 : bb τ i ≤ bb τ (i - 1)
    · right
      rw [if_neg (nI_nlt c2 (by omega))]
      exact ⟨(), ⟨by omega, (tgood_s h1i).mpr ⟨hg, c2⟩⟩, rfl⟩
    · left
      rw [if_pos (nI_lt (by omega) (by omega)), tgB_0 (fun h => c2 (h.2 i h1i hi))]
  · intro m a hP
    show lp_X12_isTable_12 F τ (m + 1) (nI n) (nI n) = _
    rw [lp_X12_isTable_12, if_neg (nI_nlt (Nat.le_refl n) (by omega)), tgB_1 hP.2]
def dth (τ : jS) (n a : Nat) : Int32 := nI (bb τ a) - (if a + 1 < n then nI (bb τ (a + 1)) else 0)
theorem m_deaths {F : Nat} {τ : jS} {n a : Nat} (hn : n ≤ 30) (ha : a < n) : mX12_deathsAt F (nI n) (nI a) τ = some (dth τ n a) := by
  unfold mX12_deathsAt dth
  rw [m_oct F τ (show a < 260 by omega), show nI n - (1 : Int32) = nI (n - 1) from pk_sub (show 1 ≤ n by omega)]
  simp only [Option.bind_some, nI1]
  by_cases c : a + 1 < n
  · rw [if_neg (show ¬ nI a = nI (n - 1) from fun h => by have := congrArg Int32.toInt h; rw [nI_toInt (by omega), nI_toInt (by omega)] at this; omega), if_pos c, m_oct F τ (show a + 1 < 260 by omega)]
    rfl
  · have e : a = n - 1 := by omega
    rw [if_neg c, ← e, if_pos rfl]
theorem s_deaths {F : Nat} (hF : 70 ≤ F) {σ τ : jS} (h4 : ∀ i, i < 260 → σ 2 i = τ 6 i &&& 255) {n : Nat} (h2 : 2 ≤ n) (hn : n ≤ 30) (hg : tgood τ n) : ∃ r, mX9_ageOfMostDeaths F (nI n) σ = some r ∧ lp_X12_table_84 F F (nI n) 0 1 τ = some (r, τ) := by
  have stepX : ∀ (m a : Nat) (most which : Int32), a < n → lp_X9_ageOfMostDeaths_7 F σ (m + 1) (nI n) most which (nI a) = if most < dth τ n a then lp_X9_ageOfMostDeaths_7 F σ m (nI n) (dth τ n a) (nI a) (nI (a + 1)) else lp_X9_ageOfMostDeaths_7 F σ m (nI n) most which (nI (a + 1)) := by
    intro m a most which ha
    rw [lp_X9_ageOfMostDeaths_7, if_pos (nI_lt ha (by omega)), nI1]
    unfold jn_X9_ageOfMostDeaths_36 dth
    rw [x_byte F h4 (show a < 260 by omega)]
    simp only [Option.bind_some, nI1, lt]
    by_cases c : a + 1 < n
    · rw [if_pos (nI_lt c (by omega)), x_byte F h4 (show a + 1 < 260 by omega), if_pos c]
      rfl
    · rw [if_neg (nI_nlt (by omega) (by omega)), if_neg c]
  unfold mX9_ageOfMostDeaths
  obtain ⟨G, rfl⟩ : ∃ G, F = G + 1 := ⟨F - 1, by omega⟩
  have hb0 := (bb_n τ 0).1
  have hd0 : (-1 : Int32) < dth τ n 0 := by
    unfold dth
    rw [if_pos (by omega), pk_sub (show bb τ 1 ≤ bb τ 0 from hg.2 1 (by omega) (by omega)), fa_lt, nI_toInt (by omega)]
    show (-1 : Int) < _
    omega
  have e1 := stepX G 0 (-1) 0 (by omega)
  rw [if_pos hd0] at e1
  have e1 : lp_X9_ageOfMostDeaths_7 (G + 1) σ (G + 1) (nI n) (-1) 0 0 = _ := e1
  rw [e1]
  have key : ∃ r, lp_X9_ageOfMostDeaths_7 (G + 1) σ G (nI n) (dth τ n 0) (nI 0) (nI (0 + 1)) = some r ∧ lp_X12_table_84 (G + 1) (G + 1) (nI n) (nI 0) (nI (0 + 1)) τ = some (r, τ) := by
    refine loop_q (fun m y (a : Int32 × Int32) => lp_X9_ageOfMostDeaths_7 (G + 1) σ m (nI n) a.1 a.2 y) (fun m y (b : Int32) => lp_X12_table_84 (G + 1) (m + 1) (nI n) b y τ) n (fun i a b => ∃ k, k < n ∧ b = nI k ∧ a = (dth τ n k, nI k)) (fun r s => ∃ z, r = some z ∧ s = some (z, τ)) ?_ ?_ G (0 + 1) (dth τ n 0, nI 0) (nI 0) (by omega) (by omega) ⟨0, by omega, rfl, rfl⟩
    · intro m i a b hi hP
      obtain ⟨k, hk, rfl, rfl⟩ := hP
      right
      show ∃ (a' : Int32 × Int32) (b' : Int32), _ ∧ lp_X9_ageOfMostDeaths_7 (G + 1) σ (m + 1) (nI n) (dth τ n k) (nI k) (nI i) = lp_X9_ageOfMostDeaths_7 (G + 1) σ m (nI n) a'.1 a'.2 (nI (i + 1)) ∧ lp_X12_table_84 (G + 1) (m + 1 + 1) (nI n) (nI k) (nI i) τ = lp_X12_table_84 (G + 1) (m + 1) (nI n) b' (nI (i + 1)) τ
      rw [stepX m i _ _ hi, lp_X12_table_84.eq_2, if_pos (nI_lt hi (by omega)), m_deaths hn hi, m_deaths hn hk]
      simp only [Option.bind_some, nI1]
      by_cases c : dth τ n k < dth τ n i
      · rw [if_pos c, if_pos c]
        exact ⟨(dth τ n i, nI i), nI i, ⟨i, hi, rfl, rfl⟩, rfl, rfl⟩
      · rw [if_neg c, if_neg c]
        exact ⟨(dth τ n k, nI k), nI k, ⟨k, hk, rfl, rfl⟩, rfl, rfl⟩
    · intro m a b hP
      obtain ⟨k, hk, rfl, rfl⟩ := hP
      show ∃ z, lp_X9_ageOfMostDeaths_7 (G + 1) σ (m + 1) (nI n) (dth τ n k) (nI k) (nI n) = some z ∧ lp_X12_table_84 (G + 1) (m + 1 + 1) (nI n) (nI k) (nI n) τ = some (z, τ)
      rw [lp_X9_ageOfMostDeaths_7, lp_X12_table_84.eq_2, if_neg (nI_nlt (Nat.le_refl n) (by omega)), if_neg (nI_nlt (Nat.le_refl n) (by omega))]
      exact ⟨_, rfl, rfl⟩
  exact key
theorem shf (x : Int32) {k n : Nat} (hk1 : 1 ≤ k) (hk : k ≤ 300) (hn1 : 1 ≤ n) (hn : n ≤ 30) : inr (x - nI k) 0 (nI n - 1) = inr x (nI k) (nI (k - 1 + n)) := by
  have e1 : nI n - (1 : Int32) = nI (n - 1) := pk_sub hn1
  have e2 : (x - nI k).toInt = (x.toInt - (k : Int)).bmod (2 ^ 32) := by rw [Int32.toInt_sub, nI_toInt (by omega)]
  have h1 := Int32.minValue_le_toInt x
  have h2 := Int32.toInt_le x
  have h1 : (-2147483648 : Int) ≤ x.toInt := h1
  have h2 : x.toInt ≤ 2147483647 := h2
  unfold inr
  rw [e1]
  simp only [fa_lt, e2, nI_toInt (show k < 2 ^ 31 by omega), nI_toInt (show n - 1 < 2 ^ 31 by omega), nI_toInt (show k - 1 + n < 2 ^ 31 by omega), show (0 : Int32).toInt = 0 from rfl]
  unfold Int.bmod
  have hh : ((2 : Nat) ^ 32 : Nat) = 4294967296 := by decide
  rw [hh]
  by_cases c : x.toInt - (k : Int) < -2147483648
  · have e3 : (x.toInt - (k : Int)) % ((4294967296 : Nat) : Int) = x.toInt - k + 4294967296 := by omega
    rw [e3]
    rw [if_pos (show x.toInt - (k : Int) + 4294967296 < (((4294967296 : Nat) : Int) + 1) / 2 by omega)]
    rw [if_neg (by omega), if_pos (by omega), if_pos (by omega)]
  · by_cases c2 : x.toInt < k
    · have e3 : (x.toInt - (k : Int)) % ((4294967296 : Nat) : Int) = x.toInt - k + 4294967296 := by omega
      rw [e3]
      rw [if_neg (show ¬ x.toInt - (k : Int) + 4294967296 < (((4294967296 : Nat) : Int) + 1) / 2 by omega)]
      rw [if_pos (by omega), if_pos (by omega)]
    · have e3 : (x.toInt - (k : Int)) % ((4294967296 : Nat) : Int) = x.toInt - k := by omega
      rw [e3]
      rw [if_pos (show x.toInt - (k : Int) < (((4294967296 : Nat) : Int) + 1) / 2 by omega)]
      rw [if_neg (by omega), if_neg c2]
      by_cases c3 : ((k - 1 + n : Nat) : Int) < x.toInt
      · rw [if_pos (by omega), if_pos c3]
      · rw [if_neg (by omega), if_neg c3]
