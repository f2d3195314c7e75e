/-! ===== routine: signs of a string ===== -/
def fi (e : Nat) (y : Int32) : Nat → Nat → Int32
  | _, 0 => -1
  | i, k + 1 => if sc e i = y then nI i else fi e y (i + 1) k
theorem fi_loop (F e : Nat) (σ : jS) (y : Int32) {L : Nat} (hL : L = sl e) (hs : sl e < 100) : ∀ (k n i : Nat), i + k = L → k < n → lp_J1_indexOfChar_4cfef_7 F e σ n (nI L) y (nI i) = some (fi e y i k) := by
  intro k
  induction k with
  | zero =>
    intro n i h1 h2
    obtain ⟨n, rfl⟩ : ∃ m, n = m + 1 := ⟨n - 1, by omega⟩
    rw [lp_J1_indexOfChar_4cfef_7, if_neg (nI_nlt (by omega) (by omega))]
    rfl
  | succ k ih =>
    intro n i h1 h2
    obtain ⟨n, rfl⟩ : ∃ m, n = m + 1 := ⟨n - 1, by omega⟩
    rw [lp_J1_indexOfChar_4cfef_7, if_pos (nI_lt (by omega) (by omega)), jin_nI (show i < sl e by omega) (by omega), if_pos rfl, nI_clamp (by omega), nI1]
    show (if sc e i = y then some (nI i) else _) = some (if sc e i = y then nI i else fi e y (i + 1) k)
    by_cases c : sc e i = y
    · rw [if_pos c, if_pos c]
    · rw [if_neg c, if_neg c]
      exact ih n (i + 1) (by omega) (by omega)
def ix (e b : Nat) : Int32 := fi e ((nI b).toInt8.toInt32) 0 (sl e)
theorem x_index (F : Nat) {e : Nat} (σ : jS) {b : Nat} (hb : b < 256) (h0 : 0 < sl e) (hs : sl e < 100) (hF : 100 ≤ F) : mJ0_indexOf_0f7a4 F e (((nI b).toUInt32 % 65536).toInt32) σ = some (ix e b) := by
  have e1 : ((nI b).toUInt32 % 65536).toInt32 = nI b := (by decide +kernel : ∀ b, b < 256 → ((nI b).toUInt32 % 65536).toInt32 = nI b) b hb
  rw [e1]
  unfold mJ0_indexOf_0f7a4 mJ0_indexOf_7cf53 mJ0_isLatin1_aae02 mJ0_length_8abf5 mJ0_coder_7d493 mJ1_indexOf_4cfef mJ1_canEncode_9a6ad mJ1_indexOfChar_4cfef
  have e2 : nI (sl e) >>> ((0 : Int32) &&& 31) = nI (sl e) := by
    rw [show (0 : Int32) &&& 31 = 0 from rfl]
    simp
  have e3 : imax (0 : Int32) 0 = 0 := rfl
  have e4 : imin (nI (sl e)) (nI (sl e)) = nI (sl e) := by rw [imin_nI (by omega) (by omega), Nat.min_self]
  simp only [if_neg (show ¬ (1 : Int32) = 0 by decide), if_true, Option.bind_some, e2, if_neg (nI_pos (show b < 2 ^ 31 by omega)), if_neg (show ¬ (255 : Int32) < nI b from nI_nlt (a := 255) (by omega) (by omega)), ltE, e3, e4, if_pos (show (0 : Int32) < nI (sl e) from nI_lt (a := 0) h0 (by omega))]
  rw [show (0 : Int32) = nI 0 from rfl, fi_loop F e σ _ rfl hs (sl e) F 0 (by omega) (by omega)]
  rfl
theorem dw_all : ∀ b, b < 256 → mX12_doingBy 0 (nI b) (fun _ _ => 0) = some (ix 0 b) ∧ (ix 0 b = -1 ∨ (ix 0 b = nI (ix 0 b).toNatClampNeg ∧ (ix 0 b).toNatClampNeg < 7)) := by decide +kernel
theorem m_doingBy (F : Nat) (τ : jS) {b : Nat} (hb : b < 256) : mX12_doingBy F (nI b) τ = some (ix 0 b) := (dw_all b hb).1
theorem m_doingN (F : Nat) (τ : jS) : mX12_doingBy F (-1) τ = some (-1) := (by decide +kernel : mX12_doingBy 0 (-1) (fun _ _ => 0) = some (-1))
/-! ### hours come again -/
def rV (f : Nat → Int32) (L0 U j : Nat) : Int32 := if j < U then f j else f (L0 + (j - L0) % (U - L0))
theorem x_put (F : Nat) {σ : jS} {p : Nat} (h : σ 33 4 = nI p) (hp : p < 2 ^ 30) (v : Int32) : ∃ σ', mX8_put F v σ = some σ' ∧ σ' 33 4 = nI (p + 1) ∧ (∀ d, d ≠ 33 → d ≠ 36 → σ' d = σ d) ∧ (p < 24 → σ' 36 p = v) ∧ ∀ j, j ≠ p → σ' 36 j = σ 36 j := by
  unfold mX8_put
  rw [h, if_neg (nI_pos (by omega))]
  by_cases c : p < 24
  · rw [if_pos (show nI p < (24 : Int32) from nI_lt (b := 24) c (by omega)), jin_nI (show p < 24 by omega) (by omega), if_pos rfl]
    simp only [ltE, js_c _ _ _ (show (33 : Nat) ≠ 36 by omega), h, nI1, nI_clamp (show p < 2 ^ 31 by omega)]
    refine ⟨_, rfl, js_at _ _ _ _, fun d h1 h2 => ?_, fun _ => ?_, fun j hj => ?_⟩
    · rw [js_c _ _ _ h1, js_c _ _ _ h2]
    · rw [js_c _ _ _ (by omega), js_at]
    · rw [js_c _ _ _ (by omega), js_k _ _ hj]
  · rw [if_neg (show ¬ nI p < (24 : Int32) from nI_nlt (b := 24) (by omega) (by omega))]
    simp only [ltE, nI1]
    refine ⟨_, rfl, js_at _ _ _ _, fun d h1 h2 => ?_, fun h => absurd h c, fun j hj => ?_⟩
    · rw [js_c _ _ _ h1]
    · rw [js_c _ _ _ (by omega)]
def rI (σ0 : jS) (L0 U p : Nat) (ρ : jS) : Prop := ρ 33 4 = nI p ∧ (∀ d, d ≠ 33 → d ≠ 36 → ρ d = σ0 d) ∧ ∀ j, j < 24 → j < p → ρ 36 j = rV (σ0 36) L0 U j
theorem x_rep_in (F : Nat) (σ0 : jS) {L0 U T a : Nat} (hU : U ≤ 25) (hL : L0 < U) (ha : 1 ≤ a) (haT : a < 10) (k56 : Int32 → Int32 → Int32 → Int32 → jS → Option jS) (hF : 30 ≤ F) {ρ : jS} (h : rI σ0 L0 U (L0 + a * (U - L0)) ρ) :
    ∃ ρ', lp_X8_repeat_17 F k56 F (nI L0) (nI T) (nI U) (nI a) (nI L0) ρ = k56 (nI L0) (nI T) (nI U) (nI a) ρ' ∧ rI σ0 L0 U (L0 + (a + 1) * (U - L0)) ρ' := by
  have em : (a + 1) * (U - L0) = a * (U - L0) + (U - L0) := by rw [Nat.add_mul]; omega
  have hbig : a * (U - L0) ≤ 10 * 25 := Nat.mul_le_mul (by omega) (by omega)
  have hge : U - L0 ≤ a * (U - L0) := Nat.le_mul_of_pos_left _ (by omega)
  refine loop_p (fun N x (ρ : jS) => lp_X8_repeat_17 F k56 N (nI L0) (nI T) (nI U) (nI a) x ρ) U (fun x ρ => L0 ≤ x ∧ rI σ0 L0 U (L0 + a * (U - L0) + (x - L0)) ρ) (fun r => ∃ ρ', r = k56 (nI L0) (nI T) (nI U) (nI a) ρ' ∧ rI σ0 L0 U (L0 + (a + 1) * (U - L0)) ρ') ?_ ?_ F L0 ρ (by omega) (by omega) ⟨by omega, by rw [Nat.sub_self, Nat.add_zero]; exact h⟩
  · intro N x ρ hx ⟨hx0, g1, g2, g3⟩
    right
    show ∃ a', _ ∧ lp_X8_repeat_17 F k56 (N + 1) (nI L0) (nI T) (nI U) (nI a) (nI x) ρ = lp_X8_repeat_17 F k56 N (nI L0) (nI T) (nI U) (nI a) (nI (x + 1)) a'
    rw [lp_X8_repeat_17, if_pos (nI_lt hx (by omega)), if_neg (nI_pos (by omega))]
    have hst : ∀ v : Int32, (L0 + a * (U - L0) + (x - L0) < 24 → v = rV (σ0 36) L0 U x) → ∃ ρ', mX8_put F v ρ = some ρ' ∧ rI σ0 L0 U (L0 + a * (U - L0) + (x + 1 - L0)) ρ' := by
      intro v hv
      obtain ⟨ρ', b1, b2, b3, b4, b5⟩ := x_put F g1 (by omega) v
      refine ⟨ρ', b1, by rw [b2]; congr 1; omega, fun d h1 h2 => by rw [b3 d h1 h2]; exact g2 d h1 h2, fun j hj hj2 => ?_⟩
      by_cases e : j = L0 + a * (U - L0) + (x - L0)
      · rw [e, b4 (by omega), hv (by omega)]
        unfold rV
        rw [if_pos hx, if_neg (by omega), show L0 + a * (U - L0) + (x - L0) - L0 = (x - L0) + (U - L0) * a by rw [Nat.mul_comm]; omega, Nat.add_mul_mod_self_left, Nat.mod_eq_of_lt (by omega)]
        congr 1
        omega
      · rw [b5 j e]
        exact g3 j hj (by omega)
    by_cases c : x < 24
    · rw [if_pos (show nI x < (24 : Int32) from nI_lt (b := 24) c (by omega)), jin_nI c (by omega), if_pos rfl, nI_clamp (by omega)]
      obtain ⟨ρ', b1, b2⟩ := hst (ρ 36 x) (fun _ => g3 x c (by omega))
      rw [b1]
      simp only [Option.bind_some, nI1]
      exact ⟨ρ', ⟨by omega, b2⟩, rfl⟩
    · rw [if_neg (show ¬ nI x < (24 : Int32) from nI_nlt (b := 24) (by omega) (by omega))]
      obtain ⟨ρ', b1, b2⟩ := hst 0 (fun h => by omega)
      rw [b1]
      simp only [Option.bind_some, nI1]
      exact ⟨ρ', ⟨by omega, b2⟩, rfl⟩
  · intro N ρ ⟨_, g⟩
    show ∃ ρ', lp_X8_repeat_17 F k56 (N + 1) (nI L0) (nI T) (nI U) (nI a) (nI U) ρ = _ ∧ _
    rw [lp_X8_repeat_17, if_neg (nI_nlt (Nat.le_refl U) (by omega))]
    refine ⟨ρ, rfl, ?_⟩
    rw [em, ← Nat.add_assoc]
    exact g
theorem x_repeat (F : Nat) (hF : 30 ≤ F) {σ : jS} {L0 U T : Nat} (h : σ 33 4 = nI U) (hU : U ≤ 25) (hL : L0 < U) (hT : 1 ≤ T) (hT9 : T ≤ 9) :
    ∃ σ', mX8_repeat F (nI L0) (nI T) σ = some σ' ∧ rI σ L0 U (L0 + T * (U - L0)) σ' := by
  unfold mX8_repeat
  rw [h, ltE]
  refine loop_p (fun N x (ρ : jS) => lp_X8_repeat_8 F N (nI L0) (nI T) (nI U) x ρ) T (fun x ρ => 1 ≤ x ∧ rI σ L0 U (L0 + x * (U - L0)) ρ) (fun r => ∃ σ', r = some σ' ∧ rI σ L0 U (L0 + T * (U - L0)) σ') ?_ ?_ F 1 σ (by omega) (by omega) ⟨by omega, by rw [h]; congr 1; omega, fun _ _ _ => rfl, fun j _ hj => by unfold rV; rw [if_pos (by omega)]⟩
  · intro N x ρ hx ⟨hx1, g⟩
    right
    show ∃ a', _ ∧ lp_X8_repeat_8 F (N + 1) (nI L0) (nI T) (nI U) (nI x) ρ = lp_X8_repeat_8 F N (nI L0) (nI T) (nI U) (nI (x + 1)) a'
    rw [lp_X8_repeat_8, if_pos (nI_lt hx (by omega))]
    obtain ⟨ρ', b1, b2⟩ := x_rep_in F σ (T := T) hU hL hx1 (by omega) (fun x1_6 x2_6 x3_6 x4_6 σ6 => (lp_X8_repeat_8 F N x1_6 x2_6 x3_6 ((x4_6 + (1 : Int32))) σ6)) hF g
    rw [b1]
    simp only [nI1]
    exact ⟨ρ', ⟨by omega, b2⟩, rfl⟩
  · intro N ρ ⟨_, g⟩
    show ∃ σ', lp_X8_repeat_8 F (N + 1) (nI L0) (nI T) (nI U) (nI T) ρ = some σ' ∧ _
    rw [lp_X8_repeat_8, if_neg (nI_nlt (Nat.le_refl T) (by omega))]
    exact ⟨ρ, rfl, g⟩
theorem m_repeats (F : Nat) (hF : 40 ≤ F) {τ : jS} {L0 U T a : Nat} (h : τ 0 33 = nI U) (hU : U ≤ 24) (hL : L0 < U) (hT : 1 ≤ T) (hT9 : T ≤ 9) :
    (24 < L0 + T * (U - L0) ∧ mX12_repeats F (nI L0) (nI T) (nI a) τ = some (0, js τ 0 9 (flt 6 a))) ∨ (L0 + T * (U - L0) ≤ 24 ∧ ∃ τ', mX12_repeats F (nI L0) (nI T) (nI a) τ = some (1, τ') ∧ τ' 0 33 = nI (L0 + T * (U - L0)) ∧ (∀ j, j < L0 + T * (U - L0) → τ' 20 j = rV (τ 20) L0 U j) ∧ (∀ d, d ≠ 0 → d ≠ 20 → τ' d = τ d) ∧ ∀ k, k ≠ 33 → τ' 0 k = τ 0 k) := by
  have hbig : T * (U - L0) ≤ 9 * 24 := Nat.mul_le_mul hT9 (by omega)
  have hge : U - L0 ≤ T * (U - L0) := Nat.le_mul_of_pos_left _ (by omega)
  unfold mX12_repeats
  rw [h, pk_sub (a := U) (b := L0) (by omega), ltE, pk_mul, nI_add, Nat.mul_comm (U - L0) T]
  by_cases c : 24 < L0 + T * (U - L0)
  · left
    rw [if_pos (show (24 : Int32) < nI (L0 + T * (U - L0)) from nI_lt (a := 24) c (by omega))]
    exact ⟨c, rfl⟩
  · right
    rw [if_neg (show ¬ (24 : Int32) < nI (L0 + T * (U - L0)) from nI_nlt (a := 24) (by omega) (by omega))]
    refine ⟨by omega, ?_⟩
    refine loop_p (fun N x (ρ : jS) => lp_X12_repeats_31 F N (nI L0) (nI T) (nI (U - L0)) x ρ) (T * (U - L0)) (fun x ρ => U - L0 ≤ x ∧ (∀ j, j < L0 + x → ρ 20 j = rV (τ 20) L0 U j) ∧ (∀ d, d ≠ 20 → ρ d = τ d)) (fun r => ∃ τ', r = some (1, τ') ∧ τ' 0 33 = nI (L0 + T * (U - L0)) ∧ (∀ j, j < L0 + T * (U - L0) → τ' 20 j = rV (τ 20) L0 U j) ∧ (∀ d, d ≠ 0 → d ≠ 20 → τ' d = τ d) ∧ ∀ k, k ≠ 33 → τ' 0 k = τ 0 k) ?_ ?_ F (U - L0) τ (by omega) (by omega) ⟨by omega, fun j hj => by unfold rV; rw [if_pos (by omega)], fun _ _ => rfl⟩
    · intro N x ρ hx ⟨hx1, g1, g2⟩
      right
      show ∃ a', _ ∧ lp_X12_repeats_31 F (N + 1) (nI L0) (nI T) (nI (U - L0)) (nI x) ρ = lp_X12_repeats_31 F N (nI L0) (nI T) (nI (U - L0)) (nI (x + 1)) a'
      rw [lp_X12_repeats_31, pk_mul, Nat.mul_comm (U - L0) T, if_pos (nI_lt hx (by omega))]
      simp only [ltE, nI_add, pk_sub (a := L0 + x) (b := U - L0) (by omega)]
      rw [jin_nI (show L0 + x - (U - L0) < 24 by omega) (by omega), if_pos rfl, jin_nI (show L0 + x < 24 by omega) (by omega), if_pos rfl, nI_clamp (by omega), nI_clamp (by omega), nI1]
      refine ⟨_, ⟨by omega, fun j hj => ?_, fun d hd => ?_⟩, rfl⟩
      · by_cases e : j = L0 + x
        · rw [e, js_at, g1 _ (by omega)]
          unfold rV
          rw [if_neg (show ¬ L0 + x < U by omega), show L0 + x - L0 = x by omega]
          have hmod : x % (U - L0) = (x - (U - L0)) % (U - L0) := by
            rw [Nat.mod_eq_sub_mod (by omega)]
          by_cases q : L0 + x - (U - L0) < U
          · rw [if_pos q, hmod, Nat.mod_eq_of_lt (by omega)]
            congr 1
            omega
          · rw [if_neg q, hmod]
            congr 2
            congr 1
            omega
        · rw [js_k _ _ e]
          exact g1 j (by omega)
      · rw [js_c _ _ _ hd]
        exact g2 d hd
    · intro N ρ ⟨_, g1, g2⟩
      show ∃ τ', lp_X12_repeats_31 F (N + 1) (nI L0) (nI T) (nI (U - L0)) (nI (T * (U - L0))) ρ = some (1, τ') ∧ _
      rw [lp_X12_repeats_31, pk_mul, Nat.mul_comm (U - L0) T, if_neg (nI_nlt (Nat.le_refl _) (by omega))]
      simp only [ltE, nI_add]
      refine ⟨_, rfl, js_at _ _ _ _, fun j hj => ?_, fun d h0 h1 => ?_, fun k hk => ?_⟩
      · rw [js_c _ _ _ (by omega)]; exact g1 j hj
      · rw [js_c _ _ _ h0]; exact g2 d h1
      · rw [js_k _ _ hk, g2 0 (by omega)]
