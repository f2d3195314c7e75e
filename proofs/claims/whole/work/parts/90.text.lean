/-! ===== texts: the class's tape and the reference's place ===== -/
def sg (B : Nat → Nat) (n i : Nat) : Int32 := if i < n then nI (B i) else -1
def tpX (B : Nat → Nat) (n i : Nat) (f : Int32) (σ : jS) : Prop := (∀ j, B j < 256) ∧ σ 1 2 = nI n ∧ σ 1 3 = nI i ∧ σ 1 4 = sg B n i ∧ σ 1 5 = f ∧ σ 1 1 = 0 ∧ i ≤ n ∧ n ≤ 260 ∧ ∀ j, j < 260 → σ 2 j = nI (B j)
def tpM (B : Nat → Nat) (n i : Nat) (τ : jS) : Prop := τ 0 7 = nI i ∧ τ 0 8 = nI n ∧ i ≤ n ∧ n ≤ 260 ∧ ∀ j, j < 260 → τ 6 j &&& 255 = nI (B j)
theorem m1_lt (c : Nat) (hc : c < 2 ^ 31) : (-1 : Int32) < nI c := by
  rw [fa_lt, nI_toInt hc, show (-1 : Int32).toInt = -1 from rfl]
  omega
theorem m1_nlt (c : Nat) (hc : c < 2 ^ 31) : ¬ nI c < (-1 : Int32) := by
  rw [fa_lt, nI_toInt hc, show (-1 : Int32).toInt = -1 from rfl]
  omega
theorem m1_ne (c : Nat) (hc : c < 2 ^ 31) : ¬ nI c = (-1 : Int32) := by
  rw [fa_eq, nI_toInt hc, show (-1 : Int32).toInt = -1 from rfl]
  omega
theorem sg_lt {B : Nat → Nat} (hB : ∀ j, B j < 256) (n i : Nat) {c : Nat} (hc : c < 2 ^ 31) : sg B n i < nI c ↔ (i < n → B i < c) := by
  have := hB i
  unfold sg
  by_cases h : i < n
  · rw [if_pos h]
    by_cases g : B i < c
    · exact ⟨fun _ _ => g, fun _ => nI_lt g hc⟩
    · exact ⟨fun k => absurd k (nI_nlt (by omega) (by omega)), fun k => absurd (k h) g⟩
  · rw [if_neg h]
    exact ⟨fun _ k => absurd k h, fun _ => m1_lt c hc⟩
theorem sg_gt {B : Nat → Nat} (hB : ∀ j, B j < 256) (n i : Nat) {c : Nat} (hc : c < 2 ^ 31) : nI c < sg B n i ↔ (i < n ∧ c < B i) := by
  have := hB i
  unfold sg
  by_cases h : i < n
  · rw [if_pos h]
    by_cases g : c < B i
    · exact ⟨fun _ => ⟨h, g⟩, fun _ => nI_lt g (by omega)⟩
    · exact ⟨fun k => absurd k (nI_nlt (by omega) (by omega)), fun k => absurd k.2 g⟩
  · rw [if_neg h]
    exact ⟨fun k => absurd k (m1_nlt c hc), fun k => absurd k.1 h⟩
theorem sg_eq {B : Nat → Nat} (hB : ∀ j, B j < 256) (n i : Nat) {c : Nat} (hc : c < 2 ^ 31) : sg B n i = nI c ↔ (i < n ∧ B i = c) := by
  have := hB i
  unfold sg
  by_cases h : i < n
  · rw [if_pos h]
    exact ⟨fun k => ⟨h, nI_inj (by omega) hc k⟩, fun k => by rw [k.2]⟩
  · rw [if_neg h]
    exact ⟨fun k => absurd k.symm (m1_ne c hc), fun k => absurd k.1 h⟩
def dB (B : Nat → Nat) (n i : Nat) : Bool := decide (i < n ∧ 48 ≤ B i ∧ B i ≤ 57)
abbrev isD (B : Nat → Nat) (n i : Nat) : Prop := dB B n i = true
theorem isD_e {B : Nat → Nat} {n i : Nat} : isD B n i ↔ (i < n ∧ 48 ≤ B i ∧ B i ≤ 57) := by simp [isD, dB]
theorem isD_c {B : Nat → Nat} (hB : ∀ j, B j < 256) (n i : Nat) : (¬ isD B n i ∧ (sg B n i < 48 ∨ (57 : Int32) < sg B n i)) ∨ (isD B n i ∧ ¬ sg B n i < 48 ∧ ¬ (57 : Int32) < sg B n i) := by
  have h1 := sg_lt hB n i (c := 48) (by omega)
  have h2 := sg_gt hB n i (c := 57) (by omega)
  have e1 : (sg B n i < (48 : Int32)) = (sg B n i < nI 48) := rfl
  have e2 : ((57 : Int32) < sg B n i) = (nI 57 < sg B n i) := rfl
  rw [e1, e2, h1, h2, isD_e]
  omega
/-! ### the class's steps -/
def frm (σ σ' : jS) : Prop := ∀ d, d ≠ 1 → σ' d = σ d
theorem frm_rf (σ : jS) : frm σ σ := fun _ _ => rfl
theorem frm_tr {a b c : jS} (h : frm a b) (g : frm b c) : frm a c := fun d hd => (g d hd).trans (h d hd)
theorem frm_js (σ : jS) (k : Nat) (v : Int32) : frm σ (js σ 1 k v) := fun d hd => js_c _ _ _ hd
theorem x_step (F : Nat) {B : Nat → Nat} {n i : Nat} {f : Int32} {σ : jS} (h : tpX B n i f σ) : ∃ σ', mX10_step F σ = some σ' ∧ tpX B n (min (i + 1) n) f σ' ∧ frm σ σ' := by
  obtain ⟨hB, h2, h3, h4, h5, h1, hi, hn, hb⟩ := h
  unfold mX10_step jn_X10_step_21
  rw [h2, h3]
  by_cases c : i < n
  · rw [if_pos (nI_lt c (by omega)), Nat.min_eq_left (by omega)]
    simp only [ltE, js_at, nI1, js_k σ _ (show (2 : Nat) ≠ 3 by omega), h2, js_c σ _ _ (show (2 : Nat) ≠ 1 by omega)]
    rw [if_neg (nI_pos (by omega))]
    by_cases c2 : i + 1 < n
    · rw [if_pos (nI_lt c2 (by omega)), jin_nI (show i + 1 < 260 by omega) (by omega), if_pos rfl, nI_clamp (by omega), hb _ (by omega)]
      refine ⟨_, rfl, ⟨hB, ?_, ?_, ?_, ?_, ?_, by omega, hn, ?_⟩, frm_tr (frm_js _ _ _) (frm_js _ _ _)⟩
      · rw [js_k _ _ (by omega), js_k _ _ (by omega)]; exact h2
      · rw [js_k _ _ (by omega), js_at]
      · rw [js_at]; unfold sg; rw [if_pos c2]
      · rw [js_k _ _ (by omega), js_k _ _ (by omega)]; exact h5
      · rw [js_k _ _ (by omega), js_k _ _ (by omega)]; exact h1
      · rw [js_c _ _ _ (by omega), js_c _ _ _ (by omega)]; exact hb
    · rw [if_neg (nI_nlt (by omega) (by omega))]
      refine ⟨_, rfl, ⟨hB, ?_, ?_, ?_, ?_, ?_, by omega, hn, ?_⟩, frm_tr (frm_js _ _ _) (frm_js _ _ _)⟩
      · rw [js_k _ _ (by omega), js_k _ _ (by omega)]; exact h2
      · rw [js_k _ _ (by omega), js_at]
      · rw [js_at]; unfold sg; rw [if_neg c2]
      · rw [js_k _ _ (by omega), js_k _ _ (by omega)]; exact h5
      · rw [js_k _ _ (by omega), js_k _ _ (by omega)]; exact h1
      · rw [js_c _ _ _ (by omega), js_c _ _ _ (by omega)]; exact hb
  · rw [if_neg (nI_nlt (by omega) (by omega)), Nat.min_eq_right (by omega)]
    simp only [ltE]
    rw [if_neg (nI_pos (by omega)), if_neg (nI_nlt (by omega) (by omega))]
    have hin : i = n := by omega
    subst hin
    refine ⟨_, rfl, ⟨hB, ?_, ?_, ?_, ?_, ?_, by omega, hn, ?_⟩, frm_js _ _ _⟩
    · rw [js_k _ _ (by omega)]; exact h2
    · rw [js_k _ _ (by omega)]; exact h3
    · rw [js_at]; unfold sg; rw [if_neg (by omega)]
    · rw [js_k _ _ (by omega)]; exact h5
    · rw [js_k _ _ (by omega)]; exact h1
    · rw [js_c _ _ _ (by omega)]; exact hb
/-- a step where there is a sign -/
theorem x_step1 (F : Nat) {B : Nat → Nat} {n i : Nat} {f : Int32} {σ : jS} (h : tpX B n i f σ) (hi : i < n) : ∃ σ', mX10_step F σ = some σ' ∧ tpX B n (i + 1) f σ' ∧ frm σ σ' := by
  obtain ⟨σ', a, b, c⟩ := x_step F h
  rw [Nat.min_eq_left (by omega)] at b
  exact ⟨σ', a, b, c⟩
def flt (w i : Nat) : Int32 := (-1000 : Int32) * nI w - nI i
theorem flt_ne {w i : Nat} (hw : 1 ≤ w) (hw2 : w ≤ 7) (hi : i ≤ 260) : flt w i ≠ 0 := by
  unfold flt
  intro h
  have h1 : ((-1000 : Int32) * nI w).toInt = -1000 * (w : Int) := by
    rw [Int32.toInt_mul, nI_toInt (by omega), show (-1000 : Int32).toInt = -1000 from rfl, Int.bmod_eq_of_le (by omega) (by omega)]
  rw [fa_eq, Int32.toInt_sub, h1, nI_toInt (by omega), Int.bmod_eq_of_le (by omega) (by omega), show (0 : Int32).toInt = 0 from rfl] at h
  omega
theorem x_fail (F : Nat) {B : Nat → Nat} {n i : Nat} {f : Int32} {σ : jS} (h : tpX B n i f σ) (w q : Int32) : ∃ σ', mX10_fail F w q σ = some σ' ∧ tpX B n i (if f = 0 then (-1000 : Int32) * w - q else f) σ' ∧ frm σ σ' := by
  obtain ⟨hB, h2, h3, h4, h5, h1, hi, hn, hb⟩ := h
  unfold mX10_fail
  rw [h5]
  by_cases c : f = 0
  · rw [if_pos c, if_pos c]
    refine ⟨_, rfl, ⟨hB, ?_, ?_, ?_, js_at _ _ _ _, ?_, hi, hn, ?_⟩, frm_js _ _ _⟩
    · rw [js_k _ _ (by omega)]; exact h2
    · rw [js_k _ _ (by omega)]; exact h3
    · rw [js_k _ _ (by omega)]; exact h4
    · rw [js_k _ _ (by omega)]; exact h1
    · rw [js_c _ _ _ (by omega)]; exact hb
  · rw [if_neg c, if_neg c]
    exact ⟨σ, rfl, ⟨hB, h2, h3, h4, h5, h1, hi, hn, hb⟩, frm_rf σ⟩
theorem x_fail0 (F : Nat) {B : Nat → Nat} {n i : Nat} {σ : jS} (h : tpX B n i 0 σ) (w j : Nat) : ∃ σ', mX10_fail F (nI w) (nI j) σ = some σ' ∧ tpX B n i (flt w j) σ' ∧ frm σ σ' := by
  obtain ⟨σ', a, b, c⟩ := x_fail F h (nI w) (nI j)
  rw [if_pos rfl] at b
  exact ⟨σ', a, b, c⟩
theorem x_failD (F : Nat) {B : Nat → Nat} {n i : Nat} {f : Int32} {σ : jS} (h : tpX B n i f σ) (hf : f ≠ 0) (w q : Int32) : mX10_fail F w q σ = some σ := by
  unfold mX10_fail
  rw [h.2.2.2.2.1, if_neg hf]
theorem x_on (F : Nat) {B : Nat → Nat} {n i : Nat} {f : Int32} {σ : jS} (h : tpX B n i f σ) : mX10_goesOn F σ = some (if f = 0 ∧ i < n then 1 else 0) := by
  obtain ⟨hB, h2, h3, h4, h5, h1, hi, hn, hb⟩ := h
  unfold mX10_goesOn
  rw [h5, h2, h3]
  by_cases c : f = 0
  · by_cases g : i < n
    · rw [if_pos c, if_pos (nI_lt g (by omega)), if_pos ⟨c, g⟩]
    · rw [if_pos c, if_neg (nI_nlt (by omega) (by omega)), if_neg (fun h => g h.2)]
  · rw [if_neg c, if_neg (fun h => c h.1)]
theorem x_stands (F : Nat) {B : Nat → Nat} {n i : Nat} {f : Int32} {σ : jS} (h : tpX B n i f σ) {c : Nat} (hc : c < 2 ^ 31) : mX10_stands F (nI c) σ = some (if f = 0 ∧ i < n ∧ B i = c then 1 else 0) := by
  obtain ⟨hB, h2, h3, h4, h5, h1, hi, hn, hb⟩ := h
  unfold mX10_stands
  rw [h5, h4]
  by_cases e : f = 0
  · by_cases g : i < n ∧ B i = c
    · rw [if_pos e, if_pos ((sg_eq hB n i hc).mpr g), if_pos ⟨e, g⟩]
    · rw [if_pos e, if_neg (fun k => g ((sg_eq hB n i hc).mp k)), if_neg (fun h => g h.2)]
  · rw [if_neg e, if_neg (fun h => e h.1)]
theorem x_stand1 (F : Nat) {B : Nat → Nat} {n i : Nat} {σ : jS} (h : tpX B n i 0 σ) {c : Nat} (hc : c < 2 ^ 31) (g : i < n ∧ B i = c) : mX10_stands F (nI c) σ = some 1 := by
  rw [x_stands F h hc, if_pos ⟨rfl, g⟩]
theorem x_stand0 (F : Nat) {B : Nat → Nat} {n i : Nat} {σ : jS} (h : tpX B n i 0 σ) {c : Nat} (hc : c < 2 ^ 31) (g : ¬ (i < n ∧ B i = c)) : mX10_stands F (nI c) σ = some 0 := by
  rw [x_stands F h hc, if_neg (fun k => g k.2)]
theorem x_standD (F : Nat) {B : Nat → Nat} {n i : Nat} {f : Int32} {σ : jS} (h : tpX B n i f σ) (hf : f ≠ 0) (c : Int32) : mX10_stands F c σ = some 0 := by
  unfold mX10_stands
  rw [h.2.2.2.2.1, if_neg hf]
theorem x_on1 (F : Nat) {B : Nat → Nat} {n i : Nat} {σ : jS} (h : tpX B n i 0 σ) (g : i < n) : mX10_goesOn F σ = some 1 := by
  rw [x_on F h, if_pos ⟨rfl, g⟩]
theorem x_on0 (F : Nat) {B : Nat → Nat} {n i : Nat} {f : Int32} {σ : jS} (h : tpX B n i f σ) (g : ¬ i < n) : mX10_goesOn F σ = some 0 := by
  rw [x_on F h, if_neg (fun k => g k.2)]
theorem x_onD (F : Nat) {B : Nat → Nat} {n i : Nat} {f : Int32} {σ : jS} (h : tpX B n i f σ) (hf : f ≠ 0) : mX10_goesOn F σ = some 0 := by
  rw [x_on F h, if_neg (fun k => hf k.1)]
theorem x_take (F : Nat) {B : Nat → Nat} {n i : Nat} {f : Int32} {σ : jS} (h : tpX B n i f σ) {c : Nat} (hc : c < 2 ^ 31) :
    ∃ σ', mX10_take F (nI c) σ = some σ' ∧ (if i < n ∧ B i = c then tpX B n (i + 1) f σ' else tpX B n i (if f = 0 then flt 1 i else f) σ') ∧ frm σ σ' := by
  obtain ⟨hB, h2, h3, h4, h5, h1, hi, hn, hb⟩ := id h
  unfold mX10_take
  rw [h4, h3]
  by_cases g : i < n ∧ B i = c
  · rw [if_pos ((sg_eq hB n i hc).mpr g)]
    simp only [if_pos g]
    obtain ⟨σ', a, b, d⟩ := x_step1 F h g.1
    rw [a]
    exact ⟨σ', rfl, b, d⟩
  · rw [if_neg (fun k => g ((sg_eq hB n i hc).mp k))]
    simp only [if_neg g]
    obtain ⟨σ', a, b, d⟩ := x_fail F h 1 (nI i)
    rw [a]
    exact ⟨σ', rfl, b, d⟩
theorem x_takeD (F : Nat) {B : Nat → Nat} {n i : Nat} {f : Int32} {σ : jS} (h : tpX B n i f σ) (hf : f ≠ 0) {c : Nat} (hc : c < 2 ^ 31) : ∃ σ' i', mX10_take F (nI c) σ = some σ' ∧ tpX B n i' f σ' ∧ frm σ σ' := by
  obtain ⟨σ', a, b, d⟩ := x_take F h hc
  by_cases g : i < n ∧ B i = c
  · rw [if_pos g] at b
    exact ⟨σ', _, a, b, d⟩
  · rw [if_neg g, if_neg hf] at b
    exact ⟨σ', _, a, b, d⟩
/-! ### numbers -/
def nd (B : Nat → Nat) (n : Nat) : Nat → Nat → Nat
  | _, 0 => 0
  | i, k + 1 => if isD B n i then 1 + nd B n (i + 1) k else 0
def nv (B : Nat → Nat) (n : Nat) : Nat → Nat → Nat → Nat
  | _, 0, a => a
  | i, k + 1, a => if isD B n i then nv B n (i + 1) k (a * 10 + (B i - 48)) else a
theorem nd_le (B : Nat → Nat) (n : Nat) : ∀ k i, nd B n i k ≤ k
  | 0, _ => Nat.le_refl _
  | k + 1, i => by
    have := nd_le B n k (i + 1)
    unfold nd
    split <;> omega
theorem nv_lt (B : Nat → Nat) (n : Nat) : ∀ k i a, nv B n i k a < (a + 1) * 10 ^ k
  | 0, _, a => by unfold nv; omega
  | k + 1, i, a => by
    have h := nv_lt B n k (i + 1) (a * 10 + (B i - 48))
    have hp : 0 < 10 ^ k := Nat.pow_pos (by omega)
    unfold nv
    split
    · rename_i hd
      have : (a * 10 + (B i - 48) + 1) * 10 ^ k ≤ ((a + 1) * 10) * 10 ^ k := Nat.mul_le_mul_right _ (by have := isD_e.mp hd; omega)
      rw [Nat.pow_succ, Nat.mul_comm (10 ^ k) 10, ← Nat.mul_assoc]
      omega
    · have : (a + 1) * 1 ≤ (a + 1) * 10 ^ (k + 1) := Nat.mul_le_mul_left _ (Nat.pow_pos (by omega))
      omega
theorem x_dig {B : Nat → Nat} {n i a : Nat} (hB : ∀ j, B j < 256) (hd : isD B n i) (ha : a < 10000000) : nI a * 10 + sg B n i - 48 = nI (a * 10 + (B i - 48)) := by
  have hd := isD_e.mp hd
  unfold sg
  rw [if_pos hd.1, show (10 : Int32) = nI 10 from rfl, show (48 : Int32) = nI 48 from rfl, pk_mul, nI_add, pk_sub (a := a * 10 + B i) (b := 48) (by omega)]
  congr 1
  omega
theorem x_num_loop (F : Nat) {B : Nat → Nat} {n : Nat} {f : Int32} (k50 : Int32 → Int32 → jS → Option (Int32 × jS)) (Q : Option (Int32 × jS) → Prop) {most : Nat} (hm : most ≤ 6) (σ0 : jS) :
    ∀ (k N i a c : Nat) (σ : jS), k < N → c + k = most → a < 10 ^ c → tpX B n i f σ → frm σ0 σ →
      (∀ σ', tpX B n (i + nd B n i k) f σ' → frm σ0 σ' → Q (k50 (nI (nv B n i k a)) (nI (c + nd B n i k)) σ')) → Q (lp_X10_number_4 F k50 N (nI most) (nI a) (nI c) σ) := by
  intro k
  induction k with
  | zero =>
    intro N i a c σ hN hc ha h hf hQ
    obtain ⟨N, rfl⟩ : ∃ M, N = M + 1 := ⟨N - 1, by omega⟩
    rw [lp_X10_number_4, if_neg (show ¬ nI c < nI most from nI_nlt (by omega) (by omega))]
    exact hQ σ h hf
  | succ k ih =>
    intro N i a c σ hN hc ha h hf hQ
    obtain ⟨N, rfl⟩ : ∃ M, N = M + 1 := ⟨N - 1, by omega⟩
    have ha2 : a < 10000000 := Nat.lt_of_lt_of_le ha (Nat.le_trans (Nat.pow_le_pow_right (by omega) (show c ≤ 6 by omega)) (by omega))
    rw [lp_X10_number_4, if_pos (show nI c < nI most from nI_lt (by omega) (by omega)), h.2.2.2.1]
    unfold nd nv at hQ
    rcases isD_c h.1 n i with ⟨d, e⟩ | ⟨d, e1, e2⟩
    · rw [if_neg d, if_neg d] at hQ
      have := hQ σ (by exact h) hf
      rcases e with e | e
      · rw [if_pos e]; exact this
      · by_cases g : sg B n i < 48
        · rw [if_pos g]; exact this
        · rw [if_neg g, if_pos e]; exact this
    · rw [if_pos d, if_pos d] at hQ
      rw [if_neg e1, if_neg e2, ltE, x_dig h.1 d ha2]
      obtain ⟨σ1, a1, a2, a3⟩ := x_step1 F h (isD_e.mp d).1
      rw [a1]
      simp only [Option.bind_some, nI1]
      refine ih N (i + 1) _ (c + 1) σ1 (by omega) (by omega) ?_ a2 (frm_tr hf a3) ?_
      · rw [Nat.pow_succ]
        have := isD_e.mp d
        omega
      · intro σ' h' hf'
        have := hQ σ' (by rw [show i + (1 + nd B n (i + 1) k) = i + 1 + nd B n (i + 1) k by omega]; exact h') hf'
        rw [show c + (1 + nd B n (i + 1) k) = c + 1 + nd B n (i + 1) k by omega] at this
        exact this
theorem x_number (F : Nat) (hF : 10 ≤ F) {B : Nat → Nat} {n i : Nat} {f : Int32} {σ : jS} (h : tpX B n i f σ) {most : Nat} (hm : most ≤ 6) :
    ∃ σ', mX10_number F (nI most) σ = some (nI (nv B n i most 0), σ') ∧ tpX B n (i + nd B n i most) (if f = 0 then (if nd B n i most = 0 then flt 1 i else if isD B n (i + nd B n i most) then flt 2 (i + nd B n i most) else 0) else f) σ' ∧ frm σ σ' := by
  unfold mX10_number
  refine x_num_loop F (fun x2_3 x3_3 σ3 => jn_X10_number_50 F x2_3 x3_3 σ3) (fun r => ∃ σ', r = some (nI (nv B n i most 0), σ') ∧ tpX B n (i + nd B n i most) (if f = 0 then (if nd B n i most = 0 then flt 1 i else if isD B n (i + nd B n i most) then flt 2 (i + nd B n i most) else 0) else f) σ' ∧ frm σ σ') hm σ most F i 0 0 σ (by omega) (by omega) (by decide) h (frm_rf σ) ?_
  intro σ' h' hf'
  have hnd := nd_le B n most i
  simp only [Nat.zero_add]
  unfold jn_X10_number_50
  rw [h'.2.2.1, h'.2.2.2.1]
  by_cases c0 : nd B n i most = 0
  · rw [c0] at h' ⊢
    rw [if_pos (show nI 0 = 0 from rfl), if_pos rfl]
    obtain ⟨σ2, a, b, d⟩ := x_fail F h' 1 (nI (i + 0))
    rw [a]
    refine ⟨σ2, rfl, ?_, frm_tr hf' d⟩
    exact b
  · rw [if_neg (nI_ne0 (by omega) (by omega)), if_neg c0]
    rcases isD_c h'.1 n (i + nd B n i most) with ⟨d, e⟩ | ⟨d, e1, e2⟩
    · rw [if_neg d]
      have h9 : tpX B n (i + nd B n i most) (if f = 0 then 0 else f) σ' := by
        by_cases g : f = 0
        · rw [if_pos g, ← g]; exact h'
        · rw [if_neg g]; exact h'
      rcases e with e | e
      · rw [if_pos e]; exact ⟨σ', rfl, h9, hf'⟩
      · by_cases g : sg B n (i + nd B n i most) < 48
        · rw [if_pos g]; exact ⟨σ', rfl, h9, hf'⟩
        · rw [if_neg g, if_pos e]; exact ⟨σ', rfl, h9, hf'⟩
    · rw [if_neg e1, if_neg e2, if_pos d]
      obtain ⟨σ2, a, b, d⟩ := x_fail F h' 2 (nI (i + nd B n i most))
      rw [a]
      exact ⟨σ2, rfl, b, frm_tr hf' d⟩
/-! ### the reference's steps -/
theorem m_here (F : Nat) {B : Nat → Nat} {n i : Nat} {τ : jS} (h : tpM B n i τ) : mX12_here F τ = some (sg B n i) := by
  obtain ⟨h1, h2, hi, hn, hb⟩ := h
  unfold mX12_here sg
  rw [h1, h2]
  by_cases c : i < n
  · rw [if_pos (nI_lt c (by omega)), if_pos c, ltE, jin_nI (show i < 260 by omega) (by omega), if_pos rfl, nI_clamp (by omega), hb _ (by omega)]
  · rw [if_neg (nI_nlt (by omega) (by omega)), if_neg c]
theorem m_isDigit (F : Nat) {B : Nat → Nat} (hB : ∀ j, B j < 256) {n i : Nat} {τ : jS} (h : tpM B n i τ) : mX12_isDigit F τ = some (if isD B n i then 1 else 0) := by
  unfold mX12_isDigit
  rw [m_here F h]
  simp only [Option.bind_some]
  rcases isD_c hB n i with ⟨d, e⟩ | ⟨d, e1, e2⟩
  · rw [if_neg d]
    rcases e with e | e
    · rw [if_pos e]
    · by_cases g : sg B n i < 48
      · rw [if_pos g]
      · rw [if_neg g, if_pos e]
  · rw [if_neg e1, if_neg e2, if_pos d]
theorem m_wrong (F : Nat) (w j : Nat) (τ : jS) : mX12_wrongAt F (nI w) (nI j) τ = some (0, js τ 0 9 (flt w j)) := rfl
/-- only these slots of the reference's object change -/
def frM (S : Nat → Prop) (τ τ' : jS) : Prop := (∀ d, d ≠ 0 → τ' d = τ d) ∧ ∀ k, ¬ S k → τ' 0 k = τ 0 k
theorem frM_rf {S : Nat → Prop} (τ : jS) : frM S τ τ := ⟨fun _ _ => rfl, fun _ _ => rfl⟩
theorem frM_tr {S : Nat → Prop} {a b c : jS} (h : frM S a b) (g : frM S b c) : frM S a c := ⟨fun d hd => (g.1 d hd).trans (h.1 d hd), fun d hd => (g.2 d hd).trans (h.2 d hd)⟩
theorem frM_js {S : Nat → Prop} (τ : jS) {k : Nat} (v : Int32) (hk : S k) : frM S τ (js τ 0 k v) := ⟨fun d hd => js_c _ _ _ hd, fun j hj => js_k _ _ (fun e => hj (by rw [e]; exact hk))⟩
theorem tpM_step {B : Nat → Nat} {n i : Nat} {τ : jS} (h : tpM B n i τ) (hi : i < n) : tpM B n (i + 1) (js τ 0 7 (τ 0 7 + 1)) := by
  obtain ⟨h1, h2, _, hn, hb⟩ := h
  refine ⟨by rw [js_at, h1, nI1], by rw [js_k _ _ (by omega)]; exact h2, by omega, hn, by rw [js_c _ _ _ (by omega)]; exact hb⟩
theorem tpM_js {B : Nat → Nat} {n i : Nat} {τ : jS} (h : tpM B n i τ) {k : Nat} (v : Int32) (h7 : k ≠ 7) (h8 : k ≠ 8) : tpM B n i (js τ 0 k v) := by
  obtain ⟨h1, h2, hi, hn, hb⟩ := h
  exact ⟨by rw [js_k _ _ (Ne.symm h7)]; exact h1, by rw [js_k _ _ (Ne.symm h8)]; exact h2, hi, hn, by rw [js_c _ _ _ (by omega)]; exact hb⟩
theorem tpM_cell {B : Nat → Nat} {n i : Nat} {τ : jS} (h : tpM B n i τ) {c : Nat} (k : Nat) (v : Int32) (h0 : c ≠ 0) (h6 : c ≠ 6) : tpM B n i (js τ c k v) := by
  obtain ⟨h1, h2, hi, hn, hb⟩ := h
  exact ⟨by rw [js_c _ _ _ (Ne.symm h0)]; exact h1, by rw [js_c _ _ _ (Ne.symm h0)]; exact h2, hi, hn, by rw [js_c _ _ _ (Ne.symm h6)]; exact hb⟩
theorem m_takes (F : Nat) {B : Nat → Nat} (hB : ∀ j, B j < 256) {n i : Nat} {τ : jS} (h : tpM B n i τ) {c : Nat} (hc : c < 2 ^ 31) :
    mX12_takes F (nI c) τ = if i < n ∧ B i = c then some (1, js τ 0 7 (τ 0 7 + 1)) else some (0, js τ 0 9 (flt 1 i)) := by
  unfold mX12_takes
  rw [m_here F h]
  simp only [Option.bind_some, ltE]
  by_cases g : i < n ∧ B i = c
  · rw [if_pos ((sg_eq hB n i hc).mpr g), if_pos g]
  · rw [if_neg (fun k => g ((sg_eq hB n i hc).mp k)), if_neg g, h.1]
    rfl
