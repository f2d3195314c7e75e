/-! ### the reference's stack and code -/
def sS (k : Nat) : Prop := k = 7 ∨ (9 ≤ k ∧ k ≤ 13)
def frS (τ τ' : jS) : Prop := (∀ d, d ≠ 0 → d ≠ 7 → d ≠ 8 → τ' d = τ d) ∧ ∀ k, ¬ sS k → τ' 0 k = τ 0 k
theorem frS_rf (τ : jS) : frS τ τ := ⟨fun _ _ _ _ => rfl, fun _ _ => rfl⟩
theorem frS_tr {a b c : jS} (h : frS a b) (g : frS b c) : frS a c := ⟨fun d h1 h2 h3 => (g.1 d h1 h2 h3).trans (h.1 d h1 h2 h3), fun k hk => (g.2 k hk).trans (h.2 k hk)⟩
theorem frS_js (τ : jS) {k : Nat} (v : Int32) (hk : sS k) : frS τ (js τ 0 k v) := ⟨fun d hd _ _ => js_c _ _ _ hd, fun j hj => js_k _ _ (fun e => hj (by rw [e]; exact hk))⟩
theorem frS_c (τ : jS) {c : Nat} (k : Nat) (v : Int32) (hc : c = 7 ∨ c = 8) : frS τ (js τ c k v) := ⟨fun d _ h1 h2 => js_c _ _ _ (by omega), fun j _ => by rw [js_c _ _ _ (by omega)]⟩
theorem m_notes (F : Nat) {τ : jS} {L : Nat} (h : τ 0 12 = nI L) (hL : L < 260) (x1 x2 : Int32) : mX12_notes F x1 x2 τ = some (js (js τ 7 L (1048576 * x1 + x2)) 0 12 (nI (L + 1))) := by
  unfold mX12_notes
  rw [h, jin_nI hL (by omega), if_pos rfl, nI_clamp (by omega)]
  simp only [ltE, js_c _ _ _ (show (0 : Nat) ≠ 7 by omega), h, nI1]
theorem m_top (F : Nat) {τ : jS} {h w a : Nat} (e : τ 0 13 = nI (h + 1)) (hh : h < 260) (hw : w < 16) (ha : a < 100000) (ht : τ 8 h = nI (1048576 * w + a)) : mX12_waitTop F τ = some (nI w) := by
  unfold mX12_waitTop
  rw [e, if_neg (nI_ne0 (by omega) (by omega)), show nI (h + 1) - (1 : Int32) = nI h by rw [show (1 : Int32) = nI 1 from rfl, pk_sub (a := h + 1) (b := 1) (by omega)]; rfl, ltE, jin_nI hh (by omega), if_pos rfl, nI_clamp (by omega), ht, cm_op hw ha]
theorem m_top0 (F : Nat) {τ : jS} (e : τ 0 13 = 0) : mX12_waitTop F τ = some (-1) := by
  unfold mX12_waitTop
  rw [e, if_pos rfl]
/-- nothing of a sum waits on top -/
def noS (h : Nat) (τ : jS) : Prop := (h = 0 ∧ τ 0 13 = 0) ∨ ∃ h' w a, h = h' + 1 ∧ τ 0 13 = nI (h' + 1) ∧ w < 16 ∧ a < 100000 ∧ τ 8 h' = nI (1048576 * w + a) ∧ ¬ (2 ≤ w ∧ w ≤ 6)
theorem cl_stop (F N : Nat) {τ : jS} {h : Nat} (hn : noS h τ) (hh : h < 260) (x : Int32) : lp_X12_closesSums_0 F (N + 1) x τ = some τ := by
  rw [lp_X12_closesSums_0]
  unfold jn_X12_closesSums_17
  rcases hn with ⟨_, e⟩ | ⟨h', w, a, e0, e1, hw, ha, e2, hne⟩
  · rw [m_top0 F e]
    simp only [Option.bind_some, if_pos (show (-1 : Int32) < 4 by decide), if_neg (show ¬ (-1 : Int32) = 2 by decide), if_neg (show ¬ (-1 : Int32) = 3 by decide), ite_self]
  · rw [m_top F e1 (by omega) hw ha e2]
    have n2 : ¬ nI w = (2 : Int32) := fun e => by have := nI_inj (b := 2) (by omega) (by omega) e; omega
    have n3 : ¬ nI w = (3 : Int32) := fun e => by have := nI_inj (b := 3) (by omega) (by omega) e; omega
    simp only [Option.bind_some, if_neg n2, if_neg n3, ite_self]
    by_cases c : w < 4
    · rw [if_pos (show nI w < (4 : Int32) from nI_lt (b := 4) c (by omega))]
    · rw [if_neg (show ¬ nI w < (4 : Int32) from nI_nlt (b := 4) (by omega) (by omega)), if_pos (show (6 : Int32) < nI w from nI_lt (a := 6) (by omega) (by omega))]
theorem cl_stop0 (F N : Nat) {τ : jS} {h w a : Nat} (e1 : τ 0 13 = nI (h + 1)) (hh : h < 260) (ha : a < 100000) (e2 : τ 8 h = nI (1048576 * w + a)) (hw : w = 2 ∨ w = 3) : lp_X12_closesSums_0 F (N + 1) 0 τ = some τ := by
  rw [lp_X12_closesSums_0]
  unfold jn_X12_closesSums_17
  rw [m_top F e1 hh (by omega) ha e2]
  simp only [Option.bind_some, if_true]
  rw [if_pos (show nI w < (4 : Int32) from nI_lt (b := 4) (by omega) (by omega))]
theorem cl_pop (F N : Nat) {τ : jS} {h w L : Nat} (e1 : τ 0 13 = nI (h + 1)) (hh : h < 260) (e2 : τ 8 h = nI (1048576 * w)) (eL : τ 0 12 = nI L) (hL : L < 260) (x : Int32) (hw : (4 ≤ w ∧ w ≤ 6) ∨ ((w = 2 ∨ w = 3) ∧ x ≠ 0)) :
    lp_X12_closesSums_0 F (N + 1) x τ = lp_X12_closesSums_0 F N x (js (js (js τ 7 L (nI (1048576 * w))) 0 12 (nI (L + 1))) 0 13 (nI h)) := by
  have e2' : τ 8 h = nI (1048576 * w + 0) := e2
  have em : (1048576 : Int32) * nI w + 0 = nI (1048576 * w) := by rw [show (1048576 : Int32) = nI 1048576 from rfl, pk_mul]; simp
  have e37 : jn_X12_closesSums_37 F (lp_X12_closesSums_0 F N) x τ = lp_X12_closesSums_0 F N x (js (js (js τ 7 L (nI (1048576 * w))) 0 12 (nI (L + 1))) 0 13 (nI h)) := by
    unfold jn_X12_closesSums_37
    rw [m_top F e1 hh (by omega) (by omega) e2']
    simp only [Option.bind_some, m_notes F eL hL, em, ltE, js_k _ _ (show (13 : Nat) ≠ 12 by omega), js_c _ _ _ (show (0 : Nat) ≠ 7 by omega), e1]
    rw [show nI (h + 1) - (1 : Int32) = nI h by rw [show (1 : Int32) = nI 1 from rfl, pk_sub (a := h + 1) (b := 1) (by omega)]; rfl]
  rw [lp_X12_closesSums_0, m_top F e1 hh (by omega) (by omega) e2']
  simp only [Option.bind_some]
  rcases hw with ⟨h4, h6⟩ | ⟨h23, hx⟩
  · rw [if_neg (show ¬ nI w < (4 : Int32) from nI_nlt (b := 4) h4 (by omega)), if_neg (show ¬ (6 : Int32) < nI w from nI_nlt (a := 6) h6 (by omega))]
    exact e37
  · rw [if_pos (show nI w < (4 : Int32) from nI_lt (b := 4) (by omega) (by omega))]
    unfold jn_X12_closesSums_17
    rw [if_neg hx, m_top F e1 hh (by omega) (by omega) e2']
    simp only [Option.bind_some]
    rcases h23 with rfl | rfl
    · rw [if_pos (show nI 2 = (2 : Int32) from rfl)]; exact e37
    · rw [if_neg (show ¬ nI 3 = (2 : Int32) by decide), if_pos (show nI 3 = (3 : Int32) from rfl)]; exact e37
theorem m_open1 (F : Nat) (hF : 300 ≤ F) {τ : jS} {h2 bs j0 a : Nat} (e : τ 0 13 = nI h2) (hh : h2 ≤ 260) (h1 : bs ≤ j0) (hj : j0 < h2) (ha : a < 100000) (ht : τ 8 j0 = nI (1048576 * 14 + a)) : mX12_hasOpenSum F (nI bs) τ = some 1 := by
  unfold mX12_hasOpenSum
  refine loop_p (fun N x (u : Unit) => lp_X12_hasOpenSum_2 F τ N x) (j0 + 1) (fun i _ => i ≤ j0) (fun r => r = some 1) ?_ ?_ F bs () (by omega) (by omega) h1
  · intro N i _ hi hij
    show lp_X12_hasOpenSum_2 F τ (N + 1) (nI i) = some 1 ∨ ∃ (u : Unit), i + 1 ≤ j0 ∧ lp_X12_hasOpenSum_2 F τ (N + 1) (nI i) = lp_X12_hasOpenSum_2 F τ N (nI (i + 1))
    rw [lp_X12_hasOpenSum_2, e, if_pos (nI_lt (by omega) (by omega)), jin_nI (show i < 260 by omega) (by omega), if_pos rfl, nI_clamp (by omega), nI1]
    by_cases c : (τ 8 i) / (1048576 : Int32) = 14
    · left; rw [if_pos c]
    · right
      rw [if_neg c]
      refine ⟨(), ?_, rfl⟩
      rcases Nat.lt_or_ge i j0 with q | q
      · omega
      · have e9 : i = j0 := by omega
        rw [e9, ht, cm_op (by omega) ha] at c
        exact absurd rfl c
  · intro N _ h
    omega
theorem m_open0 (F : Nat) (hF : 300 ≤ F) {τ : jS} {h2 bs : Nat} (e : τ 0 13 = nI h2) (hh : h2 ≤ 260) (h1 : bs ≤ h2) (hz : ∀ j, bs ≤ j → j < h2 → ∃ w, w < 14 ∧ τ 8 j = nI (1048576 * w)) : mX12_hasOpenSum F (nI bs) τ = some 0 := by
  unfold mX12_hasOpenSum
  refine loop_p (fun N x (u : Unit) => lp_X12_hasOpenSum_2 F τ N x) h2 (fun i _ => bs ≤ i) (fun r => r = some 0) ?_ ?_ F bs () h1 (by omega) (Nat.le_refl _)
  · intro N i _ hi hb
    right
    show ∃ (u : Unit), bs ≤ i + 1 ∧ lp_X12_hasOpenSum_2 F τ (N + 1) (nI i) = lp_X12_hasOpenSum_2 F τ N (nI (i + 1))
    obtain ⟨w, hw, ew⟩ := hz i hb hi
    have ew' : τ 8 i = nI (1048576 * w + 0) := ew
    rw [lp_X12_hasOpenSum_2, e, if_pos (nI_lt hi (by omega)), jin_nI (show i < 260 by omega) (by omega), if_pos rfl, nI_clamp (by omega), nI1, ew', cm_op (by omega) (by omega), if_neg (show ¬ nI w = (14 : Int32) from fun e => by have := nI_inj (b := 14) (by omega) (by omega) e; omega)]
    exact ⟨(), by omega, rfl⟩
  · intro N _ _
    show lp_X12_hasOpenSum_2 F τ (N + 1) (nI h2) = some 0
    rw [lp_X12_hasOpenSum_2, e, if_neg (nI_nlt (Nat.le_refl h2) (by omega))]
/-! ### what waits of a sum: a + or -, and a *, / or % behind it -/
def cn (A : Option Nat) : Nat := match A with | none => 0 | some _ => 1
def pend (h : Nat) (A M : Option Nat) (τ : jS) : Prop := τ 0 13 = nI (h + cn A + cn M) ∧ (∀ a, A = some a → (a = 5 ∨ a = 6) ∧ τ 8 h = nI (1048576 * opM a)) ∧ ∀ m, M = some m → (7 ≤ m ∧ m ≤ 9) ∧ τ 8 (h + cn A) = nI (1048576 * opM m)
theorem opM_mul {m : Nat} (h : 7 ≤ m ∧ m ≤ 9) : opM m = m - 3 := by
  rcases (show m = 7 ∨ m = 8 ∨ m = 9 by omega) with rfl | rfl | rfl <;> rfl
theorem opM_add {a : Nat} (h : a = 5 ∨ a = 6) : opM a = a - 3 := by
  rcases h with rfl | rfl <;> rfl
def cl1 (τ : jS) (L w h : Nat) : jS := js (js (js τ 7 L (nI (1048576 * w))) 0 12 (nI (L + 1))) 0 13 (nI h)
theorem cl1_f (τ : jS) (L w h : Nat) : frS τ (cl1 τ L w h) := frS_tr (frS_tr (frS_c _ _ _ (Or.inl rfl)) (frS_js _ _ (Or.inr ⟨by omega, by omega⟩))) (frS_js _ _ (Or.inr ⟨by omega, by omega⟩))
theorem cl1_8 (τ : jS) (L w h : Nat) : cl1 τ L w h 8 = τ 8 := by unfold cl1; rw [js_c _ _ _ (by omega), js_c _ _ _ (by omega), js_c _ _ _ (by omega)]
theorem cl1_L (τ : jS) (L w h : Nat) : cl1 τ L w h 0 12 = nI (L + 1) := by unfold cl1; rw [js_k _ _ (by omega), js_at]
theorem cl1_h (τ : jS) (L w h : Nat) : cl1 τ L w h 0 13 = nI h := by unfold cl1; rw [js_at]
theorem cl1_7 (τ : jS) (L w h : Nat) : cl1 τ L w h 7 L = nI (1048576 * w) := by unfold cl1; rw [js_c _ _ _ (by omega), js_c _ _ _ (by omega), js_at]
theorem cl1_7n (τ : jS) (L w h : Nat) {j : Nat} (hj : j ≠ L) : cl1 τ L w h 7 j = τ 7 j := by unfold cl1; rw [js_c _ _ _ (by omega), js_c _ _ _ (by omega), js_k _ _ hj]
theorem cl1_0 (τ : jS) (L w h : Nat) {k : Nat} (h1 : k ≠ 12) (h2 : k ≠ 13) : cl1 τ L w h 0 k = τ 0 k := by unfold cl1; rw [js_k _ _ h2, js_k _ _ h1, js_c _ _ _ (by omega)]
theorem cl1_tp {B : Nat → Nat} {n i : Nat} {τ : jS} (hM : tpM B n i τ) (L w h : Nat) : tpM B n i (cl1 τ L w h) := tpM_js (tpM_js (tpM_cell hM _ _ (by omega) (by omega)) _ (by omega) (by omega)) _ (by omega) (by omega)
/-- behind a sign of products: what multiplies is written -/
theorem m_close0 (F : Nat) (hF : 300 ≤ F) {τ : jS} {h L : Nat} {A M : Option Nat} (hp : pend h A M τ) (hL : τ 0 12 = nI L) (hb : L < 250) (hh : h < 250) (hn : ∀ ρ : jS, ρ 8 = τ 8 → ρ 0 13 = nI h → noS h ρ) :
    ∃ τ', mX12_closesSums F 0 τ = some τ' ∧ pend h A none τ' ∧ τ' 0 12 = nI (L + cn M) ∧ (∀ j, j < L → τ' 7 j = τ 7 j) ∧ (∀ m, M = some m → τ' 7 L = nI (1048576 * opM m)) ∧ τ' 8 = τ 8 ∧ (∀ k, k ≠ 12 → k ≠ 13 → τ' 0 k = τ 0 k) ∧ frS τ τ' := by
  obtain ⟨h1, h2, h3⟩ := hp
  obtain ⟨N, hN⟩ : ∃ N, F = N + 2 := ⟨F - 2, by omega⟩
  have stop : ∀ (ρ : jS) (K : Nat), ρ 8 = τ 8 → ρ 0 13 = nI (h + cn A) → lp_X12_closesSums_0 F (K + 1) 0 ρ = some ρ := by
    intro ρ K e8 e13
    cases A with
    | none => exact cl_stop F K (hn ρ e8 e13) (by omega) 0
    | some a =>
      obtain ⟨ha, et⟩ := h2 a rfl
      have et' : ρ 8 h = nI (1048576 * opM a + 0) := by rw [e8]; exact et
      exact cl_stop0 F K e13 (by omega) (by omega) et' (by rw [opM_add ha]; omega)
  unfold mX12_closesSums
  cases M with
  | none =>
    refine ⟨τ, ?_, ⟨h1, h2, h3⟩, hL, fun _ _ => rfl, fun m e => (by cases e), rfl, fun _ _ _ => rfl, frS_rf τ⟩
    have := stop τ (N + 1) rfl h1
    rw [show N + 1 + 1 = F by omega] at this
    exact this
  | some m =>
    obtain ⟨hm, et⟩ := h3 m rfl
    have hop := opM_mul hm
    have e13 : τ 0 13 = nI (h + cn A + 1) := h1
    have hcA : cn A ≤ 1 := by cases A <;> simp [cn]
    have step := cl_pop F (N + 1) (h := h + cn A) e13 (by omega) et hL (by omega) 0 (Or.inl (by rw [hop]; omega))
    rw [show N + 1 + 1 = F by omega] at step
    refine ⟨cl1 τ L (opM m) (h + cn A), ?_, ⟨cl1_h _ _ _ _, fun a e => by rw [cl1_8]; exact h2 a e, fun m e => (by cases e)⟩, cl1_L _ _ _ _, fun j hj => cl1_7n _ _ _ _ (by omega), fun m' e => (by cases e; exact cl1_7 _ _ _ _), cl1_8 _ _ _ _, fun k a b => cl1_0 _ _ _ _ a b, cl1_f _ _ _ _⟩
    rw [step]
    exact stop (cl1 τ L (opM m) (h + cn A)) N (cl1_8 _ _ _ _) (cl1_h _ _ _ _)
/-- all that waits of the sum is written -/
theorem m_close1 (F : Nat) (hF : 300 ≤ F) {τ : jS} {h L : Nat} {A M : Option Nat} (hp : pend h A M τ) (hL : τ 0 12 = nI L) (hb : L < 250) (hh : h < 250) (hn : ∀ ρ : jS, ρ 8 = τ 8 → ρ 0 13 = nI h → noS h ρ) :
    ∃ τ', mX12_closesSums F 1 τ = some τ' ∧ τ' 0 13 = nI h ∧ τ' 0 12 = nI (L + cn M + cn A) ∧ (∀ j, j < L → τ' 7 j = τ 7 j) ∧ (∀ m, M = some m → τ' 7 L = nI (1048576 * opM m)) ∧ (∀ a, A = some a → τ' 7 (L + cn M) = nI (1048576 * opM a)) ∧ τ' 8 = τ 8 ∧ (∀ k, k ≠ 12 → k ≠ 13 → τ' 0 k = τ 0 k) ∧ frS τ τ' := by
  obtain ⟨h1, h2, h3⟩ := hp
  have hcA : cn A ≤ 1 := by cases A <;> simp [cn]
  have hcM : cn M ≤ 1 := by cases M <;> simp [cn]
  obtain ⟨N, hN⟩ : ∃ N, F = N + 3 := ⟨F - 3, by omega⟩
  have second : ∀ (ρ : jS) (K L' : Nat), ρ 8 = τ 8 → ρ 0 13 = nI (h + cn A) → ρ 0 12 = nI L' → L' < 255 → ∃ ρ', lp_X12_closesSums_0 F (K + 2) 1 ρ = some ρ' ∧ ρ' 0 13 = nI h ∧ ρ' 0 12 = nI (L' + cn A) ∧ (∀ j, j < L' → ρ' 7 j = ρ 7 j) ∧ (∀ a, A = some a → ρ' 7 L' = nI (1048576 * opM a)) ∧ ρ' 8 = ρ 8 ∧ (∀ k, k ≠ 12 → k ≠ 13 → ρ' 0 k = ρ 0 k) ∧ frS ρ ρ' := by
    intro ρ K L' e8 e13 e12 hL'
    cases A with
    | none =>
      refine ⟨ρ, cl_stop F (K + 1) (hn ρ e8 e13) (by omega) 1, e13, e12, fun _ _ => rfl, fun a e => (by cases e), rfl, fun _ _ _ => rfl, frS_rf ρ⟩
    | some a =>
      obtain ⟨ha, et⟩ := h2 a rfl
      have step := cl_pop F (K + 1) (τ := ρ) (h := h) e13 (by omega) (by rw [e8]; exact et) e12 (by omega) 1 (Or.inr ⟨by rw [opM_add ha]; omega, by decide⟩)
      refine ⟨cl1 ρ L' (opM a) h, ?_, cl1_h _ _ _ _, cl1_L _ _ _ _, fun j hj => cl1_7n _ _ _ _ (by omega), fun a' e => (by cases e; exact cl1_7 _ _ _ _), cl1_8 _ _ _ _, fun k a b => cl1_0 _ _ _ _ a b, cl1_f _ _ _ _⟩
      rw [step]
      exact cl_stop F K (hn (cl1 ρ L' (opM a) h) (by rw [cl1_8]; exact e8) (cl1_h _ _ _ _)) (by omega) 1
  unfold mX12_closesSums
  cases M with
  | none =>
    obtain ⟨ρ', q1, q2, q3, q4, q5, q6, q7, q8⟩ := second τ (N + 1) L rfl h1 hL (by omega)
    rw [show N + 1 + 2 = F by omega] at q1
    exact ⟨ρ', q1, q2, q3, q4, fun m e => (by cases e), q5, q6, q7, q8⟩
  | some m =>
    obtain ⟨hm, et⟩ := h3 m rfl
    have hop := opM_mul hm
    have e13 : τ 0 13 = nI (h + cn A + 1) := h1
    have step := cl_pop F (N + 2) (h := h + cn A) e13 (by omega) et hL (by omega) 1 (Or.inl (by rw [hop]; omega))
    rw [show N + 2 + 1 = F by omega] at step
    obtain ⟨ρ', q1, q2, q3, q4, q5, q6, q7, q8⟩ := second (cl1 τ L (opM m) (h + cn A)) N (L + 1) (cl1_8 _ _ _ _) (cl1_h _ _ _ _) (cl1_L _ _ _ _) (by omega)
    refine ⟨ρ', ?_, q2, q3, fun j hj => by rw [q4 j (by omega), cl1_7n _ _ _ _ (by omega)], fun m' e => ?_, q5, by rw [q6, cl1_8], fun k a b => by rw [q7 k a b, cl1_0 _ _ _ _ a b], frS_tr (cl1_f _ _ _ _) q8⟩
    · rw [step]; exact q1
    · cases e
      rw [q4 L (by omega), cl1_7]
