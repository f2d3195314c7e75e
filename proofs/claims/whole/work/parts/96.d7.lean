/-! ### jumps that wait for their aim -/
def CODEP (e L0 L1 : Nat) (pd : Nat → Nat) (z1 : Nat × Bool) (σ τ : jS) : Prop := ∃ (cd : Nat → Nat × Nat) (ty : Nat → Nat × Bool), ty L0 = (0, false) ∧ ty L1 = z1 ∧ (∀ i, L0 ≤ i → i ≤ L1 → (ty i).1 < 32) ∧ ∀ j, L0 ≤ j → j < L1 → ((pd j = 0 ∧ codeR cd (σ (e + 1) j) (τ 7 j) j ∧ stepW (cd j).1 (cd j).2 j L1 ty) ∨ ((pd j = 3 ∨ pd j = 4) ∧ (∃ a, a < 100000 ∧ σ (e + 1) j = nI (16 * a + pd j)) ∧ τ 7 j = nI (1048576 * opM (pd j)) ∧ ty j = (0, true) ∧ ty (j + 1) = (0, false)))
theorem CODEP_of {e L0 L1 : Nat} {z1 : Nat × Bool} {σ τ : jS} (h : CODE e L0 L1 (0, false) z1 σ τ) : CODEP e L0 L1 (fun _ => 0) z1 σ τ := by
  obtain ⟨cd, h1, ty, h2, h3, h4, h5⟩ := h
  exact ⟨cd, ty, h2, h3, h4, fun j a b => Or.inl ⟨rfl, h1 j a b, h5 j a b⟩⟩
theorem CODEP_done {e L0 L1 : Nat} {pd : Nat → Nat} {z1 : Nat × Bool} {σ τ : jS} (h : CODEP e L0 L1 pd z1 σ τ) (hp : ∀ j, pd j = 0) : CODE e L0 L1 (0, false) z1 σ τ := by
  obtain ⟨cd, ty, h2, h3, h4, h5⟩ := h
  refine ⟨cd, fun j a b => ?_, ty, h2, h3, h4, fun j a b => ?_⟩
  · rcases h5 j a b with ⟨_, q, _⟩ | ⟨q, _⟩
    · exact q
    · rw [hp j] at q; omega
  · rcases h5 j a b with ⟨_, _, q⟩ | ⟨q, _⟩
    · exact q
    · rw [hp j] at q; omega
theorem CODEP_keep {e L0 L1 : Nat} {pd pd' : Nat → Nat} {z1 : Nat × Bool} {σ σ' τ τ' : jS} (h : CODEP e L0 L1 pd z1 σ τ) (k : ∀ j, L0 ≤ j → j < L1 → σ' (e + 1) j = σ (e + 1) j ∧ τ' 7 j = τ 7 j) (hp : ∀ j, L0 ≤ j → j < L1 → pd' j = pd j) : CODEP e L0 L1 pd' z1 σ' τ' := by
  obtain ⟨cd, ty, h2, h3, h4, h5⟩ := h
  refine ⟨cd, ty, h2, h3, h4, fun j a b => ?_⟩
  rw [(k j a b).1, (k j a b).2, hp j a b]
  exact h5 j a b
/-- a jump that waited is aimed at the end -/
theorem CODEP_land {e L0 L1 : Nat} {pd : Nat → Nat} {σ σ' τ τ' : jS} (h : CODEP e L0 L1 pd (0, true) σ τ) {q op : Nat} (hq : L0 ≤ q ∧ q < L1) (ho : pd q = op) (h34 : op = 3 ∨ op = 4) (hL : L1 < 100000) (hx : σ' (e + 1) q = nI (16 * L1 + op)) (hy : τ' 7 q = nI (1048576 * opM op + L1)) (k : ∀ j, j ≠ q → σ' (e + 1) j = σ (e + 1) j ∧ τ' 7 j = τ 7 j) : CODEP e L0 L1 (updN pd q 0) (0, true) σ' τ' := by
  obtain ⟨cd, ty, h2, h3, h4, h5⟩ := h
  refine ⟨fun j => if j = q then (op, L1) else cd j, ty, h2, h3, h4, fun j a b => ?_⟩
  by_cases c : j = q
  · subst c
    left
    rcases h5 j a b with ⟨q0, _⟩ | ⟨_, _, _, t0, t1⟩
    · omega
    · refine ⟨updN_s _ _ _, ?_, ?_⟩
      · unfold codeR
        simp only [if_true]
        exact ⟨by omega, hL, hx, hy⟩
      · simp only [if_true]
        exact Or.inr (Or.inr (Or.inl ⟨h34, by rw [t0], by rw [t1, t0], b, Nat.le_refl _, by rw [h3, t0]⟩))
  · rw [updN_n _ _ c, (k j c).1, (k j c).2]
    rcases h5 j a b with ⟨q0, q1, q2⟩ | q
    · left
      refine ⟨q0, ?_, ?_⟩
      · unfold codeR at q1 ⊢
        simp only [if_neg c]
        exact q1
      · simp only [if_neg c]
        exact q2
    · exact Or.inr q
/-- a jump is written, its aim to come -/
theorem CODEP_jump {e L0 L1 : Nat} {pd : Nat → Nat} {σ σ' τ τ' : jS} (h : CODEP e L0 L1 pd (0, true) σ τ) (h01 : L0 ≤ L1) {op a : Nat} (h34 : op = 3 ∨ op = 4) (ha : a < 100000) (hx : σ' (e + 1) L1 = nI (16 * a + op)) (hy : τ' 7 L1 = nI (1048576 * opM op)) (k : ∀ j, j < L1 → σ' (e + 1) j = σ (e + 1) j ∧ τ' 7 j = τ 7 j) : CODEP e L0 (L1 + 1) (updN pd L1 op) (0, false) σ' τ' := by
  obtain ⟨cd, ty, h2, h3, h4, h5⟩ := h
  refine ⟨cd, fun i => if i ≤ L1 then ty i else (0, false), by simp only [if_pos h01]; exact h2, by simp only [if_neg (show ¬ L1 + 1 ≤ L1 by omega)], fun i a b => ?_, fun j a b => ?_⟩
  · by_cases c : i ≤ L1
    · simp only [if_pos c]; exact h4 i a c
    · simp only [if_neg c]; decide
  · by_cases c : j = L1
    · subst c
      right
      rw [updN_s]
      exact ⟨h34, ⟨_, ha, hx⟩, hy, by simp only [if_pos (Nat.le_refl j)]; exact h3, by simp only [if_neg (show ¬ j + 1 ≤ j by omega)]⟩
    · rw [updN_n _ _ c, (k j (by omega)).1, (k j (by omega)).2]
      rcases h5 j a (by omega) with ⟨q0, q1, q2⟩ | ⟨q0, q1, q2, q3, q4⟩
      · left
        refine ⟨q0, q1, stepW_mono q2 (by omega) ?_ ?_ (fun _ k2 => ?_)⟩
        · simp only [if_pos (show j ≤ L1 by omega)]
        · simp only [if_pos (show j + 1 ≤ L1 by omega)]
        · simp only [if_pos k2]
      · right
        exact ⟨q0, q1, q2, by simp only [if_pos (show j ≤ L1 by omega)]; exact q3, by simp only [if_pos (show j + 1 ≤ L1 by omega)]; exact q4⟩
theorem CODEP_cat {e L0 L1 L2 : Nat} {pd : Nat → Nat} {z2 : Nat × Bool} {σ σ' τ τ' : jS} (h : CODEP e L0 L1 pd (0, false) σ τ) (g : CODE e L1 L2 (0, false) z2 σ' τ') (h01 : L0 ≤ L1) (h12 : L1 ≤ L2) (hp : ∀ j, L1 ≤ j → pd j = 0) (k : ∀ j, L0 ≤ j → j < L1 → σ' (e + 1) j = σ (e + 1) j ∧ τ' 7 j = τ 7 j) : CODEP e L0 L2 pd z2 σ' τ' := by
  obtain ⟨cd, ty, h2, h3, h4, h5⟩ := h
  obtain ⟨ce, g1, uy, g2, g3, g4, g5⟩ := g
  have hu : ∀ j, L1 ≤ j → (if j ≤ L1 then ty j else uy j) = uy j := fun j hj => by
    by_cases e : j ≤ L1
    · have e2 : j = L1 := by omega
      subst e2
      rw [if_pos e, h3, g2]
    · rw [if_neg e]
  refine ⟨fun j => if j < L1 then cd j else ce j, fun i => if i ≤ L1 then ty i else uy i, by simp only [if_pos h01]; exact h2, by show (if L2 ≤ L1 then ty L2 else uy L2) = z2; rw [hu L2 h12]; exact g3, fun i a b => ?_, fun j a b => ?_⟩
  · by_cases c : i ≤ L1
    · simp only [if_pos c]; exact h4 i a c
    · simp only [if_neg c]; exact g4 i (by omega) b
  · by_cases c : j < L1
    · rw [(k j a c).1, (k j a c).2]
      rcases h5 j a c with ⟨q0, q1, q2⟩ | ⟨q0, q1, q2, q3, q4⟩
      · left
        refine ⟨q0, ?_, ?_⟩
        · unfold codeR at q1 ⊢
          simp only [if_pos c]
          exact q1
        · simp only [if_pos c]
          refine stepW_mono q2 h12 ?_ ?_ (fun _ k2 => ?_)
          · simp only [if_pos (show j ≤ L1 by omega)]
          · simp only [if_pos (show j + 1 ≤ L1 by omega)]
          · simp only [if_pos k2]
      · right
        exact ⟨q0, q1, q2, by simp only [if_pos (show j ≤ L1 by omega)]; exact q3, by simp only [if_pos (show j + 1 ≤ L1 by omega)]; exact q4⟩
    · left
      have q1 := g1 j (by omega) b
      refine ⟨hp j (by omega), ?_, ?_⟩
      · unfold codeR at q1 ⊢
        simp only [if_neg c]
        exact q1
      · simp only [if_neg c]
        exact stepW_mono (g5 j (by omega) b) (Nat.le_refl L2) (hu j (by omega)) (hu (j + 1) (by omega)) (fun k2 _ => hu _ (by omega))
/-! ### the stack of a case: a jump if true, and a jump if false behind it -/
def pdJ (jt jf : Option Nat) : Nat → Nat := fun j => if jt = some j then 3 else if jf = some j then 4 else 0
def pJ (h : Nat) (jt jf : Option Nat) (τ : jS) : Prop := τ 0 13 = nI (h + cn jt + cn jf) ∧ (∀ j, jt = some j → τ 8 h = nI (1048576 * 12 + j)) ∧ ∀ j, jf = some j → τ 8 (h + cn jt) = nI (1048576 * 11 + j)
def topO (h : Nat) (τ : jS) : Prop := ∃ h' a, h = h' + 1 ∧ a < 100000 ∧ τ 8 h' = nI (1048576 * 13 + a)
def ld1 (τ : jS) (j w L h : Nat) : jS := js (js τ 7 j (nI (1048576 * w + L))) 0 13 (nI h)
theorem ld_pop (F N : Nat) {τ : jS} {h j w ow L : Nat} (e13 : τ 0 13 = nI (h + 1)) (hh : h < 260) (hj : j < 260) (e8 : τ 8 h = nI (1048576 * w + j)) (e7 : τ 7 j = nI (1048576 * ow)) (how : ow < 16) (e12 : τ 0 12 = nI L) (hL : L < 100000) (x : Int32) (hw : w = 11 ∨ (w = 12 ∧ x ≠ 0)) :
    lp_X12_lands_0 F (N + 1) x τ = lp_X12_lands_0 F N x (ld1 τ j ow L h) := by
  have e7' : τ 7 j = nI (1048576 * ow + 0) := e7
  have e22 : jn_X12_lands_22 F (lp_X12_lands_0 F N) x τ = lp_X12_lands_0 F N x (ld1 τ j ow L h) := by
    unfold jn_X12_lands_22
    rw [e13, show nI (h + 1) - (1 : Int32) = nI h by rw [show (1 : Int32) = nI 1 from rfl, pk_sub (a := h + 1) (b := 1) (by omega)]; rfl]
    simp only [ltE, jin_nI hh (show 260 < 2 ^ 31 by omega), if_true, nI_clamp (show h < 2 ^ 31 by omega), e8, cm_arg (show w < 16 by omega) (show j < 100000 by omega), jin_nI hj (show 260 < 2 ^ 31 by omega), nI_clamp (show j < 2 ^ 31 by omega), e7', cm_op how (show 0 < 100000 by omega), e12, js_c _ _ _ (show (0 : Nat) ≠ 7 by omega), e13]
    rw [show (1048576 : Int32) * nI ow + nI L = nI (1048576 * ow + L) by rw [show (1048576 : Int32) = nI 1048576 from rfl, pk_mul, nI_add], show nI (h + 1) - (1 : Int32) = nI h by rw [show (1 : Int32) = nI 1 from rfl, pk_sub (a := h + 1) (b := 1) (by omega)]; rfl]
    rfl
  rw [lp_X12_lands_0, m_top F e13 hh (by omega) (by omega) e8]
  simp only [Option.bind_some]
  rcases hw with rfl | ⟨rfl, hx⟩
  · rw [if_pos (show nI 11 = (11 : Int32) from rfl)]; exact e22
  · rw [if_neg (show ¬ nI 12 = (11 : Int32) by decide), if_neg hx, if_pos (show nI 12 = (12 : Int32) from rfl)]; exact e22
theorem ld_stop (F N : Nat) {τ : jS} {h a w : Nat} (e13 : τ 0 13 = nI (h + 1)) (hh : h < 260) (ha : a < 100000) (hw : w < 16) (e8 : τ 8 h = nI (1048576 * w + a)) (x : Int32) (hne : w ≠ 11 ∧ (w = 12 → x = 0)) : lp_X12_lands_0 F (N + 1) x τ = some τ := by
  rw [lp_X12_lands_0, m_top F e13 hh hw ha e8]
  simp only [Option.bind_some]
  rw [if_neg (show ¬ nI w = (11 : Int32) from fun e => hne.1 (nI_inj (b := 11) (by omega) (by omega) e))]
  by_cases c : x = 0
  · rw [if_pos c]
  · rw [if_neg c, if_neg (show ¬ nI w = (12 : Int32) from fun e => c (hne.2 (nI_inj (b := 12) (by omega) (by omega) e)))]
theorem ld1_7 (τ : jS) (j w L h : Nat) : ld1 τ j w L h 7 j = nI (1048576 * w + L) := by unfold ld1; rw [js_c _ _ _ (by omega), js_at]
theorem ld1_7n (τ : jS) (j w L h : Nat) {q : Nat} (hq : q ≠ j) : ld1 τ j w L h 7 q = τ 7 q := by unfold ld1; rw [js_c _ _ _ (by omega), js_k _ _ hq]
theorem ld1_h (τ : jS) (j w L h : Nat) : ld1 τ j w L h 0 13 = nI h := by unfold ld1; rw [js_at]
theorem ld1_0 (τ : jS) (j w L h : Nat) {k : Nat} (hk : k ≠ 13) : ld1 τ j w L h 0 k = τ 0 k := by unfold ld1; rw [js_k _ _ hk, js_c _ _ _ (by omega)]
theorem ld1_8 (τ : jS) (j w L h : Nat) : ld1 τ j w L h 8 = τ 8 := by unfold ld1; rw [js_c _ _ _ (by omega), js_c _ _ _ (by omega)]
theorem ld1_f (τ : jS) (j w L h : Nat) : frS τ (ld1 τ j w L h) := frS_tr (frS_c _ _ _ (Or.inl rfl)) (frS_js _ _ (Or.inr ⟨by omega, by omega⟩))
theorem ld1_tp {B : Nat → Nat} {n i : Nat} {τ : jS} (hM : tpM B n i τ) (j w L h : Nat) : tpM B n i (ld1 τ j w L h) := tpM_js (tpM_cell hM _ _ (by omega) (by omega)) _ (by omega) (by omega)
/-- the class aims a jump that waits, or none -/
theorem x_aimO (F : Nat) {e : Nat} (he : eL e) {σ : jS} {L : Nat} (h5 : σ e 5 = nI L) {jo : Option Nat} {op : Nat} (hj : ∀ j, jo = some j → j < 240) (hop : op < 16) (hc : ∀ j, jo = some j → ∃ a, a < 100000 ∧ σ (e + 1) j = nI (16 * a + op)) : ∃ σ', mX3_aim F e (xO jo) σ = some σ' ∧ (∀ j, jo = some j → σ' (e + 1) j = nI (16 * L + op)) ∧ (∀ q, jo ≠ some q → σ' (e + 1) q = σ (e + 1) q) ∧ σ' e = σ e ∧ frC e σ σ' ∧ σ' 1 = σ 1 := by
  cases jo with
  | none => exact ⟨σ, x_laim0 F e σ, fun j e => (by cases e), fun _ _ => rfl, rfl, frC_rf e σ, rfl⟩
  | some j =>
    obtain ⟨σ', a1, a2, a3, a4, a5, a6⟩ := x_laim F he (σ := σ) (hj j rfl)
    obtain ⟨a, ha, ec⟩ := hc j rfl
    refine ⟨σ', a1, fun j' e => ?_, fun q hq => a3 q (fun e => hq (by rw [e])), a4, a5, a6⟩
    cases e
    rw [a2, h5, ec, cd_op hop ha, show (16 : Int32) = nI 16 from rfl, pk_mul, nI_add, Nat.mul_comm L 16]
