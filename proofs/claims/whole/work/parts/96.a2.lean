/-! ===== routine: a piece, in both ===== -/
def zK (F : Nat) : Int32 → Int32 → jS → Option (Int32 × jS) := fun x1_9 x3_9 σ9 => (jn_X12_routine_80 F x1_9 x3_9 σ9)
def zH (F : Nat) : jS → Option (Int32 × jS) := fun σ14 => (lt (σ14 0 35) fun y15 => (lt (σ14 0 36) fun y16 => (Option.bind (mX12_here F σ14) fun q17 => (Option.bind (mX12_doingBy F q17 σ14) fun q18 => (if q18 = (-1 : Int32) then (Option.bind (mX12_wrongAt F (1 : Int32) ((σ14 0 7)) σ14) fun q19 => (if jbo q19.1 = true then some (q19.1, q19.2) else none)) else (if (24 : Int32) < ((σ14 0 33) + y16) then (Option.bind (mX12_wrongAt F (6 : Int32) y15 σ14) fun q21 => (if jbo q21.1 = true then some (q21.1, q21.2) else none)) else (if jin (σ14 0 33) 24 = true then (lt (js σ14 20 (σ14 0 33).toNatClampNeg q18) fun σ23 => (lt (js σ23 0 7 ((σ23 0 7) + (1 : Int32))) fun σ25 => (lt (js σ25 0 33 ((σ25 0 33) + (1 : Int32))) fun σ26 => (Option.bind (mX12_repeats F (((σ26 0 33) - (1 : Int32))) y16 y15 σ26) fun q27 => (if q27.1 = 0 then some ((0 : Int32), q27.2) else (lp_X12_readsHour_196 F F q27.2)))))) else none)))))))
def Z0 (F : Nat) (p : Int32) (M : Nat) (b : Int32) (τ : jS) : Option (Int32 × jS) := lp_X12_routine_50 F (zK F) M p b τ
def Z1 (F : Nat) (p : Int32) (M m : Nat) (τ : jS) : Option (Int32 × jS) := Option.bind (lp_X12_readsHour_4 F (zH F) m τ) fun q => Z0 F p M q.1 q.2
def Z2 (F : Nat) (p : Int32) (M m : Nat) (τ : jS) : Option (Int32 × jS) := Option.bind (lp_X12_readsHour_196 F m τ) fun q => Z0 F p M q.1 q.2
def Zw (F : Nat) (p : Int32) (M m : Nat) (τ : jS) : Option (Int32 × jS) := Option.bind (mX12_readsTimes F τ) fun q => Z1 F p M m q
theorem Z0_0 (F : Nat) (p : Int32) (M : Nat) (τ : jS) : Z0 F p (M + 1) 0 τ = jn_X12_routine_80 F p 0 τ := by
  unfold Z0
  rw [lp_X12_routine_50, if_pos rfl]
  rfl
theorem Z0_hour (F : Nat) (p : Int32) (M : Nat) (τ : jS) (h : τ 0 7 < τ 0 8 ∨ 0 < τ 0 34) : Z0 F p (M + 1) 1 τ = Zw F p M F τ := by
  unfold Z0
  have e : (Option.bind (mX12_readsHour F τ) fun q7 => lp_X12_routine_50 F (zK F) M p q7.1 q7.2) = Zw F p M F τ := by
    unfold Zw Z1 Z0
    show (Option.bind (Option.bind (mX12_readsTimes F τ) fun q1 => lp_X12_readsHour_4 F (zH F) F q1) fun q7 => lp_X12_routine_50 F (zK F) M p q7.1 q7.2) = _
    cases mX12_readsTimes F τ <;> rfl
  rw [lp_X12_routine_50, if_neg (show ¬ (1 : Int32) = 0 by decide)]
  by_cases c : τ 0 7 < τ 0 8
  · rw [if_pos c]; exact e
  · rw [if_neg c, if_pos (h.resolve_left c)]; exact e
theorem Z0_end (F : Nat) (p : Int32) (M : Nat) (τ : jS) (h : ¬ τ 0 7 < τ 0 8) (h2 : ¬ 0 < τ 0 34) : Z0 F p (M + 1) 1 τ = jn_X12_routine_80 F p 1 τ := by
  unfold Z0
  rw [lp_X12_routine_50, if_neg (show ¬ (1 : Int32) = 0 by decide), if_neg h, if_neg h2]
  rfl
def sR (k : Nat) : Prop := k = 7 ∨ k = 9 ∨ (33 ≤ k ∧ k ≤ 36)
def frR (τ τ' : jS) : Prop := (∀ d, d ≠ 0 → (d < 20 ∨ 24 ≤ d) → τ' d = τ d) ∧ ∀ k, ¬ sR k → τ' 0 k = τ 0 k
theorem frR_rf (τ : jS) : frR τ τ := ⟨fun _ _ _ => rfl, fun _ _ => rfl⟩
theorem frR_tr {a b c : jS} (h : frR a b) (g : frR b c) : frR a c := ⟨fun d hd h2 => (g.1 d hd h2).trans (h.1 d hd h2), fun d hd => (g.2 d hd).trans (h.2 d hd)⟩
theorem frR_js (τ : jS) {k : Nat} (v : Int32) (hk : sR k) : frR τ (js τ 0 k v) := ⟨fun d hd _ => js_c _ _ _ hd, fun j hj => js_k _ _ (fun e => hj (by rw [e]; exact hk))⟩
theorem frR_c (τ : jS) {c : Nat} (k : Nat) (v : Int32) (hc : 20 ≤ c ∧ c < 24) : frR τ (js τ c k v) := ⟨fun d _ hd => js_c _ _ _ (by omega), fun j _ => by rw [js_c _ _ _ (by omega)]⟩
def frH (σ σ' : jS) : Prop := ∀ d, d ≠ 1 → d ≠ 33 → d ≠ 36 → σ' d = σ d
theorem frH_tr {a b c : jS} (h : frH a b) (g : frH b c) : frH a c := fun d h1 h2 h3 => (g d h1 h2 h3).trans (h d h1 h2 h3)
theorem frH_of {a b : jS} (h : frm a b) : frH a b := fun d h1 _ _ => h d h1
/-- the rounds that stand open below stay as they are -/
def stk (o : Nat) (τ τ' : jS) : Prop := ∀ j, j < o → τ' 21 j = τ 21 j ∧ τ' 22 j = τ 22 j ∧ τ' 23 j = τ 23 j
theorem stk_tr {o : Nat} {a b c : jS} (h : stk o a b) (g : stk o b c) : stk o a c := fun j hj => ⟨(g j hj).1.trans (h j hj).1, (g j hj).2.1.trans (h j hj).2.1, (g j hj).2.2.trans (h j hj).2.2⟩
def hrR (L : Nat) (σ τ : jS) : Prop := L ≤ 24 ∧ σ 33 4 = nI L ∧ τ 0 33 = nI L ∧ ∀ j, j < L → σ 36 j = τ 20 j ∧ ∃ d, d < 7 ∧ τ 20 j = nI d
def rtR (B : Nat → Nat) (n i L o : Nat) (σ τ : jS) : Prop := tpX B n i 0 σ ∧ tpM B n i τ ∧ hrR L σ τ ∧ τ 0 34 = nI o
/-- what comes of a stretch of text -/
def oR (F : Nat) (p : Int32) (B : Nat → Nat) (n i L o M : Nat) (good : Nat → Prop) (σ τ : jS) (rx : Option jS) (E : Option (Int32 × jS)) : Prop :=
  ∃ σ', rx = some σ' ∧ frH σ σ' ∧ ((∃ i' f τ', f ≠ 0 ∧ tpX B n i' f σ' ∧ E = jn_X12_routine_80 F p 0 τ' ∧ τ' 0 9 = f ∧ frR τ τ') ∨ (∃ i' L' M' m' τ', i < i' ∧ L < L' ∧ good i' ∧ M + i + 1 ≤ M' + i' ∧ F ≤ m' + (2 - o) ∧ E = Z2 F p M' m' τ' ∧ rtR B n i' L' o σ' τ' ∧ frR τ τ' ∧ stk o τ τ'))
theorem hr_fr {L : Nat} {σ σ' τ τ' : jS} (h : hrR L σ τ) (h1 : frm σ σ') (h2 : τ' 0 33 = τ 0 33) (h3 : τ' 20 = τ 20) : hrR L σ' τ' := by
  obtain ⟨q1, q2, q3, q4⟩ := h
  exact ⟨q1, by rw [h1 33 (by omega)]; exact q2, by rw [h2]; exact q3, fun j hj => by rw [h1 36 (by omega), h3]; exact q4 j hj⟩
/-- how many times: the digit ahead of a piece -/
theorem s_times (F : Nat) {B : Nat → Nat} {n i L o : Nat} {σ τ : jS} (h : rtR B n i L o σ τ) (g : Int32 → jS → Option jS) (x1 : Int32) :
    ∃ T i1 σ1 τ1, 1 ≤ T ∧ T ≤ 9 ∧ i ≤ i1 ∧ bX8_readPiece F g x1 σ = jn_X8_readPiece_52 F g x1 (nI i) (nI T) σ1 ∧ mX12_readsTimes F τ = some τ1 ∧ rtR B n i1 L o σ1 τ1 ∧ frm σ σ1 ∧ frR τ τ1 ∧ stk o τ τ1 ∧ τ1 0 35 = nI i ∧ τ1 0 36 = nI T := by
  obtain ⟨hX, hM, hH, hO⟩ := h
  have hB := hX.1
  have hb := hB i
  unfold bX8_readPiece mX12_readsTimes
  rw [hX.2.2.1, hX.2.2.2.1, hM.1]
  simp only [ltE]
  have hM2 : tpM B n i (js (js τ 0 35 (nI i)) 0 36 1) := tpM_js (tpM_js hM _ (by omega) (by omega)) _ (by omega) (by omega)
  rw [m_here F hM2]
  simp only [Option.bind_some, isI]
  have f2 : frR τ (js (js τ 0 35 (nI i)) 0 36 1) := frR_tr (frR_js _ _ (Or.inr (Or.inr ⟨by omega, by omega⟩))) (frR_js _ _ (Or.inr (Or.inr ⟨by omega, by omega⟩)))
  have s2 : stk o τ (js (js τ 0 35 (nI i)) 0 36 1) := fun j _ => by rw [js_c _ _ _ (by omega), js_c _ _ _ (by omega), js_c _ _ _ (by omega), js_c _ _ _ (by omega), js_c _ _ _ (by omega), js_c _ _ _ (by omega)]; exact ⟨rfl, rfl, rfl⟩
  have e1 := sg_lt hB n i (c := 50) (by omega)
  have e2 := sg_gt hB n i (c := 57) (by omega)
  have e1' : (sg B n i < (50 : Int32)) = (sg B n i < nI 50) := rfl
  have e2' : ((57 : Int32) < sg B n i) = (nI 57 < sg B n i) := rfl
  by_cases c : i < n ∧ 50 ≤ B i ∧ B i ≤ 57
  · have n1 : ¬ sg B n i < (50 : Int32) := by rw [e1', e1]; omega
    have n2 : ¬ (57 : Int32) < sg B n i := by rw [e2', e2]; omega
    have ei : inr (sg B n i) 50 57 = 1 := by unfold inr; rw [if_neg n1, if_neg n2]
    rw [if_neg n1, if_neg n2, ei, if_neg (show ¬ (1 : Int32) = 0 by decide)]
    have eT : sg B n i - 48 = nI (B i - 48) := by
      unfold sg
      rw [if_pos c.1, show (48 : Int32) = nI 48 from rfl, pk_sub (a := B i) (b := 48) (by omega)]
    obtain ⟨σ1, a1, a2, a3⟩ := x_step1 F hX c.1
    rw [a1, eT]
    simp only [Option.bind_some]
    have hM3 : tpM B n i (js (js (js τ 0 35 (nI i)) 0 36 1) 0 36 (nI (B i - 48))) := tpM_js hM2 _ (by omega) (by omega)
    have hM4 := tpM_step hM3 c.1
    refine ⟨B i - 48, i + 1, σ1, _, by omega, by omega, by omega, rfl, rfl, ⟨a2, hM4, hr_fr hH a3 ?_ ?_, ?_⟩, a3, ?_, ?_, ?_, ?_⟩
    · rw [js_k _ _ (by omega), js_k _ _ (by omega), js_k _ _ (by omega), js_k _ _ (by omega)]
    · rw [js_c _ _ _ (by omega), js_c _ _ _ (by omega), js_c _ _ _ (by omega), js_c _ _ _ (by omega)]
    · rw [js_k _ _ (by omega), js_k _ _ (by omega), js_k _ _ (by omega), js_k _ _ (by omega)]; exact hO
    · exact frR_tr f2 (frR_tr (frR_js _ _ (Or.inr (Or.inr ⟨by omega, by omega⟩))) (frR_js _ _ (Or.inl rfl)))
    · refine stk_tr s2 (fun j _ => ?_)
      rw [js_c _ _ _ (by omega), js_c _ _ _ (by omega), js_c _ _ _ (by omega), js_c _ _ _ (by omega), js_c _ _ _ (by omega), js_c _ _ _ (by omega)]
      exact ⟨rfl, rfl, rfl⟩
    · rw [js_k _ _ (by omega), js_k _ _ (by omega), js_k _ _ (by omega), js_at]
    · rw [js_k _ _ (by omega), js_at]
  · have hc : sg B n i < (50 : Int32) ∨ (¬ sg B n i < (50 : Int32) ∧ (57 : Int32) < sg B n i) := by
      rw [e1', e2', e1, e2]; omega
    have ei : inr (sg B n i) 50 57 = 0 := by
      unfold inr
      rcases hc with q | ⟨q1, q2⟩
      · rw [if_pos q]
      · rw [if_neg q1, if_pos q2]
    rw [ei, if_pos rfl]
    refine ⟨1, i, σ, _, by omega, by omega, by omega, ?_, rfl, ⟨hX, hM2, hr_fr hH (frm_rf σ) ?_ ?_, ?_⟩, frm_rf σ, f2, s2, ?_, ?_⟩
    · rcases hc with q | ⟨q1, q2⟩
      · rw [if_pos q]; rfl
      · rw [if_neg q1, if_pos q2]; rfl
    · rw [js_k _ _ (by omega), js_k _ _ (by omega)]
    · rw [js_c _ _ _ (by omega), js_c _ _ _ (by omega)]
    · rw [js_k _ _ (by omega), js_k _ _ (by omega)]; exact hO
    · rw [js_k _ _ (by omega), js_at]
    · rw [js_at]; rfl
/-- the hours of a piece come again, in both: class first, with its length afterwards -/
theorem rep_hr {σ σ' τ τ' : jS} {L0 U T : Nat} (hX : rI σ L0 U (L0 + T * (U - L0)) σ') (hL : L0 < U) (hT : 1 ≤ T) (h24 : L0 + T * (U - L0) ≤ 24) (hm : τ' 0 33 = nI (L0 + T * (U - L0))) (hv : ∀ j, j < L0 + T * (U - L0) → τ' 20 j = rV (τ 20) L0 U j) (hU : ∀ j, j < U → σ 36 j = τ 20 j ∧ ∃ d, d < 7 ∧ τ 20 j = nI d) : hrR (L0 + T * (U - L0)) σ' τ' := by
  obtain ⟨q1, q2, q3⟩ := hX
  refine ⟨h24, q1, hm, fun j hj => ?_⟩
  rw [q3 j (by omega) hj, hv j hj]
  unfold rV
  by_cases c : j < U
  · rw [if_pos c, if_pos c]; exact hU j c
  · rw [if_neg c, if_neg c]
    have := Nat.mod_lt (j - L0) (show 0 < U - L0 by omega)
    exact hU _ (by omega)
/-- behind a piece of the class: the hours come again, and the day may be too long -/
theorem x_r82 (F : Nat) (hF : 40 ≤ F) {B : Nat → Nat} {n i : Nat} {σ : jS} (hX : tpX B n i 0 σ) {L0 U T i0 : Nat} (h : σ 33 4 = nI U) (hU : U ≤ 25) (hL : L0 < U) (hT : 1 ≤ T) (hT9 : T ≤ 9) (g : Int32 → jS → Option jS) :
    ∃ σ1, rI σ L0 U (L0 + T * (U - L0)) σ1 ∧ ((L0 + T * (U - L0) ≤ 24 ∧ jn_X8_readPiece_82 F g (nI i0) (nI T) (nI L0) σ = some σ1 ∧ tpX B n i 0 σ1) ∨ (24 < L0 + T * (U - L0) ∧ ∃ σ2, jn_X8_readPiece_82 F g (nI i0) (nI T) (nI L0) σ = some σ2 ∧ tpX B n i (flt 6 i0) σ2 ∧ frm σ1 σ2)) := by
  have hbig : T * (U - L0) ≤ 9 * 25 := Nat.mul_le_mul hT9 (by omega)
  obtain ⟨σ1, a1, a2⟩ := x_repeat F (by omega) h hU hL hT hT9
  have hX1 : tpX B n i 0 σ1 := by
    obtain ⟨hB, h2, h3, h4, h5, h1, hi, hn, hb⟩ := hX
    refine ⟨hB, ?_, ?_, ?_, ?_, ?_, hi, hn, ?_⟩
    · rw [a2.2.1 1 (by omega) (by omega)]; exact h2
    · rw [a2.2.1 1 (by omega) (by omega)]; exact h3
    · rw [a2.2.1 1 (by omega) (by omega)]; exact h4
    · rw [a2.2.1 1 (by omega) (by omega)]; exact h5
    · rw [a2.2.1 1 (by omega) (by omega)]; exact h1
    · rw [a2.2.1 2 (by omega) (by omega)]; exact hb
  refine ⟨σ1, a2, ?_⟩
  unfold jn_X8_readPiece_82
  rw [hX.2.2.2.2.1, if_pos rfl, a1]
  simp only [Option.bind_some, a2.1]
  by_cases c : 24 < L0 + T * (U - L0)
  · right
    refine ⟨c, ?_⟩
    obtain ⟨σ2, b1, b2, b3⟩ := x_fail0 F hX1 6 i0
    have b1' : mX10_fail F (6 : Int32) (nI i0) σ1 = some σ2 := b1
    rw [if_pos (show (24 : Int32) < nI (L0 + T * (U - L0)) from nI_lt (a := 24) c (by omega)), b1']
    exact ⟨σ2, rfl, b2, b3⟩
  · left
    rw [if_neg (show ¬ (24 : Int32) < nI (L0 + T * (U - L0)) from nI_nlt (a := 24) (by omega) (by omega))]
    exact ⟨by omega, rfl, hX1⟩
theorem frH_rI {σ σ' : jS} {L0 U p : Nat} (h : rI σ L0 U p σ') : frH σ σ' := fun d _ h2 h3 => h.2.1 d h2 h3
theorem x_r82D (F : Nat) {B : Nat → Nat} {n i : Nat} {f : Int32} {σ : jS} (hX : tpX B n i f σ) (hf : f ≠ 0) (g : Int32 → jS → Option jS) (a b c : Int32) : jn_X8_readPiece_82 F g a b c σ = some σ := by
  unfold jn_X8_readPiece_82
  rw [hX.2.2.2.2.1, if_neg hf]
