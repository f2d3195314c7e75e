/-! ===== law: a rule ===== -/
def frV (e : Nat) (σ σ' : jS) : Prop := ∀ d, d ≠ 1 → (d < e ∨ e + 6 ≤ d) → σ' d = σ d
theorem frV_tr {e : Nat} {a b c : jS} (h : frV e a b) (g : frV e b c) : frV e a c := fun d h1 h2 => (g d h1 h2).trans (h d h1 h2)
theorem frV_of {e : Nat} {a b : jS} (h : frC e a b) : frV e a b := fun d h1 h2 => h.1 d h1 (by omega) (by omega)
theorem frV_m {e : Nat} {a b : jS} (h : frm a b) : frV e a b := fun d h1 _ => h d h1
def sQ (k : Nat) : Prop := k = 7 ∨ (9 ≤ k ∧ k ≤ 14)
def frQ (τ τ' : jS) : Prop := (∀ d, d ≠ 0 → (d < 7 ∨ 13 ≤ d) → τ' d = τ d) ∧ ∀ k, ¬ sQ k → τ' 0 k = τ 0 k
theorem frQ_rf (τ : jS) : frQ τ τ := ⟨fun _ _ _ => rfl, fun _ _ => rfl⟩
theorem frQ_tr {a b c : jS} (h : frQ a b) (g : frQ b c) : frQ a c := ⟨fun d h1 h2 => (g.1 d h1 h2).trans (h.1 d h1 h2), fun k hk => (g.2 k hk).trans (h.2 k hk)⟩
theorem frQ_of {a b : jS} (h : frS a b) : frQ a b := ⟨fun d h1 h2 => h.1 d h1 (by omega) (by omega), fun k hk => h.2 k (fun g => hk (by unfold sQ; unfold sS at g; omega))⟩
theorem frQ_js (τ : jS) {k : Nat} (v : Int32) (hk : sQ k) : frQ τ (js τ 0 k v) := ⟨fun d hd _ => js_c _ _ _ hd, fun j hj => js_k _ _ (fun e => hj (by rw [e]; exact hk))⟩
theorem frQ_c (τ : jS) {c : Nat} (k : Nat) (v : Int32) (hc : 7 ≤ c ∧ c < 13) : frQ τ (js τ c k v) := ⟨fun d _ h1 => js_c _ _ _ (by omega), fun j _ => by rw [js_c _ _ _ (by omega)]⟩
theorem x_addRule (F : Nat) {e : Nat} (he : eL e) {σ : jS} {z : Nat} (hz : σ e 6 = nI z) (hz16 : z < 16) (k s h : Int32) : ∃ σ', mX3_addRule F e k s h σ = some σ' ∧ σ' e 6 = nI (z + 1) ∧ σ' e 5 = σ e 5 ∧ σ' (e + 1) = σ (e + 1) ∧ σ' (e + 2) z = k ∧ σ' (e + 3) z = s ∧ σ' (e + 4) z = h ∧ σ' (e + 5) z = σ e 5 ∧ (∀ c j, e + 2 ≤ c → c ≤ e + 5 → j ≠ z → σ' c j = σ c j) ∧ ∀ d, (d < e ∨ e + 6 ≤ d) → σ' d = σ d := by
  unfold mX3_addRule
  rw [hz, if_pos (lt16 hz16)]
  simp only [ltE, js_c _ _ _ (show e ≠ e + 2 by omega), js_c _ _ _ (show e ≠ e + 3 by omega), js_c _ _ _ (show e ≠ e + 4 by omega), js_c _ _ _ (show e ≠ e + 5 by omega), hz, jin_nI hz16 (show 16 < 2 ^ 31 by omega), if_true, nI_clamp (show z < 2 ^ 31 by omega), nI1]
  refine ⟨_, rfl, js_at _ _ _ _, ?_, ?_, ?_, ?_, ?_, ?_, fun c j h1 h2 hj => ?_, fun d hd => ?_⟩
  · rw [js_k _ _ (by omega), js_c _ _ _ (by omega), js_c _ _ _ (by omega), js_c _ _ _ (by omega), js_c _ _ _ (by omega)]
  · rw [js_c _ _ _ (by omega), js_c _ _ _ (by omega), js_c _ _ _ (by omega), js_c _ _ _ (by omega), js_c _ _ _ (by omega)]
  · rw [js_c _ _ _ (by omega), js_c _ _ _ (by omega), js_c _ _ _ (by omega), js_c _ _ _ (by omega), js_at]
  · rw [js_c _ _ _ (by omega), js_c _ _ _ (by omega), js_c _ _ _ (by omega), js_at]
  · rw [js_c _ _ _ (by omega), js_c _ _ _ (by omega), js_at]
  · rw [js_c _ _ _ (by omega), js_at]
  · have q : ∀ (ρ : jS) (c' : Nat) (v : Int32), js ρ c' z v c j = ρ c j := fun ρ c' v => by
      by_cases g : c = c'
      · subst g; rw [js_k _ _ hj]
      · rw [js_c _ _ _ g]
    rw [js_c _ _ _ (by omega), q, q, q, q]
  · rw [js_c _ _ _ (by omega), js_c _ _ _ (by omega), js_c _ _ _ (by omega), js_c _ _ _ (by omega), js_c _ _ _ (by omega)]
/-- what the class does with a rule behind a fault -/
theorem xD_r91 (F : Nat) (hF : 300 ≤ F) {e : Nat} (he : eL e) {B : Nat → Nat} {n : Nat} {f : Int32} (hf : f ≠ 0) {σ : jS} (h : dW B n f e σ σ) {z : Nat} (hz : σ e 6 = nI z) (hz16 : z ≤ 16) (k s : Int32) : ∃ σ' i', jn_X4_readRule_91 F e k s σ = some σ' ∧ tpX B n i' f σ' ∧ frV e σ σ' := by
  obtain ⟨σ1, a1, a2⟩ := xD_take' F he hf h (c := 40) (by omega)
  obtain ⟨σ2, b1', b2⟩ := xD_case F hF he hf (dW_self a2) 8 1
  obtain ⟨σ3, c1, c2⟩ := xD_take' F he hf (dW_self b2) (c := 41) (by omega)
  have a1' : mX10_take F (40 : Int32) σ = some σ1 := a1
  have c1' : mX10_take F (41 : Int32) σ2 = some σ3 := c1
  have fr : frC e σ σ3 := frC_tr a2.2.2 (frC_tr b2.2.2 c2.2.2)
  obtain ⟨i3, hi3⟩ := c2.1
  unfold jn_X4_readRule_91 mX4_readCase
  rw [a1']
  simp only [ltE, Option.bind_some, b1', c1']
  by_cases c : z < 16
  · obtain ⟨σ4, d1, d2, d3, d4, d5, d6, d7, d8, d9, d10⟩ := x_addRule F he (σ := σ3) (by rw [fr.2]; exact hz) c k s (σ e 5)
    rw [d1]
    exact ⟨σ4, i3, rfl, tpX_fr hi3 (d10 1 (by unfold eL at he; omega)) (d10 2 (by unfold eL at he; omega)), fun d h1 h2 => by rw [d10 d h2]; exact (frV_of fr) d h1 h2⟩
  · have : mX3_addRule F e k s (σ e 5) σ3 = some σ3 := by
      unfold mX3_addRule
      rw [fr.2, hz, if_neg (show ¬ nI z < (16 : Int32) from nI_nlt (b := 16) (by omega) (by omega))]
    rw [this]
    exact ⟨σ3, i3, rfl, hi3, frV_of fr⟩
theorem xD_rule (F : Nat) (hF : 300 ≤ F) {e : Nat} (he : eL e) {B : Nat → Nat} {n : Nat} {f : Int32} (hf : f ≠ 0) {σ : jS} (h : dW B n f e σ σ) {z : Nat} (hz : σ e 6 = nI z) (hz16 : z ≤ 16) : ∃ σ' i', mX4_readRule F e σ = some σ' ∧ tpX B n i' f σ' ∧ frV e σ σ' := by
  obtain ⟨⟨i, hi⟩, ⟨L, hL, h5⟩, -⟩ := id h
  have e42 : ∀ k : Int32, ∃ σ' i', jn_X4_readRule_42 F e k σ = some σ' ∧ tpX B n i' f σ' ∧ frV e σ σ' := by
    intro k
    unfold jn_X4_readRule_42
    rw [hz]
    by_cases c : z < 16
    · rw [if_pos (lt16 c)]
      obtain ⟨σ1, a1, a2⟩ := xD_step' F he h
      rw [a1]
      simp only [Option.bind_some, ltE]
      by_cases ck : k = 120
      · obtain ⟨σ2, i2, b1', b2, b3⟩ := xD_r91 F hF he hf (dW_self a2) (by rw [a2.2.2.2]; exact hz) hz16 k (σ1 e 5)
        rw [if_pos ck]
        exact ⟨σ2, i2, b1', b2, frV_tr (frV_of a2.2.2) b3⟩
      · obtain ⟨σ2, b1', b2⟩ := xD_sum F hF he hf (dW_self a2) 8 0
        obtain ⟨σ3, i3, c1, c2, c3⟩ := xD_r91 F hF he hf (dW_self b2) (by rw [b2.2.2.2, a2.2.2.2]; exact hz) hz16 k (σ1 e 5)
        have b1'' : mX4_readSum F e (0 : Int32) σ1 = some σ2 := b1'
        rw [if_neg ck, b1'']
        exact ⟨σ3, i3, c1, c2, frV_tr (frV_of a2.2.2) (frV_tr (frV_of b2.2.2) c3)⟩
    · rw [if_neg (show ¬ nI z < (16 : Int32) from nI_nlt (b := 16) (by omega) (by omega)), x_failD F hi hf]
      exact ⟨σ, i, rfl, hi, fun _ _ _ => rfl⟩
  unfold mX4_readRule
  simp only [ltE, x_failD F hi hf, Option.bind_some]
  split
  · exact e42 _
  · split
    · exact e42 _
    · split
      · exact e42 _
      · exact ⟨σ, i, rfl, hi, fun _ _ _ => rfl⟩
/-- a condition in brackets, in both -/
theorem s_cond (F : Nat) (hF : 300 ≤ F) {e : Nat} (he : eL e) {B : Nat → Nat} {n i L : Nat} {σ τ : jS} (hR : lwR e B n i L 0 0 σ τ) :
    ∃ σ', (Option.bind (mX10_take F (40 : Int32) σ) fun q5 => (Option.bind (mX4_readCase F e (1 : Int32) q5) fun q6 => mX10_take F (41 : Int32) q6)) = some σ' ∧
      ((∃ f, f ≠ 0 ∧ dW B n f e σ σ' ∧ ∃ τ', mX12_readsCondition F τ = some (0, τ') ∧ τ' 0 9 = f ∧ frS τ τ') ∨
      (∃ i' L' τ', mX12_readsCondition F τ = some (1, τ') ∧ i < i' ∧ L ≤ L' ∧ L' ≤ i' ∧ tpX B n i' 0 σ' ∧ tpM B n i' τ' ∧ σ' e 5 = nI L' ∧ τ' 0 12 = nI L' ∧ CODE e L L' (0, false) (0, true) σ' τ' ∧ cdP e L σ σ' τ τ' ∧ frC e σ σ' ∧ frS τ τ')) := by
  obtain ⟨hX, hM, h5, h12, h13, h11, hLi, hhi, hn, ho⟩ := id hR
  have hin := hX.2.2.2.2.2.2.1
  have hB := hX.1
  have e2n : e ≠ 1 ∧ e ≠ 2 ∧ e + 1 ≠ 1 ∧ e + 1 ≠ 2 := by unfold eL at he; omega
  unfold mX12_readsCondition
  rw [m_here F hM]
  simp only [Option.bind_some]
  obtain ⟨σt, t1, t2, t3⟩ := x_take F hX (c := 40) (by omega)
  have t1' : mX10_take F (40 : Int32) σ = some σt := t1
  rw [t1']
  simp only [Option.bind_some]
  by_cases c : i < n ∧ B i = 40
  · rw [if_pos c] at t2
    rw [if_pos (show sg B n i = (40 : Int32) from (sg_eq hB n i (c := 40) (by omega)).mpr c)]
    simp only [ltE]
    have hR0 : lwR e B n i L 0 0 σ (js (js τ 0 11 0) 0 13 0) := ⟨hX, tpM_js (tpM_js hM _ (by omega) (by omega)) _ (by omega) (by omega), h5, by rw [js_k _ _ (by omega), js_k _ _ (by omega)]; exact h12, js_at _ _ _ _, by rw [js_k _ _ (by omega), js_at]; rfl, hLi, hhi, hn, ho⟩
    rcases s_opens F he hR0 c.1 13 (by omega) with ⟨_, σ1, τ1, a1, a2, a3, a4, a5, a6, a7, a8⟩ | ⟨h6, _⟩
    rotate_left
    · omega
    have a2' : mX12_opens F (13 : Int32) (js (js τ 0 11 0) 0 13 0) = some (1, τ1) := a2
    rw [a2']
    simp only [Option.bind_some, if_neg (show ¬ (1 : Int32) = 0 by decide)]
    have hR1 : lwR e B n (i + 1) L 1 1 σt τ1 := by
      obtain ⟨_, m2, _, m4, m5, m6, m7, m8, m9, m10⟩ := a3
      exact ⟨t2, m2, by rw [t3 e (by omega)]; exact h5, m4, m5, m6, m7, m8, m9, m10⟩
    have f1 : frS τ τ1 := frS_tr (frS_tr (frS_js _ _ (Or.inr ⟨by omega, by omega⟩)) (frS_js _ _ (Or.inr ⟨by omega, by omega⟩))) a8
    have cd1 : cdP e L σ σt τ τ1 := fun j hj => ⟨by rw [t3 (e + 1) (by omega)], by rw [(a6 j hj).2, js_c _ _ _ (by omega), js_c _ _ _ (by omega)]⟩
    obtain ⟨σ2, q1, q2⟩ := case_of F hF he (by omega) (test_all F hF he B n 9 1 (by omega) (by omega)) (i + 1) L 1 F σt τ1 hR1 (by omega) ⟨0, 0, rfl, by omega, a4⟩
    have q1' : mX4_readCase F e (1 : Int32) σt = some σ2 := q1
    rw [q1']
    simp only [Option.bind_some]
    rcases q2 with ⟨f, f0, fd, τ2, g1, g2, g3⟩ | ⟨i', L', n1, N', τ2, τc, q1, q2, q3, q4, q5, q6, q7, q8, q9, q10, q11, q12, q13, q14, q15, q16⟩
    · obtain ⟨σ3, s1, s2⟩ := xD_take' F he f0 (dW_self fd) (c := 41) (by omega)
      exact ⟨σ3, s1, Or.inl ⟨f, f0, dW_tr (frC_of he t3) (dW_tr2 fd s2), τ2, g1, g2, frS_tr f1 g3⟩⟩
    · obtain ⟨cX, cM, c5, c12, c13, c11, cLi, chi, cn', co⟩ := id q11
      have hi'n := cX.2.2.2.2.2.2.1
      obtain ⟨σ3, d1, d2, d3⟩ := x_take F cX (c := 41) (by omega)
      refine ⟨σ3, d1, ?_⟩
      have eA : lp_X12_readsCondition_40 F F τ1 = C0 F n1 N' τ2 := q1
      rw [eA]
      obtain ⟨n1, rfl⟩ : ∃ q, n1 = q + 1 := ⟨n1 - 1, by omega⟩
      by_cases g : i' < n ∧ B i' = 41
      · right
        rw [if_pos g] at d2
        have hh2 : sg B n i' = (41 : Int32) := (sg_eq hB n i' (c := 41) (by omega)).mpr g
        have eC : C0 F (n1 + 1) N' τ2 = some (1, js (js (js τc 0 13 0) 0 11 0) 0 7 (nI (i' + 1))) := by
          unfold C0
          rw [lp_X12_readsCondition_92, m_here F q8]
          simp only [Option.bind_some, if_pos hh2, q10, ltE]
          rw [c13, js_k _ _ (show (11 : Nat) ≠ 13 by omega), c11, js_k _ _ (show (7 : Nat) ≠ 11 by omega), js_k _ _ (show (7 : Nat) ≠ 13 by omega), cM.1, nI1, show nI 1 - (1 : Int32) = 0 from rfl, js_k _ _ (show (13 : Nat) ≠ 7 by omega), js_k _ _ (show (13 : Nat) ≠ 11 by omega), js_at, if_pos rfl]
        have k7 : ∀ j, js (js (js τc 0 13 0) 0 11 0) 0 7 (nI (i' + 1)) 7 j = τc 7 j := fun j => by rw [js_c _ _ _ (by omega), js_c _ _ _ (by omega), js_c _ _ _ (by omega)]
        refine ⟨i' + 1, L', _, eC, by omega, q3, by omega, d2, ?_, by rw [d3 e (by omega)]; exact c5, ?_, CODE_keep q12 (fun j _ _ => ⟨by rw [d3 (e + 1) (by omega)], k7 j⟩), fun j hj => ⟨by rw [d3 (e + 1) (by omega), (q14 j hj).1, (cd1 j hj).1], by rw [k7, (q14 j hj).2, (cd1 j hj).2]⟩, frC_tr (frC_of he t3) (frC_tr q15 (frC_of he d3)), frS_tr f1 (frS_tr q16 (frS_tr (frS_tr (frS_js _ _ (Or.inr ⟨by omega, by omega⟩)) (frS_js _ _ (Or.inr ⟨by omega, by omega⟩))) (frS_js _ _ (Or.inl rfl))))⟩
        · have := tpM_step (tpM_js (tpM_js cM (k := 13) 0 (by omega) (by omega)) (k := 11) 0 (by omega) (by omega)) g.1
          rw [js_k _ _ (show (7 : Nat) ≠ 11 by omega), js_k _ _ (show (7 : Nat) ≠ 13 by omega), cM.1, nI1] at this
          exact this
        · rw [js_k _ _ (by omega), js_k _ _ (by omega), js_k _ _ (by omega)]; exact c12
      · left
        rw [if_neg g, if_pos rfl] at d2
        have hf : flt 1 i' ≠ 0 := flt_ne (by omega) (by omega) (by omega)
        have n41 : ¬ sg B n i' = (41 : Int32) := fun e9 => g ((sg_eq hB n i' (c := 41) (by omega)).mp e9)
        have n38 : ¬ sg B n i' = (38 : Int32) := fun e9 => q7 ⟨((sg_eq hB n i' (c := 38) (by omega)).mp e9).1, Or.inl ((sg_eq hB n i' (c := 38) (by omega)).mp e9).2⟩
        have n124 : ¬ sg B n i' = (124 : Int32) := fun e9 => q7 ⟨((sg_eq hB n i' (c := 124) (by omega)).mp e9).1, Or.inr ((sg_eq hB n i' (c := 124) (by omega)).mp e9).2⟩
        have eC : C0 F (n1 + 1) N' τ2 = some (0, js τ2 0 9 (flt 1 i')) := by
          unfold C0
          rw [lp_X12_readsCondition_92, m_here F q8]
          simp only [Option.bind_some, if_neg n41]
          unfold kcL
          rw [m_here F q8]
          simp only [Option.bind_some, if_neg n38, if_neg n124, q8.1]
          rfl
        exact ⟨_, hf, dW_tr (frC_of he t3) (dW_tr q15 (dW_fm he d2 (show L' ≤ 240 by omega) c5 d3)), _, eC, js_at _ _ _ _, frS_tr f1 (frS_tr q9 (frS_js _ _ (Or.inr ⟨by omega, by omega⟩)))⟩
  · rw [if_neg c, if_pos rfl] at t2
    have hf : flt 1 i ≠ 0 := flt_ne (by omega) (by omega) (by omega)
    have dd : dW B n (flt 1 i) e σ σt := dW_fm he t2 (show L ≤ 240 by omega) h5 t3
    obtain ⟨σ2, b1', b2⟩ := xD_case F hF he hf (dW_self dd) 8 1
    obtain ⟨σ3, s1, s2⟩ := xD_take' F he hf (dW_self b2) (c := 41) (by omega)
    have b1'' : mX4_readCase F e (1 : Int32) σt = some σ2 := b1'
    rw [b1'', if_neg (show ¬ sg B n i = (40 : Int32) from fun e9 => c ((sg_eq hB n i (c := 40) (by omega)).mp e9)), hM.1]
    exact ⟨σ3, s1, Or.inl ⟨_, hf, dW_tr2 dd (dW_tr2 b2 s2), js τ 0 9 (flt 1 i), rfl, js_at _ _ _ _, frS_js _ _ (Or.inr ⟨by omega, by omega⟩)⟩⟩
