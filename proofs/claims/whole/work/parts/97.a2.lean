def RLs (e z L : Nat) (σ τ : jS) : Prop := ∃ cd, (∀ i, i < L → codeR cd (σ (e + 1) i) (τ 7 i) i) ∧ ∀ j, j < z → ∃ kd s h t, ruleW cd kd s h t ∧ t ≤ L ∧ σ (e + 2) j = nI kd ∧ τ 9 j = nI kd ∧ σ (e + 3) j = nI s ∧ τ 10 j = nI s ∧ σ (e + 4) j = nI h ∧ τ 11 j = nI h ∧ σ (e + 5) j = nI t ∧ τ 12 j = nI t
theorem segW_congr {cd cd' : Nat → Nat × Nat} {s t : Nat} {z : Nat × Bool} (h : segW cd s t z) (e : ∀ j, s ≤ j → j < t → cd' j = cd j) : segW cd' s t z := segZ_congr (z0 := (0, false)) h e
theorem ruleW_congr {cd cd' : Nat → Nat × Nat} {kd s h t : Nat} (hr : ruleW cd kd s h t) (e : ∀ j, j < t → cd' j = cd j) : ruleW cd' kd s h t := by
  obtain ⟨h1, h2, h3, h4, h5, h6, h7⟩ := hr
  exact ⟨h1, h2, h3, h4, fun k => segW_congr (h5 k) (fun j _ hj => e j (by omega)), h6, segW_congr h7 (fun j _ hj => e j hj)⟩
theorem RL_ext {e z L L1 L2 kd : Nat} {σ σ' τ τ' : jS} (h : RLs e z L σ τ) (hk : kd = 112 ∨ kd = 105 ∨ kd = 120) (h01 : L ≤ L1) (h12 : L1 ≤ L2) (h24 : L2 ≤ 240) (hs : (kd ≠ 120 → CODE e L L1 (0, false) (1, false) σ' τ') ∧ (kd = 120 → L = L1)) (hc : CODE e L1 L2 (0, false) (0, true) σ' τ')
    (kc : ∀ j, j < L → σ' (e + 1) j = σ (e + 1) j ∧ τ' 7 j = τ 7 j) (kr : ∀ j, j < z → σ' (e + 2) j = σ (e + 2) j ∧ τ' 9 j = τ 9 j ∧ σ' (e + 3) j = σ (e + 3) j ∧ τ' 10 j = τ 10 j ∧ σ' (e + 4) j = σ (e + 4) j ∧ τ' 11 j = τ 11 j ∧ σ' (e + 5) j = σ (e + 5) j ∧ τ' 12 j = τ 12 j)
    (kn : σ' (e + 2) z = nI kd ∧ τ' 9 z = nI kd ∧ σ' (e + 3) z = nI L ∧ τ' 10 z = nI L ∧ σ' (e + 4) z = nI L1 ∧ τ' 11 z = nI L1 ∧ σ' (e + 5) z = nI L2 ∧ τ' 12 z = nI L2) : RLs e (z + 1) L2 σ' τ' := by
  obtain ⟨cd, h1, h2⟩ := h
  obtain ⟨c2, g1, g2⟩ := hc
  obtain ⟨c1, f1, f2⟩ : ∃ c1, (∀ j, L ≤ j → j < L1 → codeR c1 (σ' (e + 1) j) (τ' 7 j) j) ∧ (kd ≠ 120 → segZ c1 L L1 (0, false) (1, false)) := by
    by_cases c : kd = 120
    · have := hs.2 c
      exact ⟨fun _ => (0, 0), fun j a b => by omega, fun q => absurd c q⟩
    · obtain ⟨c1, q1, q2⟩ := hs.1 c
      exact ⟨c1, q1, fun _ => q2⟩
  have a0 : ∀ j, j < L → (if j < L then cd j else if j < L1 then c1 j else c2 j) = cd j := fun j hj => if_pos hj
  have a1 : ∀ j, L ≤ j → j < L1 → (if j < L then cd j else if j < L1 then c1 j else c2 j) = c1 j := fun j p q => by rw [if_neg (by omega), if_pos q]
  have a2 : ∀ j, L1 ≤ j → (if j < L then cd j else if j < L1 then c1 j else c2 j) = c2 j := fun j p => by rw [if_neg (by omega), if_neg (by omega)]
  refine ⟨fun j => if j < L then cd j else if j < L1 then c1 j else c2 j, fun j hj => ?_, fun j hj => ?_⟩
  · unfold codeR
    by_cases p : j < L
    · simp only [a0 j p]
      rw [(kc j p).1, (kc j p).2]
      exact h1 j p
    · by_cases q : j < L1
      · simp only [a1 j (by omega) q]
        exact f1 j (by omega) q
      · simp only [a2 j (by omega)]
        exact g1 j (by omega) hj
  · by_cases p : j = z
    · subst p
      refine ⟨kd, L, L1, L2, ⟨hk, h01, h12, h24, fun q => segW_congr (f2 q) (fun i b c => a1 i b c), hs.2, segW_congr g2 (fun i b _ => a2 i b)⟩, Nat.le_refl _, kn⟩
    · obtain ⟨k', s, h, t, r1, r2, r3, r4, r5, r6, r7, r8, r9, r10⟩ := h2 j (by omega)
      obtain ⟨q1, q2, q3, q4, q5, q6, q7, q8⟩ := kr j (by omega)
      exact ⟨k', s, h, t, ruleW_congr r1 (fun i hi => a0 i (by omega)), by omega, by rw [q1]; exact r3, by rw [q2]; exact r4, by rw [q3]; exact r5, by rw [q4]; exact r6, by rw [q5]; exact r7, by rw [q6]; exact r8, by rw [q7]; exact r9, by rw [q8]; exact r10⟩
def stR (e : Nat) (B : Nat → Nat) (n i L z : Nat) (σ τ : jS) : Prop := tpX B n i 0 σ ∧ tpM B n i τ ∧ σ e 5 = nI L ∧ τ 0 12 = nI L ∧ L ≤ i ∧ n ≤ 240 ∧ σ e 6 = nI z ∧ τ 0 14 = nI z ∧ z ≤ 16 ∧ RLs e z L σ τ
def oU (e : Nat) (B : Nat → Nat) (n i z : Nat) (σ τ : jS) (rx : Option jS) (rm : Option (Int32 × jS)) : Prop := ∃ σ' b τ', rx = some σ' ∧ rm = some (b, τ') ∧ frV e σ σ' ∧ frQ τ τ' ∧ ((b = 0 ∧ ∃ i' f, f ≠ 0 ∧ tpX B n i' f σ' ∧ τ' 0 9 = f) ∨ (b = 1 ∧ ∃ i' L', i < i' ∧ stR e B n i' L' (z + 1) σ' τ'))
theorem r91_eq (F e : Nat) (k s : Int32) (σ : jS) : jn_X4_readRule_91 F e k s σ = Option.bind (Option.bind (mX10_take F (40 : Int32) σ) fun q5 => (Option.bind (mX4_readCase F e (1 : Int32) q5) fun q6 => mX10_take F (41 : Int32) q6)) fun q7 => mX3_addRule F e k s (σ e 5) q7 := by
  unfold jn_X4_readRule_91
  rw [ltE]
  cases mX10_take F (40 : Int32) σ with
  | none => rfl
  | some q5 =>
    simp only [Option.bind_some]
    cases mX4_readCase F e (1 : Int32) q5 with
    | none => rfl
    | some q6 =>
      simp only [Option.bind_some]
      cases mX10_take F (41 : Int32) q6 with
      | none => rfl
      | some q7 =>
        simp only [Option.bind_some]
        cases mX3_addRule F e k s (σ e 5) q7 <;> rfl
theorem s_rule (F : Nat) (hF : 300 ≤ F) {e : Nat} (he : eL e) {B : Nat → Nat} {n i L z : Nat} {σ τ : jS} (hR : stR e B n i L z σ τ) : oU e B n i z σ τ (mX4_readRule F e σ) (mX12_readsRule F τ) := by
  obtain ⟨hX, hM, h5, h12, hLi, hn, hz, hzm, hz16, hRL⟩ := id hR
  have hin := hX.2.2.2.2.2.2.1
  have hB := hX.1
  have e2n : e ≠ 1 ∧ e ≠ 2 ∧ e + 1 ≠ 1 ∧ e + 1 ≠ 2 := by unfold eL at he; omega
  have main : ∀ kd, (kd = 112 ∨ kd = 105 ∨ kd = 120) → i < n → oU e B n i z σ τ (jn_X4_readRule_42 F e (nI kd) σ) (jn_X12_readsRule_33 F (nI kd) τ) := by
    intro kd hkd hi
    unfold jn_X4_readRule_42 jn_X12_readsRule_33
    rw [hz, hzm]
    by_cases c : z < 16
    rotate_left
    · have e16 : z = 16 := by omega
      subst e16
      obtain ⟨σ1, a1, a2, a3⟩ := x_fail0 F hX 4 i
      have a1' : mX10_fail F (4 : Int32) (nI i) σ = some σ1 := a1
      rw [if_neg (show ¬ nI 16 < (16 : Int32) by decide), hX.2.2.1, a1', if_pos (show nI 16 = (16 : Int32) from rfl), hM.1]
      exact ⟨σ1, 0, js τ 0 9 (flt 4 i), rfl, rfl, frV_m a3, frQ_js _ _ (Or.inr ⟨by omega, by omega⟩), Or.inl ⟨rfl, i, _, flt_ne (by omega) (by omega) (by omega), a2, js_at _ _ _ _⟩⟩
    rw [if_pos (lt16 c), if_neg (show ¬ nI z = (16 : Int32) from fun e => by have := nI_inj (b := 16) (by omega) (by omega) e; omega)]
    obtain ⟨σ1, a1, a2, a3⟩ := x_step1 F hX hi
    rw [a1]
    simp only [Option.bind_some, ltE, jin_nI c (show 16 < 2 ^ 31 by omega), if_true, nI_clamp (show z < 2 ^ 31 by omega), js_k _ _ (show (14 : Nat) ≠ 7 by omega), js_c _ _ _ (show (0 : Nat) ≠ 9 by omega), hzm, js_k _ _ (show (12 : Nat) ≠ 7 by omega), h12, hM.1, nI1]
    have e51 : σ1 e 5 = nI L := by rw [a3 e (by omega)]; exact h5
    have e61 : σ1 e 6 = nI z := by rw [a3 e (by omega)]; exact hz
    rw [e51]
    generalize hρ : js (js (js (js (js τ 9 z (nI kd)) 0 7 (nI (i + 1))) 10 z (nI L)) 0 11 0) 0 13 0 = ρ
    have ρ0 : ∀ k, k ≠ 7 → k ≠ 11 → k ≠ 13 → ρ 0 k = τ 0 k := fun k q1 q2 q3 => by rw [← hρ, js_k _ _ q3, js_k _ _ q2, js_c _ _ _ (by omega), js_k _ _ q1, js_c _ _ _ (by omega)]
    have ρ7 : ρ 0 7 = nI (i + 1) := by rw [← hρ, js_k _ _ (by omega), js_k _ _ (by omega), js_c _ _ _ (by omega), js_at]
    have ρc : ∀ d, d ≠ 0 → d ≠ 9 → d ≠ 10 → ρ d = τ d := fun d q0 q1 q2 => by rw [← hρ, js_c _ _ _ q0, js_c _ _ _ q0, js_c _ _ _ q2, js_c _ _ _ q0, js_c _ _ _ q1]
    have ρ9 : ∀ j, ρ 9 j = if j = z then nI kd else τ 9 j := fun j => by
      rw [← hρ, js_c _ _ _ (by omega), js_c _ _ _ (by omega), js_c _ _ _ (by omega), js_c _ _ _ (by omega)]
      by_cases q : j = z
      · rw [q, js_at, if_pos rfl]
      · rw [js_k _ _ q, if_neg q]
    have ρ10 : ∀ j, ρ 10 j = if j = z then nI L else τ 10 j := fun j => by
      rw [← hρ, js_c _ _ _ (by omega), js_c _ _ _ (by omega)]
      by_cases q : j = z
      · rw [q, js_at, if_pos rfl]
      · rw [js_k _ _ q, if_neg q, js_c _ _ _ (by omega), js_c _ _ _ (by omega)]
    have fρ : frQ τ ρ := by rw [← hρ]; exact frQ_tr (frQ_tr (frQ_tr (frQ_tr (frQ_c _ _ _ (by omega)) (frQ_js _ _ (Or.inl rfl))) (frQ_c _ _ _ (by omega))) (frQ_js _ _ (Or.inr ⟨by omega, by omega⟩))) (frQ_js _ _ (Or.inr ⟨by omega, by omega⟩))
    have hRρ : lwR e B n (i + 1) L 0 0 σ1 ρ := by
      refine ⟨a2, ⟨ρ7, by rw [ρ0 8 (by omega) (by omega) (by omega)]; exact hM.2.1, by omega, hM.2.2.2.1, by rw [ρc 6 (by omega) (by omega) (by omega)]; exact hM.2.2.2.2⟩, e51, by rw [ρ0 12 (by omega) (by omega) (by omega)]; exact h12, ?_, ?_, by omega, by omega, hn, by omega⟩
      · rw [← hρ, js_at]; rfl
      · rw [← hρ, js_k _ _ (by omega), js_at]; rfl
    -- from behind the sum on
    have rest : ∀ (i1 L1 : Nat) (σ2 τ2 : jS), i < i1 → L ≤ L1 → lwR e B n i1 L1 0 0 σ2 τ2 → (kd ≠ 120 → CODE e L L1 (0, false) (1, false) σ2 τ2) ∧ (kd = 120 → L = L1) → cdP e L σ1 σ2 ρ τ2 → frC e σ1 σ2 → frS ρ τ2 → oU e B n i z σ τ (jn_X4_readRule_91 F e (nI kd) (nI L) σ2) (jn_X12_readsRule_110 F τ2) := by
      intro i1 L1 σ2 τ2 hi1 hL1 hR2 hsum hcd hfC hfS
      obtain ⟨tX, tM, t5, t12, t13, t11, tL, th, tn, to⟩ := id hR2
      have z2 : τ2 0 14 = nI z := by rw [hfS.2 14 (by unfold sS; omega), ρ0 14 (by omega) (by omega) (by omega)]; exact hzm
      have z2x : σ2 e 6 = nI z := by rw [hfC.2]; exact e61
      have hR3 : lwR e B n i1 L1 0 0 σ2 (js τ2 11 z (nI L1)) := ⟨tX, tpM_cell tM _ _ (by omega) (by omega), t5, by rw [js_c _ _ _ (by omega)]; exact t12, by rw [js_c _ _ _ (by omega)]; exact t13, by rw [js_c _ _ _ (by omega)]; exact t11, tL, th, tn, to⟩
      obtain ⟨σ3, p1, p2⟩ := s_cond F hF he hR3
      rw [r91_eq, p1, t5]
      unfold jn_X12_readsRule_110
      rw [z2, jin_nI c (by omega), if_pos rfl, nI_clamp (by omega), t12, ltE]
      simp only [Option.bind_some]
      have fQ2 : frQ τ (js τ2 11 z (nI L1)) := frQ_tr fρ (frQ_tr (frQ_of hfS) (frQ_c _ _ _ (by omega)))
      rcases p2 with ⟨f, f0, fd, τ3, f1, f2, f3⟩ | ⟨i', L', τ3, q1, q2, q3, q4, q5, q6, q7, q8, q9, q10, q11, q12⟩
      · rw [f1]
        simp only [Option.bind_some, if_true]
        obtain ⟨i3, hi3⟩ := fd.1
        obtain ⟨σ4, d1, d2, d3, d4, d5, d6, d7, d8, d9, d10⟩ := x_addRule F he (σ := σ3) (by rw [fd.2.2.2]; exact z2x) c (nI kd) (nI L) (nI L1)
        exact ⟨σ4, 0, τ3, d1, rfl, fun d h1 h2 => by rw [d10 d h2, (frV_of fd.2.2) d h1 h2, (frV_of hfC) d h1 h2, a3 d h1], frQ_tr fQ2 (frQ_of f3), Or.inl ⟨rfl, i3, f, f0, tpX_fr hi3 (d10 1 (by unfold eL at he; omega)) (d10 2 (by unfold eL at he; omega)), f2⟩⟩
      · rw [q1]
        have z3 : τ3 0 14 = nI z := by rw [q12.2 14 (by unfold sS; omega), js_c _ _ _ (by omega)]; exact z2
        simp only [Option.bind_some, if_neg (show ¬ (1 : Int32) = 0 by decide), z3, jin_nI c (show 16 < 2 ^ 31 by omega), if_true, nI_clamp (show z < 2 ^ 31 by omega), ltE, js_c _ _ _ (show (0 : Nat) ≠ 12 by omega), q8, nI1]
        have hi'n := q5.2.2.2.2.2.2.1
        obtain ⟨σ4, d1, d2, d3, d4, d5, d6, d7, d8, d9, d10⟩ := x_addRule F he (σ := σ3) (by rw [q11.2]; exact z2x) c (nI kd) (nI L) (nI L1)
        have frX : frV e σ σ4 := fun d h1 h2 => by rw [d10 d h2, (frV_of q11) d h1 h2, (frV_of hfC) d h1 h2, a3 d h1]
        have frT : frQ τ (js (js τ3 12 z (nI L')) 0 14 (nI (z + 1))) := frQ_tr fQ2 (frQ_tr (frQ_of q12) (frQ_tr (frQ_c _ _ _ (by omega)) (frQ_js _ _ (Or.inr ⟨by omega, by omega⟩))))
        have k7 : ∀ j, js (js τ3 12 z (nI L')) 0 14 (nI (z + 1)) 7 j = τ3 7 j := fun j => by rw [js_c _ _ _ (by omega), js_c _ _ _ (by omega)]
        -- the rows of the rules in the reference
        have m9 : ∀ j, js (js τ3 12 z (nI L')) 0 14 (nI (z + 1)) 9 j = ρ 9 j := fun j => by rw [js_c _ _ _ (by omega), js_c _ _ _ (by omega), q12.1 9 (by omega) (by omega) (by omega), js_c _ _ _ (by omega), hfS.1 9 (by omega) (by omega) (by omega)]
        have m10 : ∀ j, js (js τ3 12 z (nI L')) 0 14 (nI (z + 1)) 10 j = ρ 10 j := fun j => by rw [js_c _ _ _ (by omega), js_c _ _ _ (by omega), q12.1 10 (by omega) (by omega) (by omega), js_c _ _ _ (by omega), hfS.1 10 (by omega) (by omega) (by omega)]
        have m11 : ∀ j, js (js τ3 12 z (nI L')) 0 14 (nI (z + 1)) 11 j = if j = z then nI L1 else τ 11 j := fun j => by
          rw [js_c _ _ _ (by omega), js_c _ _ _ (by omega), q12.1 11 (by omega) (by omega) (by omega)]
          by_cases q : j = z
          · rw [q, js_at, if_pos rfl]
          · rw [js_k _ _ q, if_neg q, hfS.1 11 (by omega) (by omega) (by omega), ρc 11 (by omega) (by omega) (by omega)]
        have m12 : ∀ j, js (js τ3 12 z (nI L')) 0 14 (nI (z + 1)) 12 j = if j = z then nI L' else τ 12 j := fun j => by
          rw [js_c _ _ _ (by omega)]
          by_cases q : j = z
          · rw [q, js_at, if_pos rfl]
          · rw [js_k _ _ q, if_neg q, q12.1 12 (by omega) (by omega) (by omega), js_c _ _ _ (by omega), hfS.1 12 (by omega) (by omega) (by omega), ρc 12 (by omega) (by omega) (by omega)]
        have x25 : ∀ c' j, e + 2 ≤ c' → c' ≤ e + 5 → j ≠ z → σ4 c' j = σ c' j := fun c' j p1 p2 p3 => by
          unfold eL at he
          rw [d9 c' j p1 p2 p3, q11.1 c' (by omega) (by omega) (by omega), hfC.1 c' (by omega) (by omega) (by omega), a3 c' (by omega)]
        refine ⟨σ4, 1, _, d1, rfl, frX, frT, Or.inr ⟨rfl, i', L', by omega, tpX_fr q5 (d10 1 (by unfold eL at he; omega)) (d10 2 (by unfold eL at he; omega)), tpM_js (tpM_cell q6 _ _ (by omega) (by omega)) _ (by omega) (by omega), by rw [d3]; exact q7, by rw [js_k _ _ (by omega), js_c _ _ _ (by omega)]; exact q8, q4, hn, d2, js_at _ _ _ _, by omega, ?_⟩⟩
        refine RL_ext hRL hkd hL1 q3 (by omega) ⟨fun hk => CODE_keep (hsum.1 hk) (fun j _ hj => ⟨by rw [d4, (q10 j hj).1], by rw [k7, (q10 j hj).2, js_c _ _ _ (by omega)]⟩), hsum.2⟩ (CODE_keep q9 (fun j _ _ => ⟨by rw [d4], k7 j⟩)) (fun j hj => ⟨by rw [d4, (q10 j (by omega)).1, (hcd j hj).1, a3 (e + 1) (by omega)], by rw [k7, (q10 j (by omega)).2, js_c _ _ _ (by omega), (hcd j hj).2, ρc 7 (by omega) (by omega) (by omega)]⟩) (fun j hj => ⟨x25 _ j (by omega) (by omega) (by omega), by rw [m9, ρ9, if_neg (by omega)], x25 _ j (by omega) (by omega) (by omega), by rw [m10, ρ10, if_neg (by omega)], x25 _ j (by omega) (by omega) (by omega), by rw [m11, if_neg (by omega)], x25 _ j (by omega) (by omega) (by omega), by rw [m12, if_neg (by omega)]⟩) ⟨d5, by rw [m9, ρ9, if_pos rfl], d6, by rw [m10, ρ10, if_pos rfl], d7, by rw [m11, if_pos rfl], by rw [d8]; exact q7, by rw [m12, if_pos rfl]⟩
    by_cases c120 : kd = 120
    · subst c120
      rw [if_pos (show nI 120 = (120 : Int32) from rfl), if_pos (show nI 120 = (120 : Int32) from rfl)]
      exact rest (i + 1) L σ1 ρ (by omega) (Nat.le_refl _) hRρ ⟨fun h => absurd rfl h, fun _ => rfl⟩ (cdP_rf _ _ _ _) (frC_rf _ _) (frS_rf _)
    · have nk : ¬ nI kd = (120 : Int32) := fun e => by have := nI_inj (b := 120) (by omega) (by omega) e; omega
      rw [if_neg nk, if_neg nk]
      obtain ⟨σ2, p1, p2⟩ := s_sum F hF he (b := 0) hRρ (by omega) (Or.inl rfl)
      have p1' : mX4_readSum F e (0 : Int32) σ1 = some σ2 := p1
      rw [p1']
      simp only [Option.bind_some]
      rcases p2 with ⟨f, f0, fd, τ2, f1, f2, f3⟩ | ⟨i1, L1, τ2, u0, u1, u2, u3, u4, u5, u6, u7, u8, u9⟩
      · rw [f1]
        obtain ⟨σ3, i3, s1, s2, s3⟩ := xD_r91 F hF he f0 (dW_self fd) (by rw [fd.2.2.2]; exact e61) hz16 (nI kd) (nI L)
        exact ⟨σ3, 0, τ2, s1, rfl, frV_tr (frV_m a3) (frV_tr (frV_of fd.2.2) s3), frQ_tr fρ (frQ_of f3), Or.inl ⟨rfl, i3, f, f0, s2, f2⟩⟩
      · rw [u0]
        simp only [Option.bind_some, if_neg (show ¬ (1 : Int32) = 0 by decide)]
        exact rest i1 L1 σ2 τ2 (by omega) u2 u4 ⟨fun _ => u5, fun h => absurd h c120⟩ u7 u8 u9
  unfold mX4_readRule mX12_readsRule
  rw [m_here F hM, hX.2.2.2.1, hX.2.2.1]
  simp only [Option.bind_some, ltE]
  have s112 := sg_eq hB n i (c := 112) (by omega)
  have s105 := sg_eq hB n i (c := 105) (by omega)
  have s120 := sg_eq hB n i (c := 120) (by omega)
  by_cases k1 : sg B n i = nI 112
  · have k1' : sg B n i = (112 : Int32) := k1
    rw [if_pos k1', if_pos k1', k1]
    exact main 112 (by omega) (s112.mp k1).1
  · have k1' : ¬ sg B n i = (112 : Int32) := k1
    rw [if_neg k1', if_neg k1']
    by_cases k2 : sg B n i = nI 105
    · have k2' : sg B n i = (105 : Int32) := k2
      rw [if_pos k2', if_pos k2', k2]
      exact main 105 (by omega) (s105.mp k2).1
    · have k2' : ¬ sg B n i = (105 : Int32) := k2
      rw [if_neg k2', if_neg k2']
      by_cases k3 : sg B n i = nI 120
      · have k3' : sg B n i = (120 : Int32) := k3
        rw [if_pos k3', if_pos k3', k3]
        exact main 120 (by omega) (s120.mp k3).1
      · have k3' : ¬ sg B n i = (120 : Int32) := k3
        rw [if_neg k3', if_neg k3', hM.1]
        obtain ⟨σ1, a1, a2, a3⟩ := x_fail0 F hX 1 i
        have a1' : mX10_fail F (1 : Int32) (nI i) σ = some σ1 := a1
        rw [a1']
        exact ⟨σ1, 0, js τ 0 9 (flt 1 i), rfl, rfl, frV_m a3, frQ_js _ _ (Or.inr ⟨by omega, by omega⟩), Or.inl ⟨rfl, i, _, flt_ne (by omega) (by omega) (by omega), a2, js_at _ _ _ _⟩⟩
