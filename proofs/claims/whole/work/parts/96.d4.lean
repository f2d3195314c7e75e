theorem frS_of {τ τ' : jS} (h : frM sN τ τ') : frS τ τ' := ⟨fun d h1 _ _ => h.1 d h1, fun k hk => h.2 k (fun g => hk (by unfold sS; unfold sN at g; omega))⟩
/-- one step of code, in both -/
theorem s_note (F : Nat) {e : Nat} (he : eL e) {B : Nat → Nat} {n i L h o : Nat} {σ τ : jS} (hR : lwR e B n i L h o σ τ) (hL : L < i) (op a : Nat) (hop : op ≤ 12) (ha : a < 100000) :
    ∃ σ' τ', mX3_put F e (nI op) (nI a) σ = some σ' ∧ mX12_notes F (nI (opM op)) (nI a) τ = some τ' ∧ lwR e B n i (L + 1) h o σ' τ' ∧ σ' (e + 1) L = nI (16 * a + op) ∧ τ' 7 L = nI (1048576 * opM op + a) ∧ cdP e L σ σ' τ τ' ∧ frC e σ σ' ∧ frS τ τ' ∧ τ' 8 = τ 8 := by
  obtain ⟨hX, hM, h5, h12, h13, h11, hLi, hhi, hn, ho⟩ := hR
  have hin := hX.2.2.2.2.2.2.1
  obtain ⟨σ', a1, a2, a3, a4, a5, a6⟩ := x_lput F he h5 (by omega) (nI op) (nI a)
  refine ⟨σ', _, a1, m_notes F h12 (by omega) _ _, ⟨tpX_fr hX a6 (a5.1 2 (by omega) (by unfold eL at he; omega) (by unfold eL at he; omega)), tpM_js (tpM_cell hM _ _ (by omega) (by omega)) _ (by omega) (by omega), a2, by rw [js_at], ?_, ?_, by omega, hhi, hn, ho⟩, ?_, ?_, fun j hj => ⟨a4 j (by omega), ?_⟩, a5, ?_, ?_⟩
  · rw [js_k _ _ (by omega), js_c _ _ _ (by omega)]; exact h13
  · rw [js_k _ _ (by omega), js_c _ _ _ (by omega)]; exact h11
  · rw [a3, show (16 : Int32) = nI 16 from rfl, pk_mul, nI_add, Nat.mul_comm a 16]
  · rw [js_c _ _ _ (by omega), js_at, show (1048576 : Int32) = nI 1048576 from rfl, pk_mul, nI_add]
  · rw [js_c _ _ _ (by omega), js_k _ _ (by omega)]
  · exact frS_tr (frS_c _ _ _ (Or.inl rfl)) (frS_js _ _ (Or.inr ⟨by omega, by omega⟩))
  · rw [js_c _ _ _ (by omega), js_c _ _ _ (by omega)]
/-- opening a bracket or a NOT, in both: o is how many stand open -/
theorem s_opens (F : Nat) {e : Nat} (he : eL e) {B : Nat → Nat} {n i L h o : Nat} {σ τ : jS} (hR : lwR e B n i L h o σ τ) (hi : i < n) (w : Nat) (hw : w < 16) :
    (o < 6 ∧ ∃ σ' τ', mX4_opens F (nI o) σ = some (1, σ') ∧ mX12_opens F (nI w) τ = some (1, τ') ∧ lwR e B n (i + 1) L (h + 1) (o + 1) σ' τ' ∧ τ' 8 h = nI (1048576 * w + 0) ∧ stW h τ τ' ∧ cdP e L σ σ' τ τ' ∧ frC e σ σ' ∧ frS τ τ') ∨
    (o = 6 ∧ ∃ σ' τ' f, mX4_opens F (nI o) σ = some (0, σ') ∧ mX12_opens F (nI w) τ = some (0, τ') ∧ f ≠ 0 ∧ dW B n f e σ σ' ∧ τ' 0 9 = f ∧ frS τ τ') := by
  obtain ⟨hX, hM, h5, h12, h13, h11, hLi, hhi, hn, ho⟩ := hR
  unfold mX4_opens mX12_opens
  rw [h11]
  by_cases c : o < 6
  · left
    obtain ⟨σ1, a1, a2, a3⟩ := x_step1 F hX hi
    rw [if_pos (show nI o < (6 : Int32) from nI_lt (b := 6) c (by omega)), a1, if_neg (show ¬ nI o = (6 : Int32) from fun e => by have := nI_inj (b := 6) (by omega) (by omega) e; omega)]
    simp only [ltE, Option.bind_some, js_k _ _ (show (13 : Nat) ≠ 11 by omega), h13, jin_nI (show h < 260 by omega) (show 260 < 2 ^ 31 by omega), if_true, nI_clamp (show h < 2 ^ 31 by omega), js_c _ _ _ (show (0 : Nat) ≠ 8 by omega), nI1]
    refine ⟨c, σ1, _, rfl, rfl, ⟨a2, ?_, by rw [a3 e (by unfold eL at he; omega)]; exact h5, ?_, ?_, ?_, by omega, by omega, hn, by omega⟩, ?_, fun j hj => ?_, fun j _ => ⟨by rw [a3 (e + 1) (by unfold eL at he; omega)], ?_⟩, frC_of he a3, ?_⟩
    · have t1 : tpM B n i (js (js (js τ 0 11 (nI (o + 1))) 8 h ((1048576 : Int32) * nI w)) 0 13 (nI (h + 1))) := tpM_js (tpM_cell (tpM_js hM _ (by omega) (by omega)) _ _ (by omega) (by omega)) _ (by omega) (by omega)
      exact tpM_step t1 hi
    · rw [js_k _ _ (by omega), js_k _ _ (by omega), js_c _ _ _ (by omega), js_k _ _ (by omega)]; exact h12
    · rw [js_k _ _ (by omega), js_at]
    · rw [js_k _ _ (by omega), js_k _ _ (by omega), js_c _ _ _ (by omega), js_at]
    · rw [js_c _ _ _ (by omega), js_c _ _ _ (by omega), js_at, show (1048576 : Int32) = nI 1048576 from rfl, pk_mul]; rfl
    · rw [js_c _ _ _ (by omega), js_c _ _ _ (by omega), js_k _ _ (by omega), js_c _ _ _ (by omega)]
    · rw [js_c _ _ _ (by omega), js_c _ _ _ (by omega), js_c _ _ _ (by omega), js_c _ _ _ (by omega)]
    · exact frS_tr (frS_tr (frS_tr (frS_js _ _ (Or.inr ⟨by omega, by omega⟩)) (frS_c _ _ _ (Or.inr rfl))) (frS_js _ _ (Or.inr ⟨by omega, by omega⟩))) (frS_js _ _ (Or.inl rfl))
  · right
    have e6 : o = 6 := by omega
    subst e6
    obtain ⟨σ1, a1, a2, a3⟩ := x_fail0 F hX 5 i
    have a1' : mX10_fail F (5 : Int32) (nI i) σ = some σ1 := a1
    rw [if_neg (show ¬ nI 6 < (6 : Int32) by decide), hX.2.2.1, a1', if_pos (show nI 6 = (6 : Int32) from rfl), hM.1]
    exact ⟨rfl, σ1, js τ 0 9 (flt 5 i), flt 5 i, rfl, rfl, flt_ne (by omega) (by omega) (by omega), dW_fm he a2 (show L ≤ 240 by omega) h5 a3, js_at _ _ _ _, frS_js _ _ (Or.inr ⟨by omega, by omega⟩)⟩
theorem fact_of (F : Nat) (hF : 300 ≤ F) {e : Nat} (he : eL e) {bs : Nat} {B : Nat → Nat} {n d o : Nat} (ho : o ≤ 6) (hsub : o < 6 → sumOK F bs e B n d (o + 1)) : factOK F bs e B n d o := by
  intro i L h b m N σ τ hR hbs hb hm hN
  obtain ⟨hX, hM, h5, h12, h13, h11, hLi, hhi, hn, ho'⟩ := id hR
  have hin := hX.2.2.2.2.2.2.1
  have hB := hX.1
  obtain ⟨m, rfl⟩ : ∃ m', m = m' + 1 := ⟨m - 1, by omega⟩
  unfold fcF bX4_readFactor
  by_cases c : i < n ∧ B i = 91
  · have hs : mX10_stands F (91 : Int32) σ = some 1 := x_stand1 F hX (c := 91) (by omega) c
    have hst : ∃ v, mX4_stepOf F 1 (0 : Int32) σ = some v := by
      unfold mX4_stepOf
      have es : sg B n i = nI (B i) := by unfold sg; rw [if_pos c.1]
      rw [x_on1 F hX c.1, hX.2.2.2.1, es]
      simp only [Option.bind_some, if_neg (show ¬ (1 : Int32) = 0 by decide)]
      rw [x_index F (e := 1) σ (hB i) (by decide) (by decide) (by omega)]
      simp only [Option.bind_some]
      split <;> exact ⟨_, rfl⟩
    obtain ⟨v, hv⟩ := hst
    rw [hv, hs]
    simp only [Option.bind_some, if_neg (show ¬ (1 : Int32) = 0 by decide)]
    have hh : mX12_here F τ = some (91 : Int32) := by
      rw [m_here F hM]
      unfold sg
      rw [if_pos c.1, c.2]
      rfl
    have eX : Xl F bs (m + 1) N τ = Option.bind (Option.bind (mX12_opens F (14 : Int32) τ) fun q2 => (if q2.1 = 0 then some ((0 : Int32), q2.2) else (lp_X12_readsFactor_0 F (kf F) m q2.2))) fun q => if q.1 = 0 then some ((0 : Int32), q.2) else Yl F bs N q.2 := by
      unfold Xl
      rw [lp_X12_readsFactor_0, hh]
      simp only [Option.bind_some, if_true]
    rw [eX]
    rcases s_opens F he hR c.1 14 (by omega) with ⟨ho6, σ1, τ1, a1, a2, a3, a4, a5, a6, a7, a8⟩ | ⟨ho6, σ1, τ1, f, a1, a2, a3, a4, a5, a6⟩
    · have a2' : mX12_opens F (14 : Int32) τ = some (1, τ1) := a2
      rw [a1, a2']
      simp only [Option.bind_some, if_neg (show ¬ (1 : Int32) = 0 by decide), nI1]
      have hbel : bel (h + 1) τ1 := Or.inr ⟨h, 14, 0, rfl, by omega, by omega, a4, by omega⟩
      have key := hsub ho6 (i + 1) L (h + 1) b m N σ1 τ1 a3 (by omega) (by omega) (by omega) (by omega) hbel
      unfold Xl at key
      obtain ⟨σ2, b1', b2⟩ := key
      rw [b1']
      simp only [Option.bind_some]
      rcases b2 with ⟨f, f0, fd, τ2, f1, f2, f3⟩ | ⟨i', L', N', τ2, τc, h2, q1, q2, q3, q4, q5, q6, q7, q8, q9, q10, q11, q12, q13, q14, q15, q16, q17, q18, q19, q20⟩
      · obtain ⟨σ3, c1, c2⟩ := xD_take' F he f0 (dW_self fd) (c := 93) (by omega)
        have c1' : mX10_take F (93 : Int32) σ2 = some σ3 := c1
        rw [c1', f1]
        exact ⟨σ3, rfl, Or.inl ⟨f, f0, dW_tr a7 (dW_tr2 fd c2), τ2, rfl, f2, frS_tr a8 f3⟩⟩
      · obtain ⟨cX, cM, c5, c12, c13, c11, cLi, chi, cn', co⟩ := id q15
        have hi'n := cX.2.2.2.2.2.2.1
        obtain ⟨σ3, d1, d2, d3⟩ := x_take F cX (c := 93) (by omega)
        have d1' : mX10_take F (93 : Int32) σ2 = some σ3 := d1
        rw [d1', q5]
        simp only [Option.bind_some]
        obtain ⟨N', rfl⟩ : ∃ k, N' = k + 1 := ⟨N' - 1, by omega⟩
        have hopn : mX12_hasOpenSum F (nI bs) τ2 = some 1 := m_open1 F hF (j0 := h) (a := 0) q8 (by omega) hbs (by omega) (by omega) (by rw [q13 h (by omega)]; exact a4)
        have hsg : mX12_sumSign F (sg B n i') τ2 = some (-1) := by
          have := m_opAt F hB q7
          rw [q6, m_here F q7] at this
          exact this
        by_cases g : i' < n ∧ B i' = 93
        · rw [if_pos g] at d2
          have hh2 : sg B n i' = (93 : Int32) := by
            unfold sg
            rw [if_pos g.1, g.2]
            rfl
          have eY : Yl F bs (N' + 1) τ2 = Yl F bs N' (js (js (js τc 0 13 (nI h)) 0 11 (nI o)) 0 7 (nI (i' + 1))) := by
            unfold Yl
            rw [lp_X12_readsSum_14, m_here F q7]
            simp only [Option.bind_some, hsg, if_true, if_pos hh2, hopn, if_neg (show ¬ (1 : Int32) = 0 by decide), q14, ltE]
            rw [c13, js_k _ _ (show (11 : Nat) ≠ 13 by omega), c11, js_k _ _ (show (7 : Nat) ≠ 11 by omega), js_k _ _ (show (7 : Nat) ≠ 13 by omega), cM.1, nI1, show nI (h + 1) - (1 : Int32) = nI h by rw [show (1 : Int32) = nI 1 from rfl, pk_sub (a := h + 1) (b := 1) (by omega)]; rfl, show nI (o + 1) - (1 : Int32) = nI o by rw [show (1 : Int32) = nI 1 from rfl, pk_sub (a := o + 1) (b := 1) (by omega)]; rfl]
          rw [eY]
          have k7 : ∀ j, js (js (js τc 0 13 (nI h)) 0 11 (nI o)) 0 7 (nI (i' + 1)) 7 j = τc 7 j := fun j => by rw [js_c _ _ _ (by omega), js_c _ _ _ (by omega), js_c _ _ _ (by omega)]
          have k8 : ∀ j, js (js (js τc 0 13 (nI h)) 0 11 (nI o)) 0 7 (nI (i' + 1)) 8 j = τc 8 j := fun j => by rw [js_c _ _ _ (by omega), js_c _ _ _ (by omega), js_c _ _ _ (by omega)]
          refine ⟨σ3, rfl, Or.inr ⟨i' + 1, L', N', _, by omega, q2, by omega, by omega, rfl, ⟨d2, ?_, by rw [d3 e (by unfold eL at he; omega)]; exact c5, ?_, ?_, ?_, by omega, by omega, hn, by omega⟩, CODE_keep q16 (fun j _ _ => ⟨by rw [d3 (e + 1) (by unfold eL at he; omega)], k7 j⟩), fun j hj => ?_, ?_, ?_, ?_⟩⟩
          · have := tpM_step (tpM_js (tpM_js cM (k := 13) (nI h) (by omega) (by omega)) (k := 11) (nI o) (by omega) (by omega)) g.1
            rw [js_k _ _ (show (7 : Nat) ≠ 11 by omega), js_k _ _ (show (7 : Nat) ≠ 13 by omega), cM.1, nI1] at this
            exact this
          · rw [js_k _ _ (by omega), js_k _ _ (by omega), js_k _ _ (by omega)]; exact c12
          · rw [js_k _ _ (by omega), js_k _ _ (by omega), js_at]
          · rw [js_k _ _ (by omega), js_at]
          · rw [k8, q17 j (by omega), a5 j hj]
          · intro j hj
            rw [k7, d3 (e + 1) (by unfold eL at he; omega), (q18 j hj).1, (q18 j hj).2]
            exact a6 j hj
          · exact frC_tr a7 (frC_tr q19 (frC_of he d3))
          · exact frS_tr a8 (frS_tr q20 (frS_tr (frS_tr (frS_js _ _ (Or.inr ⟨by omega, by omega⟩)) (frS_js _ _ (Or.inr ⟨by omega, by omega⟩))) (frS_js _ _ (Or.inl rfl))))
        · rw [if_neg g, if_pos rfl] at d2
          have hf : flt 1 i' ≠ 0 := flt_ne (by omega) (by omega) (by omega)
          have hh2 : ¬ sg B n i' = (93 : Int32) := fun e9 => g ((sg_eq hB n i' (c := 93) (by omega)).mp e9)
          have eY : Yl F bs (N' + 1) τ2 = some (0, js τ2 0 9 (flt 1 i')) := by
            unfold Yl
            rw [lp_X12_readsSum_14, m_here F q7]
            simp only [Option.bind_some, hsg, if_true, if_neg hh2]
            show jn_X12_readsSum_138 F (nI bs) τ2 = _
            unfold jn_X12_readsSum_138
            rw [hopn, q7.1]
            rfl
          rw [eY]
          exact ⟨σ3, rfl, Or.inl ⟨_, hf, dW_tr a7 (dW_tr q19 (dW_fm he d2 (show L' ≤ 240 by omega) c5 d3)), _, rfl, js_at _ _ _ _, frS_tr a8 (frS_tr q12 (frS_js _ _ (Or.inr ⟨by omega, by omega⟩)))⟩⟩
    · have a2' : mX12_opens F (14 : Int32) τ = some (0, τ1) := a2
      rw [a1, a2']
      exact ⟨σ1, rfl, Or.inl ⟨f, a3, a4, τ1, rfl, a5, a6⟩⟩
  · have hs : mX10_stands F (91 : Int32) σ = some 0 := x_stand0 F hX (c := 91) (by omega) c
    rw [hs]
    have hne : ¬ sg B n i = (91 : Int32) := fun e9 => c ((sg_eq hB n i (c := 91) (by omega)).mp e9)
    have eX : Xl F bs (m + 1) N τ = Option.bind (kf F τ) fun q => if q.1 = 0 then some ((0 : Int32), q.2) else Yl F bs N q.2 := by
      unfold Xl
      rw [lp_X12_readsFactor_0, m_here F hM]
      simp only [Option.bind_some, if_neg hne]
    rw [eX]
    unfold kf
    rw [m_isDigit F hB hM]
    simp only [Option.bind_some]
    -- a letter, a number, or neither
    by_cases cl : i < n ∧ ix 1 (B i) ≠ -1
    · have hb' := hB i
      have es : sg B n i = nI (B i) := by unfold sg; rw [if_pos cl.1]
      obtain ⟨hfo, hcase⟩ := lt_all (B i) hb'
      obtain ⟨ek, hk, hnd⟩ := hcase.resolve_left cl.2
      generalize hkk : (ix 1 (B i)).toNatClampNeg = k at ek hk
      have hst : mX4_stepOf F 1 (0 : Int32) σ = some (nI k) := by
        unfold mX4_stepOf
        rw [x_on1 F hX cl.1, hX.2.2.2.1, es]
        simp only [Option.bind_some, if_neg (show ¬ (1 : Int32) = 0 by decide)]
        rw [x_index F (e := 1) σ hb' (by decide) (by decide) (by omega)]
        simp only [Option.bind_some]
        rw [ek, if_neg (nI_pos (by omega)), show (0 : Int32) = nI 0 from rfl, nI_add, Nat.zero_add]
      have hD : ¬ isD B n i := fun d => hnd ⟨(isD_e.mp d).2.1, (isD_e.mp d).2.2⟩
      have hfo' : mX12_factOf F (sg B n i) τ = some (nI k) := by
        rw [es, ← ek]
        exact hfo
      rw [hst, if_neg hD, if_pos rfl, m_here F hM]
      simp only [Option.bind_some, if_true, hfo', if_neg (m1_ne k (by omega))]
      obtain ⟨σ1, a1, a2, a3⟩ := x_step1 F hX cl.1
      rw [a1]
      simp only [Option.bind_some]
      -- the step in the reference comes behind the note: shift it ahead
      have hR1 : lwR e B n (i + 1) L h o σ1 (js τ 0 7 (nI (i + 1))) := by
        have t1 := tpM_step hM cl.1
        rw [hM.1, nI1] at t1
        exact ⟨a2, t1, by rw [a3 e (by unfold eL at he; omega)]; exact h5, by rw [js_k _ _ (by omega)]; exact h12, by rw [js_k _ _ (by omega)]; exact h13, by rw [js_k _ _ (by omega)]; exact h11, by omega, by omega, hn, ho'⟩
      obtain ⟨σ2, τ2, b1', b2, b3, b4, b5, b6, b7, b8, b9⟩ := s_note F he hR1 (by omega) 1 k (by omega) (by omega)
      have b1'' : mX3_put F e (1 : Int32) (nI k) σ1 = some σ2 := b1'
      rw [b1'', show (1 : Int32) = nI 1 from rfl, m_notes F h12 (by omega)]
      simp only [Option.bind_some, ltE, if_neg (show ¬ nI 1 = 0 by decide)]
      have eτ : js (js (js τ 7 L (1048576 * nI 1 + nI k)) 0 12 (nI (L + 1))) 0 7 ((js (js τ 7 L (1048576 * nI 1 + nI k)) 0 12 (nI (L + 1)) 0 7) + nI 1) = τ2 := by
        rw [m_notes F (show js τ 0 7 (nI (i + 1)) 0 12 = nI L by rw [js_k _ _ (by omega)]; exact h12) (by omega)] at b2
        rw [← Option.some.inj b2, js_k _ _ (show (7 : Nat) ≠ 12 by omega), js_c _ _ _ (show (0 : Nat) ≠ 7 by omega), hM.1, show nI i + nI 1 = nI (i + 1) from nI_add i 1]
        funext c' q'
        by_cases e0 : c' = 0
        · subst e0
          by_cases e7 : q' = 7
          · subst e7
            rw [js_at, js_k _ _ (by omega), js_c _ _ _ (by omega), js_at]
          · rw [js_k _ _ e7]
            by_cases e12 : q' = 12
            · subst e12; rw [js_at, js_at]
            · rw [js_k _ _ e12, js_k _ _ e12, js_c _ _ _ (by omega), js_c _ _ _ (by omega), js_k _ _ e7]
        · rw [js_c _ _ _ e0, js_c _ _ _ e0, js_c _ _ _ e0]
          by_cases e7 : c' = 7
          · subst e7
            by_cases eL' : q' = L
            · subst eL'
              rw [js_at, js_at]
              rfl
            · rw [js_k _ _ eL', js_k _ _ eL', js_c _ _ _ (by omega)]
          · rw [js_c _ _ _ e7, js_c _ _ _ e7, js_c _ _ _ e0]
      rw [eτ]
      have f0 : frS τ (js τ 0 7 (nI (i + 1))) := frS_js _ _ (Or.inl rfl)
      refine ⟨σ2, rfl, Or.inr ⟨i + 1, L + 1, N, τ2, by omega, by omega, by omega, by omega, rfl, b3, ?_, fun j hj => by rw [b9, js_c _ _ _ (by omega)], fun j hj => ⟨by rw [(b6 j hj).1, a3 (e + 1) (by unfold eL at he; omega)], by rw [(b6 j hj).2, js_c _ _ _ (by omega)]⟩, frC_tr (frC_of he a3) b7, frS_tr f0 b8⟩⟩
      refine CODE_one (o := 1) (a := k) (by omega) (by omega) b4 b5 (by show b < 32; omega) (by show b + 1 < 32; omega) (fun ty t0 t1 => Or.inl ⟨by omega, fun _ => by omega, by rw [t0], by rw [t0]; show b < 31; omega, by rw [t1, t0]⟩)
    · have hst : mX4_stepOf F 1 (0 : Int32) σ = some (-1) := by
        unfold mX4_stepOf
        by_cases ci : i < n
        · have es : sg B n i = nI (B i) := by unfold sg; rw [if_pos ci]
          rw [x_on1 F hX ci, hX.2.2.2.1, es]
          simp only [Option.bind_some, if_neg (show ¬ (1 : Int32) = 0 by decide)]
          rw [x_index F (e := 1) σ (hB i) (by decide) (by decide) (by omega)]
          simp only [Option.bind_some]
          have e9 : ix 1 (B i) = -1 := Decidable.byContradiction (fun h => cl ⟨ci, h⟩)
          rw [e9, if_pos (show (-1 : Int32) < 0 by decide)]
        · rw [x_on0 F hX ci]
          simp only [Option.bind_some, if_true, if_pos (show (-1 : Int32) < 0 by decide)]
      rw [hst]
      simp only [if_true]
      by_cases d : isD B n i
      · rw [if_pos d, if_neg (show ¬ (1 : Int32) = 0 by decide)]
        obtain ⟨v, σ1, bb', τ1, a1, a2, a3, a4, a5, a6⟩ := s_num5 F (by omega) hX hM d
        rw [a1, a3]
        simp only [Option.bind_some]
        rcases a6 with ⟨rfl, i', f, hf, c1, c2⟩ | ⟨rfl, i', hi', c1, c2, c3⟩
        · simp only [if_true, Option.bind_some]
          obtain ⟨σ2, b1', b2⟩ := xD_put F he (dW_rf (e := e) (L := L) c1 (by omega) (by rw [a2 e (by unfold eL at he; omega)]; exact h5)) 0 (nI v)
          rw [b1']
          exact ⟨σ2, rfl, Or.inl ⟨f, hf, dW_tr (frC_of he a2) b2, τ1, rfl, c2, frS_of a4⟩⟩
        · simp only [if_neg (show ¬ (1 : Int32) = 0 by decide), c3]
          have hR1 : lwR e B n i' L h o σ1 τ1 := ⟨c1, c2, by rw [a2 e (by unfold eL at he; omega)]; exact h5, by rw [a4.2 12 (by unfold sN; omega)]; exact h12, by rw [a4.2 13 (by unfold sN; omega)]; exact h13, by rw [a4.2 11 (by unfold sN; omega)]; exact h11, by omega, by omega, hn, ho'⟩
          obtain ⟨σ2, τ2, b1', b2, b3, b4, b5, b6, b7, b8, b9⟩ := s_note F he hR1 (by omega) 0 v (by omega) a5
          have b1'' : mX3_put F e (0 : Int32) (nI v) σ1 = some σ2 := b1'
          have b2' : mX12_notes F (0 : Int32) (nI v) τ1 = some τ2 := b2
          rw [b1'', b2']
          simp only [Option.bind_some, if_neg (show ¬ (1 : Int32) = 0 by decide)]
          refine ⟨σ2, rfl, Or.inr ⟨i', L + 1, N, τ2, hi', by omega, by omega, by omega, rfl, b3, ?_, fun j hj => by rw [b9, a4.1 8 (by omega)], fun j hj => ⟨by rw [(b6 j hj).1, a2 (e + 1) (by unfold eL at he; omega)], by rw [(b6 j hj).2, a4.1 7 (by omega)]⟩, frC_tr (frC_of he a2) b7, frS_tr (frS_of a4) b8⟩⟩
          exact CODE_one (o := 0) (a := v) (by omega) a5 b4 b5 (by show b < 32; omega) (by show b + 1 < 32; omega) (fun ty t0 t1 => Or.inl ⟨by omega, fun h => by omega, by rw [t0], by rw [t0]; show b < 31; omega, by rw [t1, t0]⟩)
      · rw [if_neg d, if_pos rfl, m_here F hM]
        simp only [Option.bind_some]
        have hfo : mX12_factOf F (sg B n i) τ = some (-1) := by
          unfold sg
          by_cases ci : i < n
          · rw [if_pos ci]
            have e9 : ix 1 (B i) = -1 := Decidable.byContradiction (fun h => cl ⟨ci, h⟩)
            have := (lt_all (B i) (hB i)).1
            rw [e9] at this
            exact this
          · rw [if_neg ci]
            exact (by decide +kernel : mX12_factOf 0 (-1) (fun _ _ => 0) = some (-1))
        rw [hfo]
        simp only [Option.bind_some, if_true, hM.1]
        obtain ⟨σ1, a1, a2, a3⟩ := x_number F (by omega) hX (most := 5) (by omega)
        have a1' : mX10_number F (5 : Int32) σ = _ := a1
        have hnd : nd B n i 5 = 0 := by rw [nd, if_neg d]
        rw [if_pos rfl, if_pos hnd] at a2
        have hf : flt 1 i ≠ 0 := flt_ne (by omega) (by omega) (by omega)
        obtain ⟨σ2, b1', b2⟩ := xD_put F he (dW_rf (e := e) (L := L) a2 (by omega) (by rw [a3 e (by unfold eL at he; omega)]; exact h5)) 0 (nI (nv B n i 5 0))
        rw [a1']
        simp only [Option.bind_some]
        rw [b1']
        exact ⟨σ2, rfl, Or.inl ⟨_, hf, dW_tr (frC_of he a3) b2, js τ 0 9 (flt 1 i), rfl, js_at _ _ _ _, frS_js _ _ (Or.inr ⟨by omega, by omega⟩)⟩⟩
