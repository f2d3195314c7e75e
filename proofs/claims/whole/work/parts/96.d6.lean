/-! ### a whole sum, a comparison -/
theorem s_sum (F : Nat) (hF : 300 ≤ F) {e : Nat} (he : eL e) {B : Nat → Nat} {n i L h o b : Nat} {σ τ : jS} (hR : lwR e B n i L h o σ τ) (hb : b ≤ 13 + 2 * o) (hbel : bel h τ) :
    ∃ σ', mX4_readSum F e (nI o) σ = some σ' ∧ ((∃ f, f ≠ 0 ∧ dW B n f e σ σ' ∧ ∃ τ', mX12_readsSum F τ = some (0, τ') ∧ τ' 0 9 = f ∧ frS τ τ') ∨
      (∃ i' L' τ', mX12_readsSum F τ = some (1, τ') ∧ i < i' ∧ L ≤ L' ∧ L' + i ≤ L + i' ∧ lwR e B n i' L' h o σ' τ' ∧ CODE e L L' (b, false) (b + 1, false) σ' τ' ∧ stW h τ τ' ∧ cdP e L σ σ' τ τ' ∧ frC e σ σ' ∧ frS τ τ')) := by
  obtain ⟨hX, hM, h5, h12, h13, h11, hLi, hhi, hn, ho⟩ := id hR
  have hin := hX.2.2.2.2.2.2.1
  unfold mX4_readSum
  rw [Xl_sum F τ h13]
  obtain ⟨σ', q1, q2⟩ := sum_all F hF he h B n 9 o ho (by omega) i L h b F F σ τ hR (Nat.le_refl h) hb (by omega) (by omega) hbel
  refine ⟨σ', q1, ?_⟩
  rcases q2 with q2 | ⟨i', L', N', τ2, τc, h2, q1, q2, q3, q4, q5, q6, q7, q8, q9, q10, q11, q12, q13, q14, q15, q16, q17, q18, q19, q20⟩
  · exact Or.inl q2
  · right
    have hi'n := q15.1.2.2.2.2.2.2.1
    obtain ⟨N', rfl⟩ : ∃ k, N' = k + 1 := ⟨N' - 1, by omega⟩
    have hopn : mX12_hasOpenSum F (nI h) τ2 = some 0 := m_open0 F hF q8 (by omega) q9 q11
    have hsg : mX12_sumSign F (sg B n i') τ2 = some (-1) := by
      have := m_opAt F hX.1 q7
      rw [q6, m_here F q7] at this
      exact this
    have e138 : Yk F (nI h) τ2 = some (1, τc) := by
      show jn_X12_readsSum_138 F (nI h) τ2 = _
      unfold jn_X12_readsSum_138
      rw [hopn]
      simp only [Option.bind_some, if_true, q14]
    have eY : Yl F h (N' + 1) τ2 = some (1, τc) := by
      unfold Yl
      rw [lp_X12_readsSum_14, m_here F q7]
      simp only [Option.bind_some, hsg, if_true, hopn, e138, ite_self]
    exact ⟨i', L', τc, by rw [q5, eY], q1, q2, q3, q15, q16, q17, q18, q19, q20⟩
def ender (F : Nat) (τ : jS) : Option (Int32 × jS) := Option.bind (mX12_endsPiece F τ) fun q8 => some ((1 : Int32), q8)
/-- two sums compared, up to what ends a piece -/
theorem s_comp (F : Nat) (hF : 300 ≤ F) {e : Nat} (he : eL e) {B : Nat → Nat} {n i L h o : Nat} {σ τ : jS} (hR : lwR e B n i L h o σ τ) (hbel : bel h τ) :
    ∃ σ', (Option.bind (mX4_readSum F e (nI o) σ) fun q3 => (Option.bind (mX4_stepOf F 2 (10 : Int32) q3) fun q4 => (if q4 = (-1 : Int32) then (Option.bind (mX10_fail F (1 : Int32) ((q3 1 3)) q3) fun q5 => some q5) else (Option.bind (mX10_step F q3) fun q6 => (Option.bind (mX4_readSum F e (nI o) q6) fun q7 => (Option.bind (mX3_put F e q4 (0 : Int32) q7) fun q8 => some q8)))))) = some σ' ∧
      ((∃ f, f ≠ 0 ∧ dW B n f e σ σ' ∧ ∃ τ', mX12_readsCompared F τ = some (0, τ') ∧ τ' 0 9 = f ∧ frS τ τ') ∨
      (∃ i' L' τ', mX12_readsCompared F τ = ender F τ' ∧ i < i' ∧ L ≤ L' ∧ L' + i ≤ L + i' ∧ lwR e B n i' L' h o σ' τ' ∧ CODE e L L' (0, false) (0, true) σ' τ' ∧ stW h τ τ' ∧ cdP e L σ σ' τ τ' ∧ frC e σ σ' ∧ frS τ τ')) := by
  obtain ⟨σ1, q1, q2⟩ := s_sum F hF he (b := 0) hR (by omega) hbel
  have e2n : e ≠ 1 ∧ e ≠ 2 ∧ e + 1 ≠ 1 ∧ e + 1 ≠ 2 := by unfold eL at he; omega
  unfold mX12_readsCompared
  rw [q1]
  simp only [Option.bind_some]
  rcases q2 with ⟨f, f0, fd, τ1, f1, f2, f3⟩ | ⟨i1, L1, τ1, r0, r1, r2, r3, r4, r5, r6, r7, r8, r9⟩
  · obtain ⟨i3, hi3⟩ := fd.1
    rw [xD_stepOf F f0 hi3, f1, x_failD F hi3 f0]
    simp only [Option.bind_some, if_true]
    exact ⟨σ1, rfl, Or.inl ⟨f, f0, fd, τ1, rfl, f2, f3⟩⟩
  · obtain ⟨hX, hM, h5, h12, h13, h11, hLi, hhi, hn, ho⟩ := id r4
    have hin := hX.2.2.2.2.2.2.1
    have hB := hX.1
    rw [r0]
    simp only [Option.bind_some, if_neg (show ¬ (1 : Int32) = 0 by decide)]
    have hstep : mX4_stepOf F 2 (10 : Int32) σ1 = some (if i1 < n ∧ (B i1 = 60 ∨ B i1 = 62 ∨ B i1 = 61) then nI (if B i1 = 60 then 10 else if B i1 = 62 then 11 else 12) else -1) := by
      unfold mX4_stepOf
      by_cases c : i1 < n
      · have es : sg B n i1 = nI (B i1) := by unfold sg; rw [if_pos c]
        rw [x_on1 F hX c, hX.2.2.2.1, es]
        simp only [Option.bind_some, if_neg (show ¬ (1 : Int32) = 0 by decide)]
        rw [x_index F (e := 2) σ1 (hB i1) (by decide) (by decide) (by omega)]
        simp only [Option.bind_some]
        rcases cp_all (B i1) (hB i1) with ⟨e1, e3, e4, e5⟩ | ⟨e1, e3⟩ | ⟨e1, e3⟩ | ⟨e1, e3⟩
        · rw [e1, if_pos (show (-1 : Int32) < 0 by decide), if_neg (by omega)]
        · rw [e1, if_neg (show ¬ nI 0 < 0 by decide), if_pos ⟨c, Or.inl e3⟩, if_pos e3]; rfl
        · rw [e1, if_neg (show ¬ nI 1 < 0 by decide), if_pos ⟨c, Or.inr (Or.inl e3)⟩, if_neg (by omega), if_pos e3]; rfl
        · rw [e1, if_neg (show ¬ nI 2 < 0 by decide), if_pos ⟨c, Or.inr (Or.inr e3)⟩, if_neg (by omega), if_neg (by omega)]; rfl
      · rw [x_on0 F hX c, if_neg (show ¬ (i1 < n ∧ (B i1 = 60 ∨ B i1 = 62 ∨ B i1 = 61)) from fun h => c h.1)]
        simp only [Option.bind_some, if_true, if_pos (show (-1 : Int32) < 0 by decide)]
    rw [hstep, m_here F hM]
    simp only [Option.bind_some]
    by_cases c : i1 < n ∧ (B i1 = 60 ∨ B i1 = 62 ∨ B i1 = 61)
    · -- which of the three
      obtain ⟨op, hop1, hop2, hopc, hopm⟩ : ∃ op, 10 ≤ op ∧ op ≤ 12 ∧ (if B i1 = 60 then 10 else if B i1 = 62 then 11 else 12) = op ∧ (if sg B n i1 = (60 : Int32) then jn_X12_readsCompared_52 F (7 : Int32) τ1 else (if sg B n i1 = (62 : Int32) then jn_X12_readsCompared_52 F (8 : Int32) τ1 else (if sg B n i1 = (61 : Int32) then jn_X12_readsCompared_52 F (9 : Int32) τ1 else jn_X12_readsCompared_52 F (-1 : Int32) τ1))) = jn_X12_readsCompared_52 F (nI (opM op)) τ1 := by
        have s60 := sg_eq hB n i1 (c := 60) (by omega)
        have s62 := sg_eq hB n i1 (c := 62) (by omega)
        have s61 := sg_eq hB n i1 (c := 61) (by omega)
        rcases c.2 with e1 | e1 | e1
        · exact ⟨10, by omega, by omega, by rw [if_pos e1], by rw [if_pos (show sg B n i1 = (60 : Int32) from s60.mpr ⟨c.1, e1⟩)]; rfl⟩
        · exact ⟨11, by omega, by omega, by rw [if_neg (by omega), if_pos e1], by rw [if_neg (show ¬ sg B n i1 = (60 : Int32) from fun h => by have := (s60.mp h).2; omega), if_pos (show sg B n i1 = (62 : Int32) from s62.mpr ⟨c.1, e1⟩)]; rfl⟩
        · exact ⟨12, by omega, by omega, by rw [if_neg (by omega), if_neg (by omega)], by rw [if_neg (show ¬ sg B n i1 = (60 : Int32) from fun h => by have := (s60.mp h).2; omega), if_neg (show ¬ sg B n i1 = (62 : Int32) from fun h => by have := (s62.mp h).2; omega), if_pos (show sg B n i1 = (61 : Int32) from s61.mpr ⟨c.1, e1⟩)]; rfl⟩
      rw [hopm]
      simp only [if_pos c, hopc, if_neg (m1_ne op (by omega))]
      have hom : opM op = op - 3 := by
        rcases (show op = 10 ∨ op = 11 ∨ op = 12 by omega) with rfl | rfl | rfl <;> rfl
      unfold jn_X12_readsCompared_52
      rw [if_neg (m1_ne (opM op) (by omega)), ltE]
      obtain ⟨σ2, a1, a2, a3⟩ := x_step1 F hX c.1
      rw [a1]
      simp only [Option.bind_some]
      have hM2 := tpM_step hM c.1
      have fS2 : frS τ1 (js τ1 0 7 (τ1 0 7 + 1)) := frS_js _ _ (Or.inl rfl)
      have hR2 : lwR e B n (i1 + 1) L1 h o σ2 (js τ1 0 7 (τ1 0 7 + 1)) := ⟨a2, hM2, by rw [a3 e (by omega)]; exact h5, by rw [js_k _ _ (by omega)]; exact h12, by rw [js_k _ _ (by omega)]; exact h13, by rw [js_k _ _ (by omega)]; exact h11, by omega, by omega, hn, ho⟩
      have st2 : stW h τ1 (js τ1 0 7 (τ1 0 7 + 1)) := fun j _ => by rw [js_c _ _ _ (by omega)]
      obtain ⟨σ3, p1, p2⟩ := s_sum F hF he (b := 1) hR2 (by omega) (bel_st (bel_st hbel r6) st2)
      rw [p1]
      simp only [Option.bind_some]
      rcases p2 with ⟨f, f0, fd, τ3, f1, f2, f3⟩ | ⟨i3, L3, τ3, u0, u1, u2, u3, u4, u5, u6, u7, u8, u9⟩
      · obtain ⟨σ4, s1, s2⟩ := xD_put F he (dW_self fd) (nI op) 0
        rw [s1, f1]
        simp only [Option.bind_some, if_true]
        exact ⟨σ4, rfl, Or.inl ⟨f, f0, dW_tr (frC_tr r8 (frC_of he a3)) (dW_tr2 fd s2), τ3, rfl, f2, frS_tr (frS_tr r9 fS2) f3⟩⟩
      · rw [u0]
        simp only [Option.bind_some, if_neg (show ¬ (1 : Int32) = 0 by decide)]
        obtain ⟨σ4, τ4, b1', b2, b3, b4, b5, b6, b7, b8, b9⟩ := s_note F he u4 (by have := r4.2.2.2.2.2.2.1; omega) op 0 (by omega) (by omega)
        have b1'' : mX3_put F e (nI op) (0 : Int32) σ3 = some σ4 := b1'
        have b2' : mX12_notes F (nI (opM op)) (0 : Int32) τ3 = some τ4 := b2
        rw [b1'', b2']
        simp only [Option.bind_some]
        refine ⟨σ4, rfl, Or.inr ⟨i3, L3 + 1, τ4, rfl, by omega, by omega, by omega, b3, ?_, ?_, ?_, frC_tr r8 (frC_tr (frC_of he a3) (frC_tr u8 b7)), frS_tr r9 (frS_tr fS2 (frS_tr u9 b8))⟩⟩
        · have k1 : CODE e L L1 (0, false) (1, false) σ4 τ4 := CODE_keep r5 (fun j _ hj => ⟨by rw [(b6 j (by omega)).1, (u7 j (by omega)).1, a3 (e + 1) (by omega)], by rw [(b6 j (by omega)).2, (u7 j (by omega)).2, js_c _ _ _ (by omega)]⟩)
          have k2 : CODE e L1 L3 (1, false) (2, false) σ4 τ4 := CODE_keep u5 (fun j _ hj => b6 j hj)
          have k3 : CODE e L3 (L3 + 1) (2, false) (0, true) σ4 τ4 := CODE_one (o := op) (a := 0) (by omega) (by omega) b4 b5 (by decide) (by decide) (fun ty t0 t1 => Or.inr (Or.inr (Or.inr (Or.inr ⟨hop1, hop2, by rw [t0], by rw [t0]; decide, by rw [t1, t0]; rfl⟩))))
          exact CODE_cat (by omega) (by omega) (CODE_cat (by omega) (by omega) k1 k2 (fun _ _ _ => ⟨rfl, rfl⟩)) k3 (fun _ _ _ => ⟨rfl, rfl⟩)
        · exact fun j hj => by rw [b9, u6 j hj, st2 j hj, r6 j hj]
        · exact fun j hj => ⟨by rw [(b6 j (by omega)).1, (u7 j (by omega)).1, a3 (e + 1) (by omega), (r7 j hj).1], by rw [(b6 j (by omega)).2, (u7 j (by omega)).2, js_c _ _ _ (by omega), (r7 j hj).2]⟩
    · have hf : flt 1 i1 ≠ 0 := flt_ne (by omega) (by omega) (by omega)
      obtain ⟨σ2, a1, a2, a3⟩ := x_fail0 F hX 1 i1
      have a1' : mX10_fail F (1 : Int32) (nI i1) σ1 = some σ2 := a1
      simp only [if_neg c, if_true, hX.2.2.1, a1', Option.bind_some]
      have hopm : (if sg B n i1 = (60 : Int32) then jn_X12_readsCompared_52 F (7 : Int32) τ1 else (if sg B n i1 = (62 : Int32) then jn_X12_readsCompared_52 F (8 : Int32) τ1 else (if sg B n i1 = (61 : Int32) then jn_X12_readsCompared_52 F (9 : Int32) τ1 else jn_X12_readsCompared_52 F (-1 : Int32) τ1))) = some (0, js τ1 0 9 (flt 1 i1)) := by
        have s60 := sg_eq hB n i1 (c := 60) (by omega)
        have s62 := sg_eq hB n i1 (c := 62) (by omega)
        have s61 := sg_eq hB n i1 (c := 61) (by omega)
        rw [if_neg (show ¬ sg B n i1 = (60 : Int32) from fun h => c ⟨(s60.mp h).1, Or.inl (s60.mp h).2⟩), if_neg (show ¬ sg B n i1 = (62 : Int32) from fun h => c ⟨(s62.mp h).1, Or.inr (Or.inl (s62.mp h).2)⟩), if_neg (show ¬ sg B n i1 = (61 : Int32) from fun h => c ⟨(s61.mp h).1, Or.inr (Or.inr (s61.mp h).2)⟩)]
        unfold jn_X12_readsCompared_52
        rw [if_pos rfl, hM.1]
        rfl
      rw [hopm]
      exact ⟨σ2, rfl, Or.inl ⟨_, hf, dW_tr r8 (dW_fm he a2 (show L1 ≤ 240 by omega) h5 a3), _, rfl, js_at _ _ _ _, frS_tr r9 (frS_js _ _ (Or.inr ⟨by omega, by omega⟩))⟩⟩
