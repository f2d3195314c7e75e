/-! ===== the stillest hour ===== -/
theorem s_all {F e : Nat} (hF : 300 ≤ F) {σ τ : jS} (hc : cy 3 e σ τ) (h11 : σ 0 11 = nI e) {h : Nat} (hh : h < 24) : ∃ v, v ≤ 244800 ∧ (∀ σ', sX σ σ' → ∃ σ'', mX11_costOfAll F (nI h) σ' = some (nI v, σ'') ∧ sX σ σ'') ∧ ∀ τ', sM τ τ' → ∃ τ'', mX12_costsOfAll F (nI h) τ' = some (nI v, τ'') ∧ sM τ τ'' := by
  have run : ∀ σ' τ', sX σ σ' → sM τ τ' → ∃ v σ'' τ'', v ≤ 244800 ∧ mX11_costOfAll F (nI h) σ' = some (nI v, σ'') ∧ mX12_costsOfAll F (nI h) τ' = some (nI v, τ'') ∧ sX σ σ'' ∧ sM τ τ'' := by
    intro σ' τ' hX hM
    unfold mX11_costOfAll mX12_costsOfAll
    refine loop_q (fun m y (a : Int32 × jS) => lp_X11_costOfAll_4 F m (nI h) a.1 y a.2) (fun m y (b : Int32 × jS) => lp_X12_costsOfAll_4 F m (nI h) b.1 y b.2) 16 (fun i a b => ∃ v, v ≤ 15300 * i ∧ a.1 = nI v ∧ b.1 = nI v ∧ sX σ a.2 ∧ sM τ b.2) (fun r s => ∃ v σ' τ', v ≤ 244800 ∧ r = some (nI v, σ') ∧ s = some (nI v, τ') ∧ sX σ σ' ∧ sM τ τ') ?_ ?_ F 0 (0, σ') (0, τ') (by omega) (by omega) ⟨0, by omega, rfl, rfl, hX, hM⟩
    · intro m i a b hi hP
      obtain ⟨a0, σa⟩ := a
      obtain ⟨b0, τb⟩ := b
      obtain ⟨v, v2, e1, e2, g1, g3⟩ := hP
      have e1 : a0 = nI v := e1
      have e2 : b0 = nI v := e2
      have g1 : sX σ σa := g1
      have g3 : sM τ τb := g3
      subst e1
      subst e2
      right
      show ∃ (a' b' : Int32 × jS), _ ∧ lp_X11_costOfAll_4 F (m + 1) (nI h) (nI v) (nI i) σa = lp_X11_costOfAll_4 F m (nI h) a'.1 (nI (i + 1)) a'.2 ∧ lp_X12_costsOfAll_4 F (m + 1) (nI h) (nI v) (nI i) τb = lp_X12_costsOfAll_4 F m (nI h) b'.1 (nI (i + 1)) b'.2
      have hc2 := cy_tr hc g1 g3
      rw [lp_X11_costOfAll_4, lp_X12_costsOfAll_4, if_pos (lt16 hi), if_pos (lt16 hi), x0_live hc2.2.2.2.1, m_live hc2.2.2.1, tl_in _ hi]
      simp only [Option.bind_some]
      by_cases c1 : τb 1 (48 + i) = 0
      · rw [if_pos c1, if_pos c1, nI1]
        exact ⟨(nI v, σa), (nI v, τb), ⟨v, by omega, rfl, rfl, g1, g3⟩, rfl, rfl⟩
      rw [if_neg c1, if_neg c1]
      obtain ⟨w, σ1, τ1, w1, w2, w3, w4, w5⟩ := s_one hF hc2 (by rw [g1 0 (by omega) (by omega)]; exact h11) hi hh
      rw [w2, w3]
      simp only [Option.bind_some, ltE, nI_add, nI1]
      exact ⟨(nI (v + w), σ1), (nI (v + w), τ1), ⟨v + w, by omega, rfl, rfl, sX_tr g1 w4, sM_tr g3 w5⟩, rfl, rfl⟩
    · intro m a b hP
      obtain ⟨a0, σa⟩ := a
      obtain ⟨b0, τb⟩ := b
      obtain ⟨v, v2, e1, e2, g1, g3⟩ := hP
      have e1 : a0 = nI v := e1
      have e2 : b0 = nI v := e2
      subst e1
      subst e2
      show ∃ v σ' τ', _ ∧ lp_X11_costOfAll_4 F (m + 1) (nI h) _ (nI 16) σa = some (nI v, σ') ∧ lp_X12_costsOfAll_4 F (m + 1) (nI h) _ (nI 16) τb = some (nI v, τ') ∧ _
      rw [lp_X11_costOfAll_4, lp_X12_costsOfAll_4, if_neg nlt16, if_neg nlt16]
      exact ⟨v, σa, τb, by omega, rfl, rfl, g1, g3⟩
  obtain ⟨v, σ1, τ1, v1, r1, r2, -, -⟩ := run σ τ (sX_rf _) (sM_rf _)
  refine ⟨v, v1, fun σ' hX => ?_, fun τ' hM => ?_⟩
  · obtain ⟨w, σ2, τ2, -, q1, q2, q3, -⟩ := run σ' τ hX (sM_rf _)
    rw [r2] at q2
    have q2 := Option.some.inj q2
    have ew : nI v = nI w := congrArg Prod.fst q2
    exact ⟨σ2, by rw [ew]; exact q1, q3⟩
  · obtain ⟨w, σ2, τ2, -, q1, q2, -, q3⟩ := run σ τ' (sX_rf _) hM
    rw [r1] at q1
    have q1 := Option.some.inj q1
    have ew : nI v = nI w := congrArg Prod.fst q1
    exact ⟨τ2, by rw [ew]; exact q2, q3⟩
theorem s_stillest (F : Nat) (hF : 300 ≤ F) : S_stillest F Inv := by
  intro σ τ x1 hI
  obtain ⟨-, hW, hR, -, -, -⟩ := id hI
  obtain ⟨e, hc, h11⟩ := cy_Inv hI
  have ex : ∀ h, ∃ v, h < 24 → v ≤ 244800 ∧ (∀ σ', sX σ σ' → ∃ σ'', mX11_costOfAll F (nI h) σ' = some (nI v, σ'') ∧ sX σ σ'') ∧ ∀ τ', sM τ τ' → ∃ τ'', mX12_costsOfAll F (nI h) τ' = some (nI v, τ'') ∧ sM τ τ'' := by
    intro h
    by_cases c : h < 24
    · obtain ⟨v, q⟩ := s_all hF hc h11 c
      exact ⟨v, fun _ => q⟩
    · exact ⟨0, fun a => absurd a c⟩
  obtain ⟨f, hf⟩ := Classical.skolem.mp ex
  unfold mX11_stillest mX12_stillest
  rw [isW, isI]
  rcases inr_c x1 0 1 with e2 | ⟨e2, -, -⟩
  · rw [e2]; exact ⟨-1, σ, τ, rfl, rfl, hI⟩
  rw [e2]
  simp only [Option.bind_some, if_neg (show ¬ (1 : Int32) = 0 by decide)]
  obtain ⟨f0, cX, -⟩ := hf 0 (by omega)
  obtain ⟨σ1, u1, u2⟩ := cX σ (sX_rf _)
  rw [show mX11_costOfAll F (0 : Int32) σ = some (nI (f 0), σ1) from u1]
  simp only [Option.bind_some]
  refine loop_q (fun m y (a : (Int32 × Int32) × jS) => lp_X11_stillest_22 F m x1 a.1.1 a.1.2 y a.2) (fun m y (b : Int32 × jS) => lp_X12_stillest_15 F (fun x1_4 x2_4 σ4 => (if x1_4 = 0 then some (x2_4, σ4) else (Option.bind (mX12_costsOfAll F x2_4 σ4) fun q5 => some (q5.1, q5.2)))) m x1 b.1 y b.2) 24 (fun i a b => sX σ a.2 ∧ sM τ b.2 ∧ ∃ q, q < 24 ∧ b.1 = nI q ∧ a.1 = (nI q, nI (f q))) (fun r s => ∃ z σ' τ', r = some (z, σ') ∧ s = some (z, τ') ∧ Inv σ' τ') ?_ ?_ F 1 ((0, nI (f 0)), σ1) (0, τ) (by omega) (by omega) ⟨u2, sM_rf _, 0, by omega, rfl, rfl⟩
  · intro m i a b hi hP
    obtain ⟨a0, σa⟩ := a
    obtain ⟨b1, τb⟩ := b
    obtain ⟨g1, g2, q, q0, q1, q2⟩ := hP
    have g1 : sX σ σa := g1
    have g2 : sM τ τb := g2
    have q1 : b1 = nI q := q1
    have q2 : a0 = (nI q, nI (f q)) := q2
    subst q1
    subst q2
    right
    show ∃ (a' : (Int32 × Int32) × jS) (b' : Int32 × jS), _ ∧ lp_X11_stillest_22 F (m + 1) x1 (nI q) (nI (f q)) (nI i) σa = lp_X11_stillest_22 F m x1 a'.1.1 a'.1.2 (nI (i + 1)) a'.2 ∧ lp_X12_stillest_15 F _ (m + 1) x1 (nI q) (nI i) τb = lp_X12_stillest_15 F _ m x1 b'.1 (nI (i + 1)) b'.2
    obtain ⟨-, cX, cM⟩ := hf i hi
    obtain ⟨-, -, cMq⟩ := hf q q0
    obtain ⟨σ2, w1, w2⟩ := cX σa g1
    obtain ⟨τ1, w3, w4⟩ := cM τb g2
    obtain ⟨τ2, w5, w6⟩ := cMq τ1 w4
    rw [lp_X11_stillest_22, lp_X12_stillest_15, if_pos (lt24 hi), if_pos (lt24 hi), w1, w3]
    simp only [Option.bind_some]
    rw [w5]
    simp only [Option.bind_some, nI1]
    by_cases c2 : nI (f i) < nI (f q)
    · rw [if_pos c2, if_pos c2]
      exact ⟨((nI i, nI (f i)), σ2), (nI i, τ2), ⟨w2, w6, i, hi, rfl, rfl⟩, rfl, rfl⟩
    · rw [if_neg c2, if_neg c2]
      exact ⟨((nI q, nI (f q)), σ2), (nI q, τ2), ⟨w2, w6, q, q0, rfl, rfl⟩, rfl, rfl⟩
  · intro m a b hP
    obtain ⟨a0, σa⟩ := a
    obtain ⟨b1, τb⟩ := b
    obtain ⟨g1, g2, q, q0, q1, q2⟩ := hP
    have g1 : sX σ σa := g1
    have g2 : sM τ τb := g2
    have q1 : b1 = nI q := q1
    have q2 : a0 = (nI q, nI (f q)) := q2
    subst q1
    subst q2
    show ∃ z σ' τ', lp_X11_stillest_22 F (m + 1) x1 (nI q) (nI (f q)) (nI 24) σa = some (z, σ') ∧ lp_X12_stillest_15 F _ (m + 1) x1 (nI q) (nI 24) τb = some (z, τ') ∧ Inv σ' τ'
    obtain ⟨-, -, cMq⟩ := hf q q0
    obtain ⟨τ2, w5, w6⟩ := cMq τb g2
    rw [lp_X11_stillest_22, lp_X12_stillest_15, if_neg nlt24, if_neg nlt24, w5]
    by_cases c : x1 = 0
    · rw [if_pos c, if_pos c]
      exact ⟨_, σa, τb, rfl, rfl, Inv_sc hI g1 g2⟩
    · rw [if_neg c, if_neg c]
      exact ⟨_, σa, τ2, rfl, rfl, Inv_sc hI g1 w6⟩
