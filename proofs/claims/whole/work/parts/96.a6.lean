theorem s_routine (F : Nat) (hF : 300 ≤ F) : S_routine F Inv := by
  intro σ τ x1 x2 hI
  obtain ⟨⟨⟨m, hm, t1, t2⟩, t3⟩, hW, hR, hK, hO, hLw⟩ := id hI
  unfold mX11_routine mX12_routine
  rw [isW, isI, isW, isI]
  rcases inr_c x1 0 15 with e | ⟨e, h1, h2⟩
  · simp only [e, Option.bind_some, if_true]
    exact ⟨-1, σ, τ, rfl, rfl, hI⟩
  obtain ⟨p, -, hp, rfl⟩ := inr_nat (a := 0) (b := 15) (by omega) (by omega) h1 h2
  simp only [e, Option.bind_some, if_neg (show ¬ (1 : Int32) = 0 by decide)]
  rcases inr_c x2 1 60 with e2 | ⟨e2, h3, h4⟩
  · simp only [e2, if_true]
    exact ⟨-1, σ, τ, rfl, rfl, hI⟩
  obtain ⟨n, hn1, hn, rfl⟩ := inr_nat (a := 1) (b := 60) (by omega) (by omega) h3 h4
  simp only [e2, Option.bind_some, if_neg (show ¬ (1 : Int32) = 0 by decide), x_has t1 hm (show n ≤ 260 by omega), t2]
  by_cases c : n ≤ m
  rotate_left
  · rw [if_neg c, if_pos (show nI m < nI n from nI_lt (by omega) (by omega))]
    exact ⟨-1, σ, τ, rfl, rfl, hI⟩
  rw [if_pos c, if_neg (show ¬ nI m < nI n from nI_nlt c (by omega)), if_neg (show ¬ (1 : Int32) = 0 by decide)]
  obtain ⟨σ1, τ1, a1, a2, a3, a4, a5, a6, a7, -, -⟩ := s_open F hI hn1 (show n ≤ 260 by omega)
  rw [a1, a2]
  simp only [Option.bind_some, ltE]
  unfold mX8_read mX8_readHours
  simp only [ltE]
  have hX0 : tpX (bb τ) n 0 0 (js σ1 33 4 0) := by
    obtain ⟨hB, h2, h3, h4, h5, h1, hi, hn, hb⟩ := a3
    refine ⟨hB, ?_, ?_, ?_, ?_, ?_, hi, hn, ?_⟩ <;> rw [js_c _ _ _ (by omega)] <;> assumption
  have hM0 : tpM (bb τ) n 0 (js (js τ1 0 33 0) 0 34 0) := tpM_js (tpM_js a4 _ (by omega) (by omega)) _ (by omega) (by omega)
  have hr0 : rtR (bb τ) n 0 0 0 (js σ1 33 4 0) (js (js τ1 0 33 0) 0 34 0) := ⟨hX0, hM0, ⟨by omega, js_at _ _ _ _, by rw [js_k _ _ (by omega), js_at]; rfl, fun j hj => absurd hj (by omega)⟩, js_at _ _ _ _⟩
  have f0d : ∀ d, d ≠ 0 → js (js τ1 0 33 0) 0 34 0 d = τ d := fun d hd => by rw [js_c _ _ _ hd, js_c _ _ _ hd, a6 d hd]
  have f0k : ∀ k, ¬ sR k → k ≠ 8 → k ≠ 12 → k ≠ 14 → js (js τ1 0 33 0) 0 34 0 0 k = τ 0 k := fun k hk h8 h12 h14 => by
    rw [js_k _ _ (fun e => hk (by rw [e]; exact Or.inr (Or.inr ⟨by omega, by omega⟩))), js_k _ _ (fun e => hk (by rw [e]; exact Or.inr (Or.inr ⟨by omega, by omega⟩))), a7 k (fun e => hk (by rw [e]; exact Or.inl rfl)) h8 h12 h14]
  have fX0 : frH σ (js σ1 33 4 0) := fun d h1 h2 h3 => by rw [js_c _ _ _ h2]; exact a5 d h1
  generalize hτ0 : js (js τ1 0 33 0) 0 34 0 = τ0 at hr0 f0d f0k
  have eE : (Option.bind (mX12_readsHour F τ0) fun q6 => lp_X12_routine_50 F (fun x1_9 x3_9 σ9 => jn_X12_routine_80 F x1_9 x3_9 σ9) F (nI p) q6.1 q6.2) = Zw F (nI p) F F τ0 := by
    unfold Zw Z1 Z0
    show (Option.bind (Option.bind (mX12_readsTimes F τ0) fun q1 => lp_X12_readsHour_4 F (zH F) F q1) fun q7 => lp_X12_routine_50 F (zK F) F (nI p) q7.1 q7.2) = _
    cases mX12_readsTimes F τ0 <;> rfl
  rw [eE]
  obtain ⟨σ2, b1, b2, b3⟩ := hours_0 F (by omega) (nI p) (bb τ) hn 0 0 F F (js σ1 33 4 0) τ0 hr0 (by omega) (by omega) (by omega)
  have b1' : rX8_readHours F 4 (0 : Int32) (js σ1 33 4 0) = some σ2 := b1
  rw [b1']
  simp only [Option.bind_some]
  have fX : frH σ σ2 := frH_tr fX0 b2
  rcases b3 with ⟨i', f, τ', q1, q2, q3, q4, q5⟩ | ⟨i', L', M', m', τ', q1, q2, q3, q4, q5, q6, q7, q8, q9⟩
  · rw [q3, q2.2.2.2.2.1, if_neg q1]
    unfold jn_X12_routine_80
    simp only [ltE, if_true, Option.bind_some]
    refine ⟨f, σ2, js τ' 0 6 0, rfl, by rw [js_k _ _ (by omega), q4], ?_⟩
    refine Inv_empty hI ⟨fun k _ => by rw [fX 0 (by omega) (by omega) (by omega)], fX 2 (by omega) (by omega) (by omega), fun c _ _ => fX c (by omega) (by omega) (by omega), fX 34 (by omega) (by omega) (by omega), fX 35 (by omega) (by omega) (by omega), fun c _ _ => fX c (by omega) (by omega) (by omega)⟩ q2.2.2.2.2.2.1 ⟨?_, ?_, ?_, ?_, ?_, ?_, ?_, ?_⟩ (js_at _ _ _ _)
    · rw [js_c _ _ _ (by omega), q5.1 1 (by omega) (by omega), f0d 1 (by omega)]
    · rw [js_c _ _ _ (by omega), q5.1 3 (by omega) (by omega), f0d 3 (by omega)]
    · rw [js_c _ _ _ (by omega), q5.1 4 (by omega) (by omega), f0d 4 (by omega)]
    · rw [js_c _ _ _ (by omega), q5.1 5 (by omega) (by omega), f0d 5 (by omega)]
    · rw [js_c _ _ _ (by omega), q5.1 6 (by omega) (by omega), f0d 6 (by omega)]
    · intro c h1 h2
      rw [js_c _ _ _ (by omega), q5.1 c (by omega) (by omega), f0d c (by omega)]
    · rw [js_k _ _ (by omega), q5.2 15 (by unfold sR; omega), f0k 15 (by unfold sR; omega) (by omega) (by omega) (by omega)]
    · rw [js_k _ _ (by omega), q5.2 50 (by unfold sR; omega), f0k 50 (by unfold sR; omega) (by omega) (by omega) (by omega)]
  · have hi' : i' = n := by
      rcases q3 with ⟨_, h⟩ | ⟨h, _⟩
      · exact h
      · exact absurd rfl h
    obtain ⟨m', rfl⟩ : ∃ k, m' = k + 1 := ⟨m' - 1, by omega⟩
    obtain ⟨M', rfl⟩ : ∃ k, M' = k + 1 := ⟨M' - 1, by omega⟩
    have eZ : Z2 F (nI p) (M' + 1) (m' + 1) τ' = jn_X12_routine_80 F (nI p) 1 τ' := by
      rw [Z2_out F (nI p) q7 (by omega) (Or.inl rfl)]
      refine Z0_end F (nI p) M' τ' ?_ ?_
      · rw [q7.2.1.1, q7.2.1.2.1]; exact nI_nlt (by omega) (by omega)
      · rw [q7.2.2.2]; decide
    obtain ⟨h24, h33, h33m, hv⟩ := q7.2.2.1
    obtain ⟨σ3, c1, c2, c3, c4⟩ := x_day F (by omega) (σ := σ2) (p := p) (L := L') (by omega) h33 h24
    rw [q6, eZ, q7.1.2.2.2.2.1, if_pos rfl, if_neg (nI_pos (by omega)), if_pos (lt16 (by omega)), c1]
    unfold jn_X12_routine_80
    simp only [ltE, if_neg (show ¬ (1 : Int32) = 0 by decide), Option.bind_some, jin_nI (show p < 16 by omega) (show 16 < 2 ^ 31 by omega), if_true, nI_clamp (show p < 2 ^ 31 by omega)]
    have e33 : js τ' 0 6 0 0 33 = nI L' := by rw [js_k _ _ (by omega)]; exact h33m
    rw [e33]
    obtain ⟨τ3, d1, d2, d3⟩ := m_day F (by omega) (τ := js (js τ' 0 6 0) 5 p (nI L')) (p := p) (L := L') (by omega) (by rw [js_c _ _ _ (by omega)]; exact e33) h24
    rw [d1]
    refine ⟨nI L', σ3, τ3, rfl, rfl, ?_⟩
    have hD : ∀ d, d ≠ 0 → d ≠ 4 → d ≠ 5 → (d < 20 ∨ 24 ≤ d) → τ3 d = τ d := fun d h0 h1 h2 h3 => by rw [d2 d h1, js_c _ _ _ h2, js_c _ _ _ h0, q8.1 d h0 h3, f0d d h0]
    have hS : ∀ k, k ≠ 6 → ¬ sR k → k ≠ 8 → k ≠ 12 → k ≠ 14 → τ3 0 k = τ 0 k := fun k h6 hk h8 h12 h14 => by rw [d2 0 (by omega), js_c _ _ _ (by omega), js_k _ _ h6, q8.2 k hk, f0k k hk h8 h12 h14]
    have hX : ∀ d, d ≠ 1 → d ≠ 33 → d ≠ 36 → d ≠ 34 → d ≠ 35 → σ3 d = σ d := fun d h1 h2 h3 h4 h5 => by rw [c2 d h4 h5, fX d h1 h2 h3]
    refine ⟨⟨⟨0, by omega, ?_, ?_⟩, ?_⟩, by rw [hD 1 (by omega) (by omega) (by omega) (by omega)]; exact hW, by rw [hD 1 (by omega) (by omega) (by omega) (by omega)]; exact cityR_congr hR (fun j hj => hX _ (by omega) (by omega) (by omega) (by omega) (by omega)), ?_, ⟨fun j hj => ?_, fun j hj => ?_⟩, ?_⟩
    · rw [c2 1 (by omega) (by omega)]; exact q7.1.2.2.2.2.2.1
    · rw [d2 0 (by omega), js_c _ _ _ (by omega), js_at]; rfl
    · rw [hX 2 (by omega) (by omega) (by omega) (by omega) (by omega), hD 6 (by omega) (by omega) (by omega) (by omega)]; exact t3
    · unfold keptR at hK ⊢
      rw [hX 0 (by omega) (by omega) (by omega) (by omega) (by omega), hS 50 (by omega) (by unfold sR; omega) (by omega) (by omega) (by omega), hD 3 (by omega) (by omega) (by omega) (by omega)]
      rcases hK with h | ⟨q1, q2, q3, q4⟩
      · exact Or.inl h
      · exact Or.inr ⟨q1, q2, q3, cityR_congr q4 (fun j hj => hX _ (by omega) (by omega) (by omega) (by omega) (by omega))⟩
    · rw [c3 j, d3 j]
      by_cases g : 24 * p ≤ j ∧ j < 24 * p + 24
      · rw [if_pos g, if_pos g]
        by_cases g2 : j - 24 * p < L'
        · rw [if_pos g2, if_pos g2, js_c _ _ _ (by omega), js_c _ _ _ (by omega)]
          exact hv _ g2
        · rw [if_neg g2, if_neg g2]
          exact ⟨rfl, 0, by omega, rfl⟩
      · rw [if_neg g, if_neg g, fX 34 (by omega) (by omega) (by omega), js_c _ _ _ (by omega), js_c _ _ _ (by omega), q8.1 4 (by omega) (by omega), f0d 4 (by omega)]
        exact hO.1 j hj
    · rw [c4 j, d2 5 (by omega)]
      by_cases g : j = p
      · rw [if_pos g, g, js_at]
      · rw [if_neg g, js_k _ _ g, js_c _ _ _ (by omega), q8.1 5 (by omega) (by omega), f0d 5 (by omega), fX 35 (by omega) (by omega) (by omega)]
        exact hO.2 j hj
    · exact lawI_congr hLw (by rw [hX 0 (by omega) (by omega) (by omega) (by omega) (by omega)]) (by rw [hX 0 (by omega) (by omega) (by omega) (by omega) (by omega)]) (fun c h1 h2 => hX c (by omega) (by omega) (by omega) (by omega) (by omega)) (fun c h1 h2 => hD c (by omega) (by omega) (by omega) (by omega)) (hS 15 (by omega) (by unfold sR; omega) (by omega) (by omega) (by omega))
