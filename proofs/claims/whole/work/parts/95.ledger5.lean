theorem x_copyL (F : Nat) (σ : jS) : ∃ σ', mX6_copy F 6 38 σ = some σ' ∧ (∀ d, (d < 6 ∨ 13 ≤ d) → σ' d = σ d) ∧ σ' 6 6 = σ 38 6 ∧ ∀ x l, x < 6 → l < 24 → σ' (7 + x) l = σ (39 + x) l := by
  unfold mX6_copy
  simp only [ltE, show (6 + 1 : Nat) = 7 from rfl, show (6 + 2 : Nat) = 8 from rfl, show (6 + 3 : Nat) = 9 from rfl, show (6 + 4 : Nat) = 10 from rfl, show (6 + 5 : Nat) = 11 from rfl, show (6 + 6 : Nat) = 12 from rfl, show (38 + 1 : Nat) = 39 from rfl, show (38 + 2 : Nat) = 40 from rfl, show (38 + 3 : Nat) = 41 from rfl, show (38 + 4 : Nat) = 42 from rfl, show (38 + 5 : Nat) = 43 from rfl, show (38 + 6 : Nat) = 44 from rfl]
  refine ⟨_, rfl, ?_, ?_, ?_⟩
  · intro d hd
    rw [js_c _ _ _ (by omega), jcp_c _ _ _ _ (by omega), jcp_c _ _ _ _ (by omega), jcp_c _ _ _ _ (by omega), jcp_c _ _ _ _ (by omega), jcp_c _ _ _ _ (by omega), jcp_c _ _ _ _ (by omega)]
  · rw [js_at, jcp_c _ _ _ _ (by omega), jcp_c _ _ _ _ (by omega), jcp_c _ _ _ _ (by omega), jcp_c _ _ _ _ (by omega), jcp_c _ _ _ _ (by omega), jcp_c _ _ _ _ (by omega)]
  · intro x l hx hl
    rw [js_c _ _ _ (by omega)]
    rcases (show x = 0 ∨ x = 1 ∨ x = 2 ∨ x = 3 ∨ x = 4 ∨ x = 5 by omega) with rfl | rfl | rfl | rfl | rfl | rfl
    · rw [jcp_c _ _ _ _ (by omega), jcp_c _ _ _ _ (by omega), jcp_c _ _ _ _ (by omega), jcp_c _ _ _ _ (by omega), jcp_c _ _ _ _ (by omega), jcp_b _ _ _ _ hl]
    · rw [jcp_c _ _ _ _ (by omega), jcp_c _ _ _ _ (by omega), jcp_c _ _ _ _ (by omega), jcp_c _ _ _ _ (by omega), jcp_b _ _ _ _ hl, jcp_c _ _ _ _ (by omega)]
    · rw [jcp_c _ _ _ _ (by omega), jcp_c _ _ _ _ (by omega), jcp_c _ _ _ _ (by omega), jcp_b _ _ _ _ hl, jcp_c _ _ _ _ (by omega), jcp_c _ _ _ _ (by omega)]
    · rw [jcp_c _ _ _ _ (by omega), jcp_c _ _ _ _ (by omega), jcp_b _ _ _ _ hl, jcp_c _ _ _ _ (by omega), jcp_c _ _ _ _ (by omega), jcp_c _ _ _ _ (by omega)]
    · rw [jcp_c _ _ _ _ (by omega), jcp_b _ _ _ _ hl, jcp_c _ _ _ _ (by omega), jcp_c _ _ _ _ (by omega), jcp_c _ _ _ _ (by omega), jcp_c _ _ _ _ (by omega)]
    · rw [jcp_b _ _ _ _ hl, jcp_c _ _ _ _ (by omega), jcp_c _ _ _ _ (by omega), jcp_c _ _ _ _ (by omega), jcp_c _ _ _ _ (by omega), jcp_c _ _ _ _ (by omega)]
theorem row_at {σ τ : jS} {l x : Nat} (h : rowL σ τ l) (hx : x < 6) : ∃ v : Nat, σ (39 + x) l = nI v ∧ τ 24 (5 * l + (if x = 5 then 2 else x)) = nI v ∧ v ≤ (if x < 2 then 15 else if x = 2 then 999999 else if x = 3 then 99 else if x = 4 then 9999 else 999999) := by
  obtain ⟨a, b, v, r, d, q1, q2, q3, q4, q5, p1, p2, p3, p4, p5, p6, r1, r2, r3, r4, r5⟩ := h
  rcases (show x = 0 ∨ x = 1 ∨ x = 2 ∨ x = 3 ∨ x = 4 ∨ x = 5 by omega) with rfl | rfl | rfl | rfl | rfl | rfl
  · exact ⟨a, p1, r1, by simp; omega⟩
  · exact ⟨b, p2, r2, by simp; omega⟩
  · exact ⟨v, p3, r3, by simp; omega⟩
  · exact ⟨r, p4, r4, by simp; omega⟩
  · exact ⟨d, p5, r5, by simp; omega⟩
  · exact ⟨v, p6, r3, by simp; omega⟩
theorem ld_city {σ τ σ' τ' : jS} {k : Nat} (hL : loR k σ τ) {t : Nat → Int32} (hW : cityW t) (hR : cityR 3 σ t) (ht : ∀ j, j ≠ 208 → τ 1 j = t j) (h8 : τ 1 208 = nI k) (hT : ∀ j, τ' 1 j = ldT τ k j)
    (c1 : ∀ d, (d < 6 ∨ 13 ≤ d) → σ' d = σ d) (c2 : σ' 6 6 = σ 38 6) (c3 : ∀ x l, x < 6 → l < 24 → σ' (7 + x) l = σ (39 + x) l) : cityW (τ' 1) ∧ cityR 3 σ' (τ' 1) := by
  obtain ⟨hk, h38, h38m, hr⟩ := hL
  have hlow : ∀ j, j < 64 → τ' 1 j = t j := fun j hj => by
    rw [hT j]
    unfold ldT
    rw [if_neg (by omega), if_neg (by omega), ht j (by omega)]
  have h208 : τ' 1 208 = nI k := by
    rw [hT]
    unfold ldT
    rw [if_neg (by omega), if_neg (by omega), h8]
  have hhi : ∀ j, 209 ≤ j → τ' 1 j = t j := fun j hj => by
    rw [hT j]
    unfold ldT
    rw [if_neg (by omega), if_neg (by omega), ht j (by omega)]
  have hold : ∀ j, 64 ≤ j → j < 208 → ¬ (j - 64) % 24 < k → τ' 1 j = t j := fun j h1 h2 h3 => by
    rw [hT j]
    unfold ldT
    rw [if_neg (by omega), if_neg (by omega), ht j (by omega)]
  have hnew : ∀ j, 64 ≤ j → j < 208 → (j - 64) % 24 < k → ∃ v : Nat, σ (39 + (j - 64) / 24) ((j - 64) % 24) = nI v ∧ τ' 1 j = nI v ∧ v ≤ (if (j - 64) / 24 < 2 then 15 else if (j - 64) / 24 = 2 then 999999 else if (j - 64) / 24 = 3 then 99 else if (j - 64) / 24 = 4 then 9999 else 999999) := fun j h1 h2 h3 => by
    obtain ⟨v, e1, e2, e3⟩ := row_at (hr _ h3) (show (j - 64) / 24 < 6 by omega)
    refine ⟨v, e1, ?_, e3⟩
    rw [hT j, ← e2]
    unfold ldT
    by_cases g : j < 184
    · rw [if_pos (by omega), if_neg (by omega)]
    · rw [if_neg (by omega), if_pos (by omega), if_pos (by omega), show 5 * ((j - 64) % 24) + 2 = 5 * (j - 184) + 2 by omega]
  refine ⟨⟨fun i hi => ?_, fun p hp h1 => ?_⟩, ?_, ?_, fun i hi => ?_⟩
  · by_cases g1 : i < 64
    · rw [hlow i g1]; exact hW.1 i hi
    · by_cases g2 : i < 208
      · by_cases g3 : (i - 64) % 24 < k
        · obtain ⟨v, _, e2, e3⟩ := hnew i (by omega) g2 g3
          rw [e2]
          refine ⟨v, rfl, ?_⟩
          rw [if_neg (by omega), if_neg (by omega), if_neg (by omega), if_neg (by omega)]
          by_cases q1 : i < 112
          · rw [if_pos q1]; rw [if_pos (by omega)] at e3; exact e3
          · rw [if_neg (by omega)] at e3
            rw [if_neg q1]
            by_cases q2 : i < 136
            · rw [if_pos q2]; rw [if_pos (by omega)] at e3; exact e3
            · rw [if_neg (by omega)] at e3
              rw [if_neg q2]
              by_cases q3 : i < 160
              · rw [if_pos q3]; rw [if_pos (by omega)] at e3; exact e3
              · rw [if_neg (by omega)] at e3
                rw [if_neg q3]
                by_cases q4 : i < 184
                · rw [if_pos q4]; rw [if_pos (by omega)] at e3; exact e3
                · rw [if_neg (by omega)] at e3
                  rw [if_neg q4, if_pos g2]
                  omega
        · rw [hold i (by omega) g2 g3]; exact hW.1 i hi
      · by_cases g3 : i = 208
        · subst g3
          rw [h208]
          exact ⟨k, rfl, by simpa using hk⟩
        · rw [hhi i (by omega)]; exact hW.1 i hi
  · rw [hlow (48 + p) (by omega)] at h1
    rw [hlow p (by omega), hlow (16 + p) (by omega)]
    exact hW.2 p hp h1
  · rw [c1 3 (by omega)]
    exact bitsR_congr hR.1 (fun p hp => hlow p (by omega))
  · rw [c1 3 (by omega)]
    exact bitsR_congr hR.2.1 (fun p hp => hlow (48 + p) (by omega))
  · rw [h208] at hi
    rcases hi with h | ⟨h1, h2, h3⟩ | ⟨h1, h2⟩
    · have := hR.2.2 i (Or.inl h)
      rw [hlow i (by omega), ← this]
      unfold cellX
      by_cases g : i < 32
      · rw [if_pos g, c1 _ (by omega)]
      · rw [if_neg g, if_pos (by omega), c1 _ (by omega)]
    · have h3' : (i - 64) % 24 < k := by
        rcases Nat.lt_or_ge ((i - 64) % 24) k with g | g
        · exact g
        · exact absurd h3 (nI_nlt g (by omega))
      obtain ⟨v, e1, e2, _⟩ := hnew i h1 h2 h3'
      rw [e2, ← e1]
      unfold cellX slotX
      rw [if_neg (by omega), if_neg (by omega), if_pos h2, if_neg (by omega), if_neg (by omega), if_pos h2]
      exact c3 _ _ (by omega) (Nat.mod_lt _ (by omega))
    · by_cases g : i = 208
      · subst g
        rw [h208]
        show σ' 6 6 = nI k
        rw [c2, h38]
      · have := hR.2.2 i (Or.inr (Or.inr ⟨h1, h2⟩))
        rw [hhi i (by omega), ← this]
        unfold cellX
        rw [if_neg (by omega), if_neg (by omega), if_neg (by omega), if_neg g, c1 _ (by omega)]
/-! ### a text begins, in both -/
theorem s_open (F : Nat) {σ τ : jS} (hI : Inv σ τ) {n : Nat} (h1 : 1 ≤ n) (hn : n ≤ 260) : ∃ σ' τ', mX10_open F (nI n) σ = some σ' ∧ mX12_beginsText F (nI n) τ = some τ' ∧ tpX (bb τ) n 0 0 σ' ∧ tpM (bb τ) n 0 τ' ∧ frm σ σ' ∧ (∀ d, d ≠ 0 → τ' d = τ d) ∧ (∀ k, k ≠ 7 → k ≠ 8 → k ≠ 12 → k ≠ 14 → τ' 0 k = τ 0 k) ∧ τ' 0 12 = 0 ∧ τ' 0 14 = 0 := by
  obtain ⟨σ', a1, a2, a3, a4, a5, a6, a7⟩ := x10_open F σ hn
  refine ⟨σ', _, a1, rfl, ⟨fun j => (bb_n τ j).1, a4, a5, ?_, a7, a3, by omega, hn, fun j hj => ?_⟩, ⟨?_, ?_, by omega, hn, fun j hj => ?_⟩, fun d hd => a2 d hd, ?_, ?_, ?_, ?_⟩
  · rw [a6, if_pos (by omega)]
    unfold sg
    rw [if_pos (by omega), hI.1.2 0 (by omega), (bb_n τ 0).2]
  · rw [a2 2 (by omega), hI.1.2 j hj, (bb_n τ j).2]
  · rw [js_k _ _ (by omega), js_k _ _ (by omega), js_k _ _ (by omega), js_at]; rfl
  · rw [js_k _ _ (by omega), js_k _ _ (by omega), js_at]
  · rw [js_c _ _ _ (by omega), js_c _ _ _ (by omega), js_c _ _ _ (by omega), js_c _ _ _ (by omega)]
    exact (bb_n τ j).2
  · intro d hd
    rw [js_c _ _ _ hd, js_c _ _ _ hd, js_c _ _ _ hd, js_c _ _ _ hd]
  · intro k h1 h2 h3 h4
    rw [js_k _ _ h4, js_k _ _ h3, js_k _ _ h2, js_k _ _ h1]
  · rw [js_k _ _ (by omega), js_at]
  · rw [js_at]
theorem s_ledger (F : Nat) (hF : 300 ≤ F) : S_ledger F Inv := by
  intro σ τ x hI
  obtain ⟨⟨⟨m, hm, t1, t2⟩, t3⟩, hW, hR, hK, hO, hLw⟩ := id hI
  unfold mX11_ledger mX12_ledger
  rw [isW, isI]
  rcases inr_c x 1 200 with e | ⟨e, h1, h2⟩
  · simp only [e, Option.bind_some, if_true]
    exact ⟨-1, σ, τ, rfl, rfl, hI⟩
  obtain ⟨n, hn1, hn, rfl⟩ := inr_nat (a := 1) (b := 200) (by omega) (by omega) h1 h2
  simp only [e, Option.bind_some, if_neg (show ¬ (1 : Int32) = 0 by decide), x_has t1 hm (show n ≤ 260 by omega), t2]
  by_cases c : n ≤ m
  rotate_left
  · rw [if_neg c, if_pos (show nI m < nI n from nI_lt (by omega) (by omega))]
    exact ⟨-1, σ, τ, rfl, rfl, hI⟩
  rw [if_pos c, if_neg (show ¬ nI m < nI n from nI_nlt c (by omega)), if_neg (show ¬ (1 : Int32) = 0 by decide)]
  obtain ⟨σ1, τ1, a1, a2, a3, a4, a5, a6, a7, -, -⟩ := s_open F hI hn1 (show n ≤ 260 by omega)
  rw [a1, a2]
  simp only [Option.bind_some, ltE]
  unfold mX5_read
  simp only [ltE]
  have hX0 : tpX (bb τ) n 0 0 (js σ1 38 6 0) := by
    obtain ⟨hB, h2, h3, h4, h5, h1, hi, hn, hb⟩ := a3
    refine ⟨hB, ?_, ?_, ?_, ?_, ?_, hi, hn, ?_⟩ <;> rw [js_c _ _ _ (by omega)] <;> assumption
  have hM0 : tpM (bb τ) n 0 (js τ1 0 38 0) := tpM_js a4 _ (by omega) (by omega)
  have hL0 : loR 0 (js σ1 38 6 0) (js τ1 0 38 0) := ⟨by omega, js_at _ _ _ _, js_at _ _ _ _, fun l hl => absurd hl (by omega)⟩
  have ht1 : js τ1 0 38 0 1 = τ 1 := by rw [js_c _ _ _ (by omega), a6 1 (by omega)]
  have hb : bitsR (σ1 3 3) (τ 1) := by rw [a5 3 (by omega)]; exact hR.1
  have fX0 : frL σ (js σ1 38 6 0) := fun d h1 h2 => by rw [js_c _ _ _ (by omega)]; exact a5 d h1
  obtain ⟨σ2, b, τ2, b1, b2, b3, b4, b5⟩ := s_loanR F (by omega) (x1 := σ1 3 3) hX0 hM0 hL0 (by rw [ht1]; exact hW) (by rw [ht1]; exact hb)
  rw [b1, b2]
  simp only [Option.bind_some]
  have fK0 : ∀ k, ¬ sL k → k ≠ 8 → k ≠ 12 → k ≠ 14 → js τ1 0 38 0 0 k = τ 0 k := fun k hk h8 h12 h14 => by
    rw [js_k _ _ (fun e => hk (by rw [e]; exact Or.inr (Or.inr (Or.inr rfl)))), a7 k (fun e => hk (by rw [e]; exact Or.inl rfl)) h8 h12 h14]
  have fK1 : ∀ d, d ≠ 0 → js τ1 0 38 0 d = τ d := fun d hd => by rw [js_c _ _ _ hd, a6 d hd]
  have key : ∃ σ3 b' τ3, lp_X5_read_15 F F (σ1 3 3) (1 : Int32) σ2 = some σ3 ∧ lp_X12_ledger_36 F (fun x2_7 σ7 => jn_X12_ledger_76 F x2_7 σ7) F b τ2 = jn_X12_ledger_76 F b' τ3 ∧ frL σ2 σ3 ∧ frK τ2 τ3 ∧ ((b' = 0 ∧ ∃ i' f, f ≠ 0 ∧ tpX (bb τ) n i' f σ3 ∧ τ3 0 9 = f) ∨ (b' = 1 ∧ ∃ k' i', tpX (bb τ) n i' 0 σ3 ∧ loR k' σ3 τ3)) := by
    rcases b5 with ⟨rfl, i', f, hf, c1, c2⟩ | ⟨rfl, i', hi', c1, c2, c3⟩
    · obtain ⟨N, hN⟩ : ∃ N, F = N + 1 := ⟨F - 1, by omega⟩
      refine ⟨σ2, 0, τ2, ?_, ?_, fun _ _ _ => rfl, frK_rf _, Or.inl ⟨rfl, i', f, hf, c1, c2⟩⟩
      · have := xD_loop F c1 hf (σ1 3 3) 1 N
        rw [← hN] at this
        exact this
      · have : lp_X12_ledger_36 F (fun x2_7 σ7 => jn_X12_ledger_76 F x2_7 σ7) (N + 1) 0 τ2 = jn_X12_ledger_76 F 0 τ2 := by rw [lp_X12_ledger_36, if_pos rfl]
        rw [← hN] at this
        exact this
    · exact s_read_loop F (by omega) hn (fun x2_7 σ7 => jn_X12_ledger_76 F x2_7 σ7) hW hb n 1 i' 1 F F σ2 τ2 (by omega) (by omega) (by omega) (by omega) c1 c2 c3 (by rw [b4.1 1 (by omega) (by omega)]; exact ht1)
  obtain ⟨σ3, b', τ3, d1, d2, d3, d4, d5⟩ := key
  rw [d1, d2]
  simp only [Option.bind_some]
  have fX : frL σ σ3 := frL_tr fX0 (frL_tr b3 d3)
  have fMd : ∀ d, d ≠ 0 → d ≠ 24 → τ3 d = τ d := fun d h1 h2 => by rw [d4.1 d h1 h2, b4.1 d h1 h2, fK1 d h1]
  have fMk : ∀ k, ¬ sL k → k ≠ 8 → k ≠ 12 → k ≠ 14 → τ3 0 k = τ 0 k := fun k hk h8 h12 h14 => by rw [d4.2 k hk, b4.2 k hk, fK0 k hk h8 h12 h14]
  unfold jn_X12_ledger_76
  simp only [ltE]
  rcases d5 with ⟨rfl, i', f, hf, c1, c2⟩ | ⟨rfl, k, i', c1, c2⟩
  · rw [c1.2.2.2.2.1, if_neg hf, if_pos rfl]
    refine ⟨f, σ3, js τ3 0 6 0, rfl, by rw [js_k _ _ (by omega), c2], ?_⟩
    refine Inv_empty hI ⟨fun k _ => by rw [fX 0 (by omega) (by omega)], fX 2 (by omega) (by omega), fun c _ _ => fX c (by omega) (by omega), fX 34 (by omega) (by omega), fX 35 (by omega) (by omega), fun c _ _ => fX c (by omega) (by omega)⟩ c1.2.2.2.2.2.1 ⟨?_, ?_, ?_, ?_, ?_, ?_, ?_, ?_⟩ (js_at _ _ _ _)
    · rw [js_c _ _ _ (by omega), fMd 1 (by omega) (by omega)]
    · rw [js_c _ _ _ (by omega), fMd 3 (by omega) (by omega)]
    · rw [js_c _ _ _ (by omega), fMd 4 (by omega) (by omega)]
    · rw [js_c _ _ _ (by omega), fMd 5 (by omega) (by omega)]
    · rw [js_c _ _ _ (by omega), fMd 6 (by omega) (by omega)]
    · intro c h1 h2
      rw [js_c _ _ _ (by omega), fMd c (by omega) (by omega)]
    · rw [js_k _ _ (by omega), fMk 15 (by unfold sL; omega) (by omega) (by omega) (by omega)]
    · rw [js_k _ _ (by omega), fMk 50 (by unfold sL; omega) (by omega) (by omega) (by omega)]
  · rw [c1.2.2.2.2.1, if_pos rfl, if_neg (show ¬ (1 : Int32) = 0 by decide)]
    obtain ⟨σ4, e1, e2, e3, e4⟩ := x_copyL F σ3
    obtain ⟨k1, k2, k3, k4⟩ := id c2
    obtain ⟨τ4, g1, g2, g3⟩ := m_ld F (by omega) (js (js τ3 0 6 0) 1 208 (js τ3 0 6 0 0 38)) (k := k) k1 (by rw [js_c _ _ _ (by omega), js_k _ _ (by omega)]; exact k3)
    rw [e1, g1]
    simp only [Option.bind_some]
    have L2 : loR k σ3 (js (js τ3 0 6 0) 1 208 (js τ3 0 6 0 0 38)) := ⟨k1, k2, by rw [js_c _ _ _ (by omega), js_k _ _ (by omega)]; exact k3, fun l hl => rowL_fr (k4 l hl) (fun _ _ _ => rfl) (fun j _ => by rw [js_c _ _ _ (by omega), js_c _ _ _ (by omega)])⟩
    have hc := ld_city (σ' := σ4) (τ' := τ4) L2 hW (cityR_congr hR (fun j hj => fX _ (by omega) (by omega))) (fun j hj => by rw [js_k _ _ hj, js_c _ _ _ (by omega), fMd 1 (by omega) (by omega)]) (by rw [js_at, js_k _ _ (by omega)]; exact k3) g3 e2 e3 e4
    refine ⟨nI k, σ4, τ4, by rw [e3, k2], rfl, ?_⟩
    have hS : ∀ k, k ≠ 6 → ¬ sL k → k ≠ 8 → k ≠ 12 → k ≠ 14 → τ4 0 k = τ 0 k := fun k h6 hk h8 h12 h14 => by rw [g2 0 (by omega), js_c _ _ _ (by omega), js_k _ _ h6, fMk k hk h8 h12 h14]
    have hD : ∀ d, d ≠ 0 → d ≠ 1 → d ≠ 24 → τ4 d = τ d := fun d h0 h1 h2 => by rw [g2 d h1, js_c _ _ _ h1, js_c _ _ _ h0, fMd d h0 h2]
    have hX : ∀ d, d ≠ 1 → (d < 6 ∨ 13 ≤ d) → (d < 38 ∨ 45 ≤ d) → σ4 d = σ d := fun d h1 h2 h3 => by rw [e2 d h2, fX d h1 h3]
    refine ⟨⟨⟨0, by omega, ?_, ?_⟩, ?_⟩, hc.1, hc.2, ?_, ?_, ?_⟩
    · rw [e2 1 (by omega)]; exact c1.2.2.2.2.2.1
    · rw [g2 0 (by omega), js_c _ _ _ (by omega), js_at]; rfl
    · rw [hX 2 (by omega) (by omega) (by omega), hD 6 (by omega) (by omega) (by omega)]; exact t3
    · unfold keptR at hK ⊢
      rw [hX 0 (by omega) (by omega) (by omega), hS 50 (by omega) (by unfold sL; omega) (by omega) (by omega) (by omega), hD 3 (by omega) (by omega) (by omega)]
      rcases hK with h | ⟨q1, q2, q3, q4⟩
      · exact Or.inl h
      · exact Or.inr ⟨q1, q2, q3, cityR_congr q4 (fun j hj => hX _ (by omega) (by omega) (by omega))⟩
    · unfold routR at hO ⊢
      rw [hX 34 (by omega) (by omega) (by omega), hX 35 (by omega) (by omega) (by omega), hD 4 (by omega) (by omega) (by omega), hD 5 (by omega) (by omega) (by omega)]
      exact hO
    · exact lawI_congr hLw (by rw [hX 0 (by omega) (by omega) (by omega)]) (by rw [hX 0 (by omega) (by omega) (by omega)]) (fun c h1 h2 => hX c (by omega) (by omega) (by omega)) (fun c h1 h2 => hD c (by omega) (by omega) (by omega)) (hS 15 (by omega) (by unfold sL; omega) (by omega) (by omega) (by omega))
