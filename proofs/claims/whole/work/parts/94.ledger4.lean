/-! ### the whole text -/
theorem xD_loop (F : Nat) {B : Nat → Nat} {n i : Nat} {f : Int32} {σ : jS} (h : tpX B n i f σ) (hf : f ≠ 0) (x1 x2 : Int32) (N : Nat) : lp_X5_read_15 F (N + 1) x1 x2 σ = some σ := by
  rw [lp_X5_read_15, x_onD F h hf]
  simp
theorem s_read_loop (F : Nat) (hF : 10 ≤ F) {B : Nat → Nat} {n : Nat} (hn : n ≤ 200) {x1 : Int32} (k76 : Int32 → jS → Option (Int32 × jS)) {t : Nat → Int32} (hW : cityW t) (hb : bitsR x1 t) :
    ∀ (m c i k N M : Nat) (σ τ : jS), n - i ≤ m → c ≤ i → m < N → m + 1 < M → tpX B n i 0 σ → tpM B n i τ → loR k σ τ → τ 1 = t →
      ∃ σ' b τ', lp_X5_read_15 F N x1 (nI c) σ = some σ' ∧ lp_X12_ledger_36 F k76 M 1 τ = k76 b τ' ∧ frL σ σ' ∧ frK τ τ' ∧ ((b = 0 ∧ ∃ i' f, f ≠ 0 ∧ tpX B n i' f σ' ∧ τ' 0 9 = f) ∨ (b = 1 ∧ ∃ k' i', tpX B n i' 0 σ' ∧ loR k' σ' τ')) := by
  intro m
  induction m with
  | zero =>
    intro c i k N M σ τ hm hc hN hM hX hT hL ht
    obtain ⟨N, rfl⟩ : ∃ N', N = N' + 1 := ⟨N - 1, by omega⟩
    obtain ⟨M, rfl⟩ : ∃ N', M = N' + 1 := ⟨M - 1, by omega⟩
    have hin := hT.2.2.1
    rw [lp_X5_read_15, x_on0 F hX (by omega), lp_X12_ledger_36, if_neg (show ¬ (1 : Int32) = 0 by decide), hT.1, hT.2.1, if_neg (nI_nlt (by omega) (by omega))]
    refine ⟨σ, 1, τ, by simp, rfl, fun _ _ _ => rfl, frK_rf τ, Or.inr ⟨rfl, k, i, hX, hL⟩⟩
  | succ m ih =>
    intro c i k N M σ τ hm hc hN hM hX hT hL ht
    obtain ⟨N, rfl⟩ : ∃ N', N = N' + 1 := ⟨N - 1, by omega⟩
    obtain ⟨M, rfl⟩ : ∃ N', M = N' + 1 := ⟨M - 1, by omega⟩
    have hin := hT.2.2.1
    by_cases hi : i < n
    · rw [lp_X5_read_15, x_on1 F hX hi, lp_X12_ledger_36, if_neg (show ¬ (1 : Int32) = 0 by decide), hT.1, hT.2.1, if_pos (nI_lt hi (by omega)), if_pos (show nI c < (200 : Int32) from nI_lt (b := 200) (by omega) (by omega))]
      simp only [Option.bind_some, if_neg (show ¬ (1 : Int32) = 0 by decide)]
      obtain ⟨σ1, a1, a2, a3⟩ := x_take F hX (c := 59) (by omega)
      have a1' : mX10_take F (59 : Int32) σ = some σ1 := a1
      have a4 := m_takes F hX.1 hT (c := 59) (by omega)
      have a4' : mX12_takes F (59 : Int32) τ = _ := a4
      rw [a1', a4']
      by_cases g : i < n ∧ B i = 59
      · rw [if_pos g] at a2 ⊢
        simp only [Option.bind_some, if_neg (show ¬ (1 : Int32) = 0 by decide)]
        have hT1 := tpM_step hT g.1
        have f1 : frK τ (js τ 0 7 (τ 0 7 + 1)) := frK_js _ _ (Or.inl rfl)
        have ht1 : js τ 0 7 (τ 0 7 + 1) 1 = t := by rw [js_c _ _ _ (by omega)]; exact ht
        have hL1 : loR k σ1 (js τ 0 7 (τ 0 7 + 1)) := by
          obtain ⟨l1, l2, l3, l4⟩ := hL
          exact ⟨l1, by rw [a3 38 (by omega)]; exact l2, by rw [js_k _ _ (by omega)]; exact l3, rows_0 (rows_fr l4 a3 (frM_rf τ)) _ _⟩
        obtain ⟨σ2, b, τ2, b1, b2, b3, b4, b5⟩ := s_loanR F hF (x1 := x1) a2 hT1 hL1 (by rw [ht1]; exact hW) (by rw [ht1]; exact hb)
        rw [b1, b2]
        simp only [Option.bind_some, nI1]
        have fX : frL σ σ2 := frL_tr (frL_of a3) b3
        have fM : frK τ τ2 := frK_tr f1 b4
        rcases b5 with ⟨rfl, i', f, hf, c1, c2⟩ | ⟨rfl, i', hi', c1, c2, c3⟩
        · simp only [if_true]
          obtain ⟨N, rfl⟩ : ∃ N', N = N' + 1 := ⟨N - 1, by omega⟩
          obtain ⟨M, rfl⟩ : ∃ N', M = N' + 1 := ⟨M - 1, by omega⟩
          rw [xD_loop F c1 hf, lp_X12_ledger_36, if_pos rfl]
          exact ⟨σ2, 0, τ2, rfl, rfl, fX, fM, Or.inl ⟨rfl, i', f, hf, c1, c2⟩⟩
        · simp only [if_neg (show ¬ (1 : Int32) = 0 by decide)]
          obtain ⟨σ3, b, τ3, d1, d2, d3, d4, d5⟩ := ih (c + 1) i' (k + 1) N M σ2 τ2 (by omega) (by omega) (by omega) (by omega) c1 c2 c3 (by rw [b4.1 1 (by omega) (by omega)]; exact ht1)
          exact ⟨σ3, b, τ3, d1, d2, frL_tr fX d3, frK_tr fM d4, d5⟩
      · rw [if_neg g] at a2 ⊢
        rw [if_pos rfl] at a2
        simp only [Option.bind_some, if_true]
        have hf : flt 1 i ≠ 0 := flt_ne (by omega) (by omega) (by omega)
        obtain ⟨σ2, i2, b1, b2, b3⟩ := xD_loan F hF a2 hf x1
        rw [b1]
        obtain ⟨N, rfl⟩ : ∃ N', N = N' + 1 := ⟨N - 1, by omega⟩
        obtain ⟨M, rfl⟩ : ∃ N', M = N' + 1 := ⟨M - 1, by omega⟩
        simp only [Option.bind_some]
        rw [xD_loop F b2 hf, lp_X12_ledger_36, if_pos rfl]
        exact ⟨σ2, 0, _, rfl, rfl, frL_of (frm_tr a3 b3), frK_js _ _ (Or.inr (Or.inl rfl)), Or.inl ⟨rfl, i2, _, hf, b2, js_at _ _ _ _⟩⟩
    · exact ih c i k (N + 1) (M + 1) σ τ (by omega) hc (by omega) (by omega) hX hT hL ht
/-! ### the reference writes the loans into the row -/
def ldT (τ : jS) (k j : Nat) : Int32 := if 64 ≤ j ∧ j < 184 ∧ (j - 64) % 24 < k then τ 24 (5 * ((j - 64) % 24) + (j - 64) / 24) else if 184 ≤ j ∧ j < 208 ∧ j - 184 < k then τ 24 (5 * (j - 184) + 2) else τ 1 j
theorem m_ld_in (F : Nat) (hF : 10 ≤ F) (τ : jS) {l : Nat} (hl : l < 24) (k153 : Int32 → jS → Option (Int32 × jS)) {ρ : jS} (h1 : ∀ d, d ≠ 1 → ρ d = τ d) (h2 : ∀ j, ρ 1 j = ldT τ l j) :
    ∃ ρ', lp_X12_ledger_115 F k153 F (nI l) 0 ρ = k153 (nI l) ρ' ∧ (∀ d, d ≠ 1 → ρ' d = τ d) ∧ ∀ j, ρ' 1 j = if 64 ≤ j ∧ j < 184 ∧ (j - 64) % 24 = l then τ 24 (5 * l + (j - 64) / 24) else ldT τ l j := by
  refine loop_p (fun N x (ρ : jS) => lp_X12_ledger_115 F k153 N (nI l) x ρ) 5 (fun x ρ => (∀ d, d ≠ 1 → ρ d = τ d) ∧ ∀ j, ρ 1 j = if 64 ≤ j ∧ j < 184 ∧ (j - 64) % 24 = l ∧ (j - 64) / 24 < x then τ 24 (5 * l + (j - 64) / 24) else ldT τ l j) (fun r => ∃ ρ', r = k153 (nI l) ρ' ∧ (∀ d, d ≠ 1 → ρ' d = τ d) ∧ ∀ j, ρ' 1 j = if 64 ≤ j ∧ j < 184 ∧ (j - 64) % 24 = l then τ 24 (5 * l + (j - 64) / 24) else ldT τ l j) ?_ ?_ F 0 ρ (by omega) (by omega) ⟨h1, fun j => by rw [if_neg (by omega)]; exact h2 j⟩
  · intro N x ρ hx ⟨g1, g2⟩
    right
    show ∃ a', _ ∧ lp_X12_ledger_115 F k153 (N + 1) (nI l) (nI x) ρ = lp_X12_ledger_115 F k153 N (nI l) (nI (x + 1)) a'
    rw [lp_X12_ledger_115, if_pos (show nI x < (5 : Int32) from nI_lt (b := 5) hx (by omega))]
    have e1 : (5 : Int32) * nI l + nI x = nI (5 * l + x) := by rw [show (5 : Int32) = nI 5 from rfl, pk_mul, nI_add]
    have e2 : (64 : Int32) + (24 : Int32) * nI x + nI l = nI (64 + 24 * x + l) := by rw [show (64 : Int32) = nI 64 from rfl, show (24 : Int32) = nI 24 from rfl, pk_mul, nI_add, nI_add]
    simp only [ltE, e1, e2, jin_nI (show 5 * l + x < 120 by omega) (show 120 < 2 ^ 31 by omega), jin_nI (show 64 + 24 * x + l < 212 by omega) (show 212 < 2 ^ 31 by omega), if_true, nI_clamp (show 5 * l + x < 2 ^ 31 by omega), nI_clamp (show 64 + 24 * x + l < 2 ^ 31 by omega), nI1]
    refine ⟨_, ⟨fun d hd => ?_, fun j => ?_⟩, rfl⟩
    · rw [js_c _ _ _ hd]; exact g1 d hd
    · by_cases e : j = 64 + 24 * x + l
      · subst e
        rw [js_at, g1 24 (by omega), if_pos (by omega)]
        congr 1
        omega
      · rw [js_k _ _ e, g2 j]
        by_cases c : 64 ≤ j ∧ j < 184 ∧ (j - 64) % 24 = l ∧ (j - 64) / 24 < x
        · rw [if_pos c, if_pos (by omega)]
        · rw [if_neg c, if_neg (by omega)]
  · intro N ρ ⟨g1, g2⟩
    show ∃ ρ', lp_X12_ledger_115 F k153 (N + 1) (nI l) (nI 5) ρ = k153 (nI l) ρ' ∧ _
    rw [lp_X12_ledger_115, if_neg (show ¬ nI 5 < (5 : Int32) by decide)]
    refine ⟨ρ, rfl, g1, fun j => ?_⟩
    rw [g2 j]
    by_cases c : 64 ≤ j ∧ j < 184 ∧ (j - 64) % 24 = l
    · rw [if_pos c, if_pos (by omega)]
    · rw [if_neg c, if_neg (by omega)]
theorem m_ld (F : Nat) (hF : 40 ≤ F) (τ : jS) {k : Nat} (hk : k ≤ 24) (h38 : τ 0 38 = nI k) :
    ∃ τ', lp_X12_ledger_104 F F 0 τ = some (nI k, τ') ∧ (∀ d, d ≠ 1 → τ' d = τ d) ∧ ∀ j, τ' 1 j = ldT τ k j := by
  refine loop_p (fun N x (ρ : jS) => lp_X12_ledger_104 F N x ρ) k (fun l ρ => (∀ d, d ≠ 1 → ρ d = τ d) ∧ ∀ j, ρ 1 j = ldT τ l j) (fun r => ∃ τ', r = some (nI k, τ') ∧ (∀ d, d ≠ 1 → τ' d = τ d) ∧ ∀ j, τ' 1 j = ldT τ k j) ?_ ?_ F 0 τ (by omega) (by omega) ⟨fun _ _ => rfl, fun j => by unfold ldT; rw [if_neg (by omega), if_neg (by omega)]⟩
  · intro N l ρ hl ⟨g1, g2⟩
    right
    show ∃ a', _ ∧ lp_X12_ledger_104 F (N + 1) (nI l) ρ = lp_X12_ledger_104 F N (nI (l + 1)) a'
    rw [lp_X12_ledger_104, show ρ 0 38 = nI k by rw [g1 0 (by omega)]; exact h38, if_pos (nI_lt hl (by omega))]
    obtain ⟨ρ', b1, b2, b3⟩ := m_ld_in F (by omega) τ (l := l) (by omega) (fun x3_14 σ14 => (lt ((112 : Int32) + x3_14) fun y15 => (if jin y15 212 = true then (if jin ((184 : Int32) + x3_14) 212 = true then (lt (js σ14 1 ((184 : Int32) + x3_14).toNatClampNeg (σ14 1 y15.toNatClampNeg)) fun σ17 => (lp_X12_ledger_104 F N ((x3_14 + (1 : Int32))) σ17)) else none) else none))) g1 g2
    rw [b1]
    simp only [ltE, show (112 : Int32) + nI l = nI (112 + l) from nI_add 112 l, show (184 : Int32) + nI l = nI (184 + l) from nI_add 184 l, jin_nI (show 112 + l < 212 by omega) (show 212 < 2 ^ 31 by omega), jin_nI (show 184 + l < 212 by omega) (show 212 < 2 ^ 31 by omega), if_true, nI_clamp (show 112 + l < 2 ^ 31 by omega), nI_clamp (show 184 + l < 2 ^ 31 by omega), nI1]
    refine ⟨_, ⟨fun d hd => ?_, fun j => ?_⟩, rfl⟩
    · rw [js_c _ _ _ hd]; exact b2 d hd
    · by_cases e : j = 184 + l
      · subst e
        rw [js_at, b3, if_pos (by omega)]
        unfold ldT
        rw [if_neg (by omega), if_pos (by omega), show 5 * l + (112 + l - 64) / 24 = 5 * (184 + l - 184) + 2 by omega]
      · rw [js_k _ _ e, b3 j]
        unfold ldT
        by_cases c : 64 ≤ j ∧ j < 184 ∧ (j - 64) % 24 = l
        · rw [if_pos c, if_pos (by omega), c.2.2]
        · rw [if_neg c]
          by_cases c2 : 64 ≤ j ∧ j < 184 ∧ (j - 64) % 24 < l
          · rw [if_pos c2, if_pos (by omega)]
          · rw [if_neg c2, if_neg (show ¬ (64 ≤ j ∧ j < 184 ∧ (j - 64) % 24 < l + 1) by omega)]
            by_cases c3 : 184 ≤ j ∧ j < 208 ∧ j - 184 < l
            · rw [if_pos c3, if_pos (by omega)]
            · rw [if_neg c3, if_neg (by omega)]
  · intro N ρ ⟨g1, g2⟩
    show ∃ τ', lp_X12_ledger_104 F (N + 1) (nI k) ρ = some (nI k, τ') ∧ _
    have e : ρ 0 38 = nI k := by rw [g1 0 (by omega)]; exact h38
    rw [lp_X12_ledger_104, e, if_neg (nI_nlt (Nat.le_refl k) (by omega))]
    exact ⟨ρ, rfl, g1, g2⟩
