theorem RLs_keep {e z L : Nat} {σ σ' τ τ' : jS} (h : RLs e z L σ τ) (hx : ∀ j, j < 6 → σ' (e + j) = σ (e + j)) (hm : ∀ c, 7 ≤ c → c < 13 → τ' c = τ c) : RLs e z L σ' τ' := by
  unfold RLs at h ⊢
  rw [hx 1 (by omega), hx 2 (by omega), hx 3 (by omega), hx 4 (by omega), hx 5 (by omega), hm 7 (by omega) (by omega), hm 9 (by omega) (by omega), hm 10 (by omega) (by omega), hm 11 (by omega) (by omega), hm 12 (by omega) (by omega)]
  exact h
theorem xD_lawLoop (F : Nat) {e : Nat} {B : Nat → Nat} {n i : Nat} {f : Int32} {σ : jS} (h : tpX B n i f σ) (hf : f ≠ 0) (x2 : Int32) (N : Nat) : lp_X4_read_11 F e (N + 1) x2 σ = some σ := by
  rw [lp_X4_read_11, x_onD F h hf]
  simp
theorem s_law_loop (F : Nat) (hF : 300 ≤ F) {e : Nat} (he : eL e) {B : Nat → Nat} {n : Nat} (k71 : Int32 → jS → Option (Int32 × jS)) :
    ∀ (m c i L z N M : Nat) (σ τ : jS), n - i ≤ m → c ≤ i → m < N → m + 1 < M → stR e B n i L z σ τ →
      ∃ σ' b τ', lp_X4_read_11 F e N (nI c) σ = some σ' ∧ lp_X12_law_31 F k71 M 1 τ = k71 b τ' ∧ frV e σ σ' ∧ frQ τ τ' ∧ ((b = 0 ∧ ∃ i' f, f ≠ 0 ∧ tpX B n i' f σ' ∧ τ' 0 9 = f) ∨ (b = 1 ∧ ∃ i' L' z', stR e B n i' L' z' σ' τ')) := by
  intro m
  induction m with
  | zero =>
    intro c i L z N M σ τ hm hc hN hM hR
    obtain ⟨hX, hT, h5, h12, hLi, hn, hz, hzm, hz16, hRL⟩ := id hR
    obtain ⟨N, rfl⟩ : ∃ N', N = N' + 1 := ⟨N - 1, by omega⟩
    obtain ⟨M, rfl⟩ : ∃ N', M = N' + 1 := ⟨M - 1, by omega⟩
    have hin := hT.2.2.1
    rw [lp_X4_read_11, x_on0 F hX (by omega), lp_X12_law_31, if_neg (show ¬ (1 : Int32) = 0 by decide), hT.1, hT.2.1, if_neg (nI_nlt (by omega) (by omega))]
    exact ⟨σ, 1, τ, by simp, rfl, fun _ _ _ => rfl, frQ_rf τ, Or.inr ⟨rfl, i, L, z, hR⟩⟩
  | succ m ih =>
    intro c i L z N M σ τ hm hc hN hM hR
    obtain ⟨hX, hT, h5, h12, hLi, hn, hz, hzm, hz16, hRL⟩ := id hR
    have e2n : e ≠ 1 ∧ e ≠ 2 ∧ e + 1 ≠ 1 ∧ e + 1 ≠ 2 ∧ e ≠ 0 := by unfold eL at he; omega
    obtain ⟨N, rfl⟩ : ∃ N', N = N' + 1 := ⟨N - 1, by omega⟩
    obtain ⟨M, rfl⟩ : ∃ N', M = N' + 1 := ⟨M - 1, by omega⟩
    have hin := hT.2.2.1
    by_cases hi : i < n
    · rw [lp_X4_read_11, x_on1 F hX hi, lp_X12_law_31, if_neg (show ¬ (1 : Int32) = 0 by decide), hT.1, hT.2.1, if_pos (nI_lt hi (by omega)), if_pos (show nI c < (240 : Int32) from nI_lt (b := 240) (by omega) (by omega))]
      simp only [Option.bind_some, if_neg (show ¬ (1 : Int32) = 0 by decide)]
      obtain ⟨σ1, a1, a2, a3⟩ := x_take F hX (c := 59) (by omega)
      have a1' : mX10_take F (59 : Int32) σ = some σ1 := a1
      have a4 := m_takes F hX.1 hT (c := 59) (by omega)
      have a4' : mX12_takes F (59 : Int32) τ = _ := a4
      rw [a1', a4']
      by_cases g : i < n ∧ B i = 59
      · rw [if_pos g] at a2 ⊢
        simp only [Option.bind_some, if_neg (show ¬ (1 : Int32) = 0 by decide)]
        have hR1 : stR e B n (i + 1) L z σ1 (js τ 0 7 (τ 0 7 + 1)) := ⟨a2, tpM_step hT g.1, by rw [a3 e (by omega)]; exact h5, by rw [js_k _ _ (by omega)]; exact h12, by omega, hn, by rw [a3 e (by omega)]; exact hz, by rw [js_k _ _ (by omega)]; exact hzm, hz16, RLs_keep hRL (fun j _ => a3 (e + j) (by omega)) (fun c' _ _ => js_c _ _ _ (by omega))⟩
        obtain ⟨σ2, b, τ2, b1', b2, b3, b4, b5⟩ := s_rule F hF he hR1
        rw [b1', b2]
        simp only [Option.bind_some, nI1]
        have fX : frV e σ σ2 := frV_tr (frV_m a3) b3
        have fM : frQ τ τ2 := frQ_tr (frQ_js _ _ (Or.inl rfl)) b4
        rcases b5 with ⟨rfl, i', f, hf, c1, c2⟩ | ⟨rfl, i', L', hi', c1⟩
        · simp only [if_true]
          obtain ⟨N, rfl⟩ : ∃ N', N = N' + 1 := ⟨N - 1, by omega⟩
          obtain ⟨M, rfl⟩ : ∃ N', M = N' + 1 := ⟨M - 1, by omega⟩
          rw [xD_lawLoop F c1 hf, lp_X12_law_31, if_pos rfl]
          exact ⟨σ2, 0, τ2, rfl, rfl, fX, fM, Or.inl ⟨rfl, i', f, hf, c1, c2⟩⟩
        · simp only [if_neg (show ¬ (1 : Int32) = 0 by decide)]
          obtain ⟨σ3, b, τ3, d1, d2, d3, d4, d5⟩ := ih (c + 1) i' L' (z + 1) N M σ2 τ2 (by omega) (by omega) (by omega) (by omega) c1
          exact ⟨σ3, b, τ3, d1, d2, frV_tr fX d3, frQ_tr fM d4, d5⟩
      · rw [if_neg g] at a2 ⊢
        rw [if_pos rfl] at a2
        simp only [Option.bind_some, if_true]
        have hf : flt 1 i ≠ 0 := flt_ne (by omega) (by omega) (by omega)
        obtain ⟨σ2, i2, b1', b2, b3⟩ := xD_rule F hF he hf (dW_rf (e := e) (L := L) a2 (by omega) (by rw [a3 e (by omega)]; exact h5)) (z := z) (by rw [a3 e (by omega)]; exact hz) hz16
        rw [b1']
        obtain ⟨N, rfl⟩ : ∃ N', N = N' + 1 := ⟨N - 1, by omega⟩
        obtain ⟨M, rfl⟩ : ∃ N', M = N' + 1 := ⟨M - 1, by omega⟩
        simp only [Option.bind_some]
        rw [xD_lawLoop F b2 hf, lp_X12_law_31, if_pos rfl]
        exact ⟨σ2, 0, _, rfl, rfl, frV_tr (frV_m a3) b3, frQ_js _ _ (Or.inr ⟨by omega, by omega⟩), Or.inl ⟨rfl, i2, _, hf, b2, js_at _ _ _ _⟩⟩
    · exact ih c i L z (N + 1) (M + 1) σ τ (by omega) hc (by omega) (by omega) hR
/-! ### the new law is kept -/
theorem m_cp95 (F : Nat) (hF : 300 ≤ F) {τ : jS} {L : Nat} (h12 : τ 0 12 = nI L) (hL : L ≤ 240) (k121 : jS → Option (Int32 × jS)) : ∃ τ', lp_X12_law_95 F k121 F 0 τ = k121 τ' ∧ (∀ d, d ≠ 13 → τ' d = τ d) ∧ ∀ j, j < L → τ' 13 j = τ 7 j := by
  refine loop_p (fun N x (ρ : jS) => lp_X12_law_95 F k121 N x ρ) L (fun x ρ => (∀ d, d ≠ 13 → ρ d = τ d) ∧ ∀ j, j < x → ρ 13 j = τ 7 j) (fun r => ∃ τ', r = k121 τ' ∧ (∀ d, d ≠ 13 → τ' d = τ d) ∧ ∀ j, j < L → τ' 13 j = τ 7 j) ?_ ?_ F 0 τ (by omega) (by omega) ⟨fun _ _ => rfl, fun j hj => absurd hj (by omega)⟩
  · intro N x ρ hx ⟨g1, g2⟩
    right
    show ∃ a', _ ∧ lp_X12_law_95 F k121 (N + 1) (nI x) ρ = lp_X12_law_95 F k121 N (nI (x + 1)) a'
    rw [lp_X12_law_95, show ρ 0 12 = nI L by rw [g1 0 (by omega)]; exact h12, if_pos (nI_lt hx (by omega)), jin_nI (show x < 260 by omega) (by omega), if_pos rfl, if_pos rfl, nI_clamp (by omega), ltE, nI1]
    refine ⟨_, ⟨fun d hd => by rw [js_c _ _ _ hd]; exact g1 d hd, fun j hj => ?_⟩, rfl⟩
    by_cases c : j = x
    · rw [c, js_at, g1 7 (by omega)]
    · rw [js_k _ _ c]; exact g2 j (by omega)
  · intro N ρ ⟨g1, g2⟩
    show ∃ τ', lp_X12_law_95 F k121 (N + 1) (nI L) ρ = k121 τ' ∧ _
    rw [lp_X12_law_95, show ρ 0 12 = nI L by rw [g1 0 (by omega)]; exact h12, if_neg (nI_nlt (Nat.le_refl L) (by omega))]
    exact ⟨ρ, rfl, g1, g2⟩
theorem m_cp123 (F : Nat) (hF : 300 ≤ F) {τ : jS} {z : Nat} (h14 : τ 0 14 = nI z) (hz : z ≤ 16) : ∃ τ', lp_X12_law_123 F F 0 τ = some (nI z, τ') ∧ (∀ d, (d < 14 ∨ 18 ≤ d) → τ' d = τ d) ∧ ∀ j, j < z → τ' 14 j = τ 9 j ∧ τ' 15 j = τ 10 j ∧ τ' 16 j = τ 11 j ∧ τ' 17 j = τ 12 j := by
  refine loop_p (fun N x (ρ : jS) => lp_X12_law_123 F N x ρ) z (fun x ρ => (∀ d, (d < 14 ∨ 18 ≤ d) → ρ d = τ d) ∧ ∀ j, j < x → ρ 14 j = τ 9 j ∧ ρ 15 j = τ 10 j ∧ ρ 16 j = τ 11 j ∧ ρ 17 j = τ 12 j) (fun r => ∃ τ', r = some (nI z, τ') ∧ (∀ d, (d < 14 ∨ 18 ≤ d) → τ' d = τ d) ∧ ∀ j, j < z → τ' 14 j = τ 9 j ∧ τ' 15 j = τ 10 j ∧ τ' 16 j = τ 11 j ∧ τ' 17 j = τ 12 j) ?_ ?_ F 0 τ (by omega) (by omega) ⟨fun _ _ => rfl, fun j hj => absurd hj (by omega)⟩
  · intro N x ρ hx ⟨g1, g2⟩
    right
    show ∃ a', _ ∧ lp_X12_law_123 F (N + 1) (nI x) ρ = lp_X12_law_123 F N (nI (x + 1)) a'
    rw [lp_X12_law_123, show ρ 0 14 = nI z by rw [g1 0 (by omega)]; exact h14, if_pos (nI_lt hx (by omega))]
    simp only [jin_nI (show x < 16 by omega) (show 16 < 2 ^ 31 by omega), if_true, nI_clamp (show x < 2 ^ 31 by omega), ltE, nI1]
    refine ⟨_, ⟨fun d hd => by rw [js_c _ _ _ (by omega), js_c _ _ _ (by omega), js_c _ _ _ (by omega), js_c _ _ _ (by omega)]; exact g1 d hd, fun j hj => ?_⟩, rfl⟩
    by_cases c : j = x
    · subst c
      refine ⟨?_, ?_, ?_, ?_⟩
      · rw [js_c _ _ _ (by omega), js_c _ _ _ (by omega), js_c _ _ _ (by omega), js_at, g1 9 (by omega)]
      · rw [js_c _ _ _ (by omega), js_c _ _ _ (by omega), js_at, js_c _ _ _ (by omega), g1 10 (by omega)]
      · rw [js_c _ _ _ (by omega), js_at, js_c _ _ _ (by omega), js_c _ _ _ (by omega), g1 11 (by omega)]
      · rw [js_at, js_c _ _ _ (by omega), js_c _ _ _ (by omega), js_c _ _ _ (by omega), g1 12 (by omega)]
    · obtain ⟨q1, q2, q3, q4⟩ := g2 j (by omega)
      refine ⟨?_, ?_, ?_, ?_⟩
      · rw [js_c _ _ _ (by omega), js_c _ _ _ (by omega), js_c _ _ _ (by omega), js_k _ _ c]; exact q1
      · rw [js_c _ _ _ (by omega), js_c _ _ _ (by omega), js_k _ _ c, js_c _ _ _ (by omega)]; exact q2
      · rw [js_c _ _ _ (by omega), js_k _ _ c, js_c _ _ _ (by omega), js_c _ _ _ (by omega)]; exact q3
      · rw [js_k _ _ c, js_c _ _ _ (by omega), js_c _ _ _ (by omega), js_c _ _ _ (by omega)]; exact q4
  · intro N ρ ⟨g1, g2⟩
    show ∃ τ', lp_X12_law_123 F (N + 1) (nI z) ρ = some (nI z, τ') ∧ _
    have e14 : ρ 0 14 = nI z := by rw [g1 0 (by omega)]; exact h14
    rw [lp_X12_law_123, e14, if_neg (nI_nlt (Nat.le_refl z) (by omega))]
    exact ⟨ρ, rfl, g1, g2⟩
theorem s_law (F : Nat) (hF : 300 ≤ F) : S_law F Inv := by
  intro σ τ x hI
  obtain ⟨⟨⟨m, hm, t1, t2⟩, t3⟩, hW, hR, hK, hO, hLw⟩ := id hI
  unfold mX11_law mX12_law
  rw [isW, isI]
  rcases inr_c x 1 240 with e | ⟨e, h1, h2⟩
  · simp only [e, Option.bind_some, if_true]
    exact ⟨-1, σ, τ, rfl, rfl, hI⟩
  obtain ⟨n, hn1, hn, rfl⟩ := inr_nat (a := 1) (b := 240) (by omega) (by omega) h1 h2
  simp only [e, Option.bind_some, if_neg (show ¬ (1 : Int32) = 0 by decide), x_has t1 hm (show n ≤ 260 by omega), t2]
  by_cases c : n ≤ m
  rotate_left
  · rw [if_neg c, if_pos (show nI m < nI n from nI_lt (by omega) (by omega))]
    exact ⟨-1, σ, τ, rfl, rfl, hI⟩
  rw [if_pos c, if_neg (show ¬ nI m < nI n from nI_nlt c (by omega)), if_neg (show ¬ (1 : Int32) = 0 by decide)]
  obtain ⟨σ1, τ1, a1, a2, a3, a4, a5, a6, a7, a8, a9⟩ := s_open F hI hn1 (show n ≤ 260 by omega)
  rw [a1, a2]
  simp only [Option.bind_some, ltE]
  obtain ⟨ea, hea, l1, l2, l3⟩ := id hLw
  obtain ⟨e, he, hee⟩ : ∃ e, eL e ∧ e = 98 - ea := ⟨98 - ea, by unfold eL; omega, rfl⟩
  have he' : e = 46 ∨ e = 52 := he
  have k3 : ∀ q, q = 46 ∨ q = 52 → kX q = 3 := fun q hq => by rcases hq with rfl | rfl <;> rfl
  have e12 : σ1 0 12 = nI e := by rw [a5 0 (by omega), hee]; exact l2
  have e11 : σ1 0 11 = nI ea := by rw [a5 0 (by omega)]; exact l1
  rw [e12, nI_clamp (by omega), if_pos (k3 e he')]
  unfold mX4_read mX3_clear
  simp only [ltE, Option.bind_some]
  have hR0 : stR e (bb τ) n 0 0 0 (js (js σ1 e 5 0) e 6 0) τ1 := by
    refine ⟨tpX_fr a3 ?_ ?_, a4, ?_, ?_, by omega, hn, ?_, ?_, by omega, ⟨fun _ => (0, 0), fun i hi => absurd hi (by omega), fun j hj => absurd hj (by omega)⟩⟩
    · rw [js_c _ _ _ (by omega), js_c _ _ _ (by omega)]
    · rw [js_c _ _ _ (by omega), js_c _ _ _ (by omega)]
    · rw [js_k _ _ (by omega), js_at]; rfl
    · rw [a8]; rfl
    · rw [js_at]; rfl
    · rw [a9]; rfl
  obtain ⟨σ2, b, τ2, b1', b2, b3, b4, b5⟩ := s_rule F hF he hR0
  rw [b1', b2]
  simp only [Option.bind_some]
  have fX0 : frV e σ σ2 := fun d h1 h2 => by rw [b3 d h1 h2, js_c _ _ _ (by omega), js_c _ _ _ (by omega), a5 d h1]
  have fM0d : ∀ d, d ≠ 0 → (d < 7 ∨ 13 ≤ d) → τ2 d = τ d := fun d h1 h2 => by rw [b4.1 d h1 h2, a6 d h1]
  have fM0k : ∀ k, ¬ sQ k → k ≠ 8 → τ2 0 k = τ 0 k := fun k hk h8 => by rw [b4.2 k hk, a7 k (fun e => hk (by rw [e]; exact Or.inl rfl)) h8 (fun e => hk (by rw [e]; exact Or.inr ⟨by omega, by omega⟩)) (fun e => hk (by rw [e]; exact Or.inr ⟨by omega, by omega⟩))]
  have key : ∃ σ3 b' τ3, lp_X4_read_11 F e F (1 : Int32) σ2 = some σ3 ∧ lp_X12_law_31 F (fun x2_6 σ6 => jn_X12_law_71 F x2_6 σ6) F b τ2 = jn_X12_law_71 F b' τ3 ∧ frV e σ2 σ3 ∧ frQ τ2 τ3 ∧ ((b' = 0 ∧ ∃ i' f, f ≠ 0 ∧ tpX (bb τ) n i' f σ3 ∧ τ3 0 9 = f) ∨ (b' = 1 ∧ ∃ i' L' z', stR e (bb τ) n i' L' z' σ3 τ3)) := by
    rcases b5 with ⟨rfl, i', f, hf, c1, c2⟩ | ⟨rfl, i', L', hi', c1⟩
    · obtain ⟨N, hN⟩ : ∃ N, F = N + 1 := ⟨F - 1, by omega⟩
      refine ⟨σ2, 0, τ2, ?_, ?_, fun _ _ _ => rfl, frQ_rf _, Or.inl ⟨rfl, i', f, hf, c1, c2⟩⟩
      · have := xD_lawLoop F (e := e) c1 hf 1 N
        rw [← hN] at this
        exact this
      · have : lp_X12_law_31 F (fun x2_6 σ6 => jn_X12_law_71 F x2_6 σ6) (N + 1) 0 τ2 = jn_X12_law_71 F 0 τ2 := by rw [lp_X12_law_31, if_pos rfl]
        rw [← hN] at this
        exact this
    · exact s_law_loop F hF he (fun x2_6 σ6 => jn_X12_law_71 F x2_6 σ6) n 1 i' L' 1 F F σ2 τ2 (by omega) (by omega) (by omega) (by omega) c1
  obtain ⟨σ3, b', τ3, d1, d2, d3, d4, d5⟩ := key
  rw [d1, d2]
  simp only [Option.bind_some]
  have fX : frV e σ σ3 := frV_tr fX0 d3
  have fMd : ∀ d, d ≠ 0 → (d < 7 ∨ 13 ≤ d) → τ3 d = τ d := fun d h1 h2 => by rw [d4.1 d h1 h2, fM0d d h1 h2]
  have fMk : ∀ k, ¬ sQ k → k ≠ 8 → τ3 0 k = τ 0 k := fun k hk h8 => by rw [d4.2 k hk, fM0k k hk h8]
  have oX : ∀ d, d ≠ 1 → d < 46 → σ3 d = σ d := fun d h1 h2 => fX d h1 (by omega)
  unfold jn_X12_law_71
  simp only [ltE]
  rcases d5 with ⟨rfl, i', f, hf, c1, c2⟩ | ⟨rfl, i', L, z, hR3⟩
  · rw [c1.2.2.2.2.1, if_neg hf, if_pos rfl]
    refine ⟨f, σ3, js τ3 0 6 0, rfl, by rw [js_k _ _ (by omega), c2], ⟨⟨0, by omega, c1.2.2.2.2.2.1, js_at _ _ _ _⟩, ?_⟩, ?_, ?_, ?_, ?_, ?_⟩
    · rw [oX 2 (by omega) (by omega), js_c _ _ _ (by omega), fMd 6 (by omega) (by omega)]; exact t3
    · rw [js_c _ _ _ (by omega), fMd 1 (by omega) (by omega)]; exact hW
    · rw [js_c _ _ _ (by omega), fMd 1 (by omega) (by omega)]; exact cityR_congr hR (fun j hj => oX _ (by omega) (by omega))
    · unfold keptR at hK ⊢
      rw [oX 0 (by omega) (by omega), js_k _ _ (show (50 : Nat) ≠ 6 by omega), fMk 50 (by unfold sQ; omega) (by omega), js_c _ _ _ (show (3 : Nat) ≠ 0 by omega), fMd 3 (by omega) (by omega)]
      rcases hK with h | ⟨q1, q2, q3, q4⟩
      · exact Or.inl h
      · exact Or.inr ⟨q1, q2, q3, cityR_congr q4 (fun j hj => oX _ (by omega) (by omega))⟩
    · unfold routR at hO ⊢
      rw [oX 34 (by omega) (by omega), oX 35 (by omega) (by omega), js_c _ _ _ (show (4 : Nat) ≠ 0 by omega), js_c _ _ _ (show (5 : Nat) ≠ 0 by omega), fMd 4 (by omega) (by omega), fMd 5 (by omega) (by omega)]
      exact hO
    · refine ⟨ea, hea, by rw [oX 0 (by omega) (by omega)]; exact l1, by rw [oX 0 (by omega) (by omega)]; exact l2, lawR_congr l3 (fun j hj => fX (ea + j) (by omega) (by omega)) (fun c' p1 p2 => by rw [js_c _ _ _ (by omega), fMd c' (by omega) (by omega)]) (by rw [js_k _ _ (by omega), fMk 15 (by unfold sQ; omega) (by omega)])⟩
  · obtain ⟨hX, hM, h5, h12, hLi, hn', hz, hzm, hz16, hRL⟩ := id hR3
    have hin := hX.2.2.2.2.2.2.1
    have e12' : σ3 0 12 = nI e := by rw [oX 0 (by omega) (by omega), hee]; exact l2
    have e11' : σ3 0 11 = nI ea := by rw [oX 0 (by omega) (by omega)]; exact l1
    rw [hX.2.2.2.2.1, if_pos rfl, if_neg (show ¬ (1 : Int32) = 0 by decide), e11', nI_clamp (by omega), if_pos (k3 ea hea), e12', nI_clamp (by omega), if_pos (k3 e he')]
    have e11n : js (js σ3 0 11 (nI e)) 0 12 (nI ea) 0 11 = nI e := by rw [js_k _ _ (by omega), js_at]
    rw [e11n, nI_clamp (by omega), if_pos (k3 e he')]
    have e14 : js τ3 0 6 0 0 14 = nI z := by rw [js_k _ _ (by omega)]; exact hzm
    rw [e14]
    obtain ⟨τ4, p1, p2, p3⟩ := m_cp95 F hF (τ := js (js τ3 0 6 0) 0 15 (nI z)) (L := L) (by rw [js_k _ _ (by omega), js_k _ _ (by omega)]; exact h12) (by omega) (fun σ12 => (lp_X12_law_123 F F (0 : Int32) σ12))
    rw [p1]
    obtain ⟨τ5, q1, q2, q3⟩ := m_cp123 F hF (τ := τ4) (z := z) (by rw [p2 0 (by omega), js_k _ _ (by omega)]; exact e14) hz16
    rw [q1]
    have hS : ∀ k, k ≠ 6 → k ≠ 15 → τ5 0 k = τ3 0 k := fun k h6 h15 => by rw [q2 0 (by omega), p2 0 (by omega), js_k _ _ h15, js_k _ _ h6]
    have hD : ∀ d, d ≠ 0 → (d < 13 ∨ 18 ≤ d) → τ5 d = τ3 d := fun d h0 h1 => by rw [q2 d (by omega), p2 d (by omega), js_c _ _ _ h0, js_c _ _ _ h0]
    have h13 : ∀ j, j < L → τ5 13 j = τ3 7 j := fun j hj => by rw [q2 13 (by omega), p3 j hj, js_c _ _ _ (by omega), js_c _ _ _ (by omega)]
    have hrow : ∀ d, 9 ≤ d → d < 13 → τ4 d = τ3 d := fun d a b => by rw [p2 d (by omega), js_c _ _ _ (by omega), js_c _ _ _ (by omega)]
    have xs : ∀ d, d ≠ 0 → js (js σ3 0 11 (nI e)) 0 12 (nI ea) d = σ3 d := fun d hd => by rw [js_c _ _ _ hd, js_c _ _ _ hd]
    have xk : ∀ k, k ≠ 11 → k ≠ 12 → js (js σ3 0 11 (nI e)) 0 12 (nI ea) 0 k = σ 0 k := fun k h1 h2 => by rw [js_k _ _ h2, js_k _ _ h1, oX 0 (by omega) (by omega)]
    refine ⟨nI z, js (js σ3 0 11 (nI e)) 0 12 (nI ea), τ5, by rw [xs e (by omega), hz], rfl, ⟨⟨0, by omega, ?_, ?_⟩, ?_⟩, ?_, ?_, ?_, ?_, ?_⟩
    · rw [xs 1 (by omega)]; exact hX.2.2.2.2.2.1
    · rw [q2 0 (by omega), p2 0 (by omega), js_k _ _ (by omega), js_at]; rfl
    · rw [xs 2 (by omega), oX 2 (by omega) (by omega), hD 6 (by omega) (by omega), fMd 6 (by omega) (by omega)]; exact t3
    · rw [hD 1 (by omega) (by omega), fMd 1 (by omega) (by omega)]; exact hW
    · rw [hD 1 (by omega) (by omega), fMd 1 (by omega) (by omega)]; exact cityR_congr hR (fun j hj => by rw [xs _ (by omega)]; exact oX _ (by omega) (by omega))
    · unfold keptR at hK ⊢
      rw [xk 13 (by omega) (by omega), hS 50 (by omega) (by omega), fMk 50 (by unfold sQ; omega) (by omega), hD 3 (by omega) (by omega), fMd 3 (by omega) (by omega)]
      rcases hK with h | ⟨q1, q2, q3, q4⟩
      · exact Or.inl h
      · exact Or.inr ⟨q1, q2, q3, cityR_congr q4 (fun j hj => by rw [xs _ (by omega)]; exact oX _ (by omega) (by omega))⟩
    · unfold routR at hO ⊢
      rw [xs 34 (by omega), xs 35 (by omega), oX 34 (by omega) (by omega), oX 35 (by omega) (by omega), hD 4 (by omega) (by omega), hD 5 (by omega) (by omega), fMd 4 (by omega) (by omega), fMd 5 (by omega) (by omega)]
      exact hO
    · refine ⟨e, he', e11n, ?_, ?_⟩
      · rw [js_at]
        congr 1
        omega
      · obtain ⟨cd, r1, r2⟩ := hRL
        refine ⟨cd, z, hz16, by rw [xs e (by omega)]; exact hz, ?_, fun i hi ⟨j, hj, hlt⟩ => ?_, fun j hj => ?_⟩
        · rw [q2 0 (by omega), p2 0 (by omega), js_at]
        · obtain ⟨kd, s, h, t, w1, w2, w3, w4, w5, w6, w7, w8, w9, w10⟩ := r2 j hj
          rw [xs (e + 5) (by omega), w9] at hlt
          have hit : i < t := by
            rcases Nat.lt_or_ge i t with g | g
            · exact g
            · exact absurd hlt (nI_nlt g (by omega))
          rw [xs (e + 1) (by omega), h13 i (by omega)]
          exact r1 i (by omega)
        · obtain ⟨kd, s, h, t, w1, w2, w3, w4, w5, w6, w7, w8, w9, w10⟩ := r2 j hj
          obtain ⟨v1, v2, v3, v4⟩ := q3 j hj
          exact ⟨kd, s, h, t, w1, by rw [xs _ (by omega)]; exact w3, by rw [v1, hrow 9 (by omega) (by omega)]; exact w4, by rw [xs _ (by omega)]; exact w5, by rw [v2, hrow 10 (by omega) (by omega)]; exact w6, by rw [xs _ (by omega)]; exact w7, by rw [v3, hrow 11 (by omega) (by omega)]; exact w8, by rw [xs _ (by omega)]; exact w9, by rw [v4, hrow 12 (by omega) (by omega)]; exact w10⟩
