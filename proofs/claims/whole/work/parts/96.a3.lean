theorem nI_24 {a b : Nat} : nI a + nI b = nI (a + b) := nI_add a b
theorem s_doing (F : Nat) (hF : 100 ≤ F) (p : Int32) {B : Nat → Nat} {n i i0 L o T M m : Nat} {σ τ : jS} (h : rtR B n i L o σ τ) (hp : ¬ (i < n ∧ B i = 40)) (hT : 1 ≤ T) (hT9 : T ≤ 9) (h35 : τ 0 35 = nI i0) (h36 : τ 0 36 = nI T) (hi0 : i0 ≤ i) (hM : 1 ≤ M) (hm : 1 ≤ m) (g : Int32 → jS → Option jS) :
    oR F p B n i0 L o M (fun _ => True) σ τ (Option.bind (mX8_readDoing F σ) fun q4 => jn_X8_readPiece_82 F g (nI i0) (nI T) (nI L) q4) (Z1 F p M m τ) := by
  obtain ⟨hX, hT7, hH, hO⟩ := h
  obtain ⟨m, rfl⟩ : ∃ m', m = m' + 1 := ⟨m - 1, by omega⟩
  obtain ⟨M, rfl⟩ : ∃ m', M = m' + 1 := ⟨M - 1, by omega⟩
  have hin := hT7.2.2.1
  have hn := hT7.2.2.2.1
  have hB := hX.1
  have eZ : Z1 F p (M + 1) (m + 1) τ = Option.bind (zH F τ) fun q => Z0 F p (M + 1) q.1 q.2 := by
    unfold Z1
    rw [lp_X12_readsHour_4, m_here F hT7]
    simp only [Option.bind_some]
    rw [if_neg (show ¬ sg B n i = (40 : Int32) from fun e => hp ((sg_eq hB n i (c := 40) (by omega)).mp e))]
  rw [eZ]
  unfold mX8_readDoing jn_X8_readDoing_27 zH
  simp only [ltE, h35, h36]
  rw [m_here F hT7]
  simp only [Option.bind_some]
  have bad : oR F p B n i0 L o (M + 1) (fun _ => True) σ τ (Option.bind (Option.bind (mX10_fail F (1 : Int32) (σ 1 3) σ) fun q2 => some q2) fun q4 => jn_X8_readPiece_82 F g (nI i0) (nI T) (nI L) q4) (Z0 F p (M + 1) 0 (js τ 0 9 (flt 1 i))) := by
    obtain ⟨σ1, b1, b2, b3⟩ := x_fail0 F hX 1 i
    have hf : flt 1 i ≠ 0 := flt_ne (by omega) (by omega) (by omega)
    have b1' : mX10_fail F (1 : Int32) (nI i) σ = some σ1 := b1
    rw [hX.2.2.1, b1']
    simp only [Option.bind_some, x_r82D F b2 hf]
    exact ⟨σ1, rfl, frH_of b3, Or.inl ⟨i, _, _, hf, b2, Z0_0 F p M _, js_at _ _ _ _, frR_js _ _ (Or.inr (Or.inl rfl))⟩⟩
  by_cases c : i < n
  · have hb := hB i
    rw [x_on1 F hX c, hX.2.2.2.1]
    have es : sg B n i = nI (B i) := by unfold sg; rw [if_pos c]
    rw [es, m_doingBy F τ hb]
    simp only [Option.bind_some, if_neg (show ¬ (1 : Int32) = 0 by decide)]
    rw [x_index F (e := 0) σ hb (by decide) (by decide) hF]
    simp only [Option.bind_some]
    rcases (dw_all (B i) hb).2 with e | ⟨e, hd⟩
    · rw [e, if_pos (show (-1 : Int32) < 0 by decide), if_pos rfl, hT7.1]
      exact bad
    · generalize (ix 0 (B i)).toNatClampNeg = dd at e hd
      rw [e, if_neg (nI_pos (by omega)), if_neg (m1_ne dd (by omega))]
      obtain ⟨σ1, a1, a2, a3⟩ := x_step1 F hX c
      obtain ⟨hL, h33, h33m, hv⟩ := hH
      obtain ⟨σ2, b1, b2, b3, b4, b5⟩ := x_put F (σ := σ1) (p := L) (by rw [a3 33 (by omega)]; exact h33) (by omega) (nI dd)
      rw [a1]
      simp only [Option.bind_some]
      rw [b1]
      simp only [Option.bind_some]
      have hX2 : tpX B n (i + 1) 0 σ2 := by
        obtain ⟨hB, h2, h3, h4, h5, h1, hi, hn, hb⟩ := a2
        refine ⟨hB, ?_, ?_, ?_, ?_, ?_, hi, hn, ?_⟩
        · rw [b3 1 (by omega) (by omega)]; exact h2
        · rw [b3 1 (by omega) (by omega)]; exact h3
        · rw [b3 1 (by omega) (by omega)]; exact h4
        · rw [b3 1 (by omega) (by omega)]; exact h5
        · rw [b3 1 (by omega) (by omega)]; exact h1
        · rw [b3 2 (by omega) (by omega)]; exact hb
      obtain ⟨σ3, c1, c2⟩ := x_r82 F (by omega) hX2 (L0 := L) (U := L + 1) (T := T) (i0 := i0) b2 (by omega) (by omega) hT hT9 g
      have e1 : L + T * (L + 1 - L) = L + T := by rw [show L + 1 - L = 1 by omega]; omega
      have fX3 : frH σ σ3 := frH_tr (frH_tr (frH_of a3) (fun d _ h1 h2 => b3 d h1 h2)) (frH_rI c1)
      rw [h33m, nI_24]
      rw [e1] at c1 c2
      rcases c2 with ⟨h24, d1, d2⟩ | ⟨h24, σ4, d1, d2, d3⟩
      · rw [d1, if_neg (show ¬ (24 : Int32) < nI (L + T) from nI_nlt (a := 24) h24 (by omega)), jin_nI (show L < 24 by omega) (by omega), if_pos rfl, nI_clamp (by omega)]
        have q1 : js (js τ 20 L (nI dd)) 0 7 (js τ 20 L (nI dd) 0 7 + 1) 0 33 + 1 = nI (L + 1) := by
          rw [js_k _ _ (by omega), js_c _ _ _ (by omega), h33m, nI1]
        rw [q1, js_at, show nI (L + 1) - 1 = nI L from by rw [show (1 : Int32) = nI 1 from rfl, pk_sub (a := L + 1) (b := 1) (by omega)]; rfl]
        have hM2 : tpM B n (i + 1) (js (js τ 20 L (nI dd)) 0 7 (js τ 20 L (nI dd) 0 7 + 1)) := tpM_step (tpM_cell hT7 _ _ (by omega) (by omega)) c
        generalize hρ : js (js τ 20 L (nI dd)) 0 7 (js τ 20 L (nI dd) 0 7 + 1) = ρ at hM2
        have fρ : frR τ ρ := by rw [← hρ]; exact frR_tr (frR_c _ _ _ (by omega)) (frR_js _ _ (Or.inl rfl))
        have r20 : ∀ j, ρ 20 j = if j = L then nI dd else τ 20 j := fun j => by
          rw [← hρ, js_c _ _ _ (by omega)]
          by_cases e : j = L
          · rw [e, js_at, if_pos rfl]
          · rw [js_k _ _ e, if_neg e]
        have r34 : ρ 0 34 = nI o := by rw [← hρ, js_k _ _ (by omega), js_c _ _ _ (by omega)]; exact hO
        have rst : stk o τ ρ := fun j _ => by
          rw [← hρ, js_c _ _ _ (by omega), js_c _ _ _ (by omega), js_c _ _ _ (by omega), js_c _ _ _ (by omega), js_c _ _ _ (by omega), js_c _ _ _ (by omega)]
          exact ⟨rfl, rfl, rfl⟩
        rcases m_repeats F (by omega) (τ := js ρ 0 33 (nI (L + 1))) (L0 := L) (U := L + 1) (T := T) (a := i0) (js_at _ _ _ _) (by omega) (by omega) hT hT9 with ⟨h, _⟩ | ⟨_, τ2, k1, k2, k3, k4, k5⟩
        · omega
        rw [k1]
        simp only [Option.bind_some, if_neg (show ¬ (1 : Int32) = 0 by decide)]
        have hHr : hrR (L + T) σ3 τ2 := by
          have c1' : rI σ2 L (L + 1) (L + T * (L + 1 - L)) σ3 := by rw [e1]; exact c1
          have := rep_hr (T := T) c1' (by omega) hT (by omega) k2 k3 (fun j hj => by
            rw [js_c _ _ _ (by omega), r20 j]
            by_cases e : j = L
            · rw [if_pos e, e]
              exact ⟨b4 (by omega), dd, hd, rfl⟩
            · rw [if_neg e, b5 j e, a3 36 (by omega)]
              exact hv j (by omega))
          rw [e1] at this
          exact this
        have f2 : frR ρ τ2 := ⟨fun d h0 h1 => by rw [k4 d h0 (by omega), js_c _ _ _ h0], fun k hk => by rw [k5 k (fun e => hk (by rw [e]; exact Or.inr (Or.inr ⟨by omega, by omega⟩))), js_k _ _ (fun e => hk (by rw [e]; exact Or.inr (Or.inr ⟨by omega, by omega⟩)))]⟩
        refine ⟨σ3, rfl, fX3, Or.inr ⟨i + 1, L + T, M + 1, F, τ2, by omega, by omega, trivial, by omega, by omega, rfl, ⟨d2, ?_, hHr, ?_⟩, frR_tr fρ f2, stk_tr rst (fun j _ => ?_)⟩⟩
        · obtain ⟨w1, w2, w3, w4, w5⟩ := hM2
          exact ⟨by rw [k5 7 (by omega), js_k _ _ (by omega)]; exact w1, by rw [k5 8 (by omega), js_k _ _ (by omega)]; exact w2, w3, w4, by rw [k4 6 (by omega) (by omega), js_c _ _ _ (by omega)]; exact w5⟩
        · rw [k5 34 (by omega), js_k _ _ (by omega)]; exact r34
        · rw [k4 21 (by omega) (by omega), k4 22 (by omega) (by omega), k4 23 (by omega) (by omega), js_c _ _ _ (by omega), js_c _ _ _ (by omega), js_c _ _ _ (by omega)]
          exact ⟨rfl, rfl, rfl⟩
      · rw [d1, if_pos (show (24 : Int32) < nI (L + T) from nI_lt (a := 24) h24 (by omega))]
        have hf : flt 6 i0 ≠ 0 := flt_ne (by omega) (by omega) (by omega)
        exact ⟨σ4, rfl, frH_tr fX3 (frH_of d3), Or.inl ⟨i + 1, _, js τ 0 9 (flt 6 i0), hf, d2, Z0_0 F p M _, js_at _ _ _ _, frR_js _ _ (Or.inr (Or.inl rfl))⟩⟩
  · rw [x_on0 F hX c]
    have es : sg B n i = -1 := by unfold sg; rw [if_neg c]
    rw [es, m_doingN F τ]
    simp only [Option.bind_some, if_true, if_pos (show (-1 : Int32) < 0 by decide), hT7.1]
    exact bad
