theorem oR_mono {F : Nat} {p : Int32} {B : Nat → Nat} {n i j L o M : Nat} {good : Nat → Prop} {σ σ0 τ τ0 : jS} {rx : Option jS} {E : Option (Int32 × jS)} (h : oR F p B n i L o M good σ τ rx E) (hj : j ≤ i) (h1 : frH σ0 σ) (h2 : frR τ0 τ) (h3 : stk o τ0 τ) : oR F p B n j L o M good σ0 τ0 rx E := by
  obtain ⟨σ', a1, a2, a3⟩ := h
  refine ⟨σ', a1, frH_tr h1 a2, ?_⟩
  rcases a3 with ⟨i', f, τ', q1, q2, q3, q4, q5⟩ | ⟨i', L', M', m', τ', q1, q2, q3, q4, q5, q6, q7, q8, q9⟩
  · exact Or.inl ⟨i', f, τ', q1, q2, q3, q4, frR_tr h2 q5⟩
  · exact Or.inr ⟨i', L', M', m', τ', by omega, q2, q3, by omega, q5, q6, q7, frR_tr h2 q8, stk_tr h3 q9⟩
def pcF (F d : Nat) : Int32 → jS → Option jS := bX8_readPiece F (bX8_readGroup F (rX8_readHours F d))
def pieceOK (F : Nat) (p : Int32) (B : Nat → Nat) (n o d : Nat) : Prop := ∀ i L M m σ τ, rtR B n i L o σ τ → o ≤ i → n + 2 ≤ M + i → 4 ≤ m + o → oR F p B n i L o M (fun _ => True) σ τ (pcF F d (nI o) σ) (Zw F p M m τ)
def hGood (B : Nat → Nat) (n o i' : Nat) : Prop := (o = 0 ∧ i' = n) ∨ (o ≠ 0 ∧ i' < n ∧ B i' = 41)
def hoursOK (F : Nat) (p : Int32) (B : Nat → Nat) (n o d : Nat) : Prop := ∀ i L M m σ τ, rtR B n i L o σ τ → o ≤ i → n + 2 ≤ M + i → 4 ≤ m + o → oR F p B n i L o M (hGood B n o) σ τ (rX8_readHours F d (nI o) σ) (Zw F p M m τ)
theorem piece_of (F : Nat) (hF : 100 ≤ F) (p : Int32) {B : Nat → Nat} {n o d : Nat} (ho : o ≤ 2) (hin : o = 2 ∨ hoursOK F p B n (o + 1) d) : pieceOK F p B n o d := by
  intro i L M m σ τ h hoi hM hm
  have hin' := h.1.2.2.2.2.2.2.1
  have hn := h.1.2.2.2.2.2.2.2.1
  unfold pcF
  obtain ⟨T, i1, σ1, τ1, t1, t2, t3, t4, t5, t6, t7, t8, t9, t10, t11⟩ := s_times F h (bX8_readGroup F (rX8_readHours F d)) (nI o)
  have eW : Zw F p M m τ = Z1 F p M m τ1 := by unfold Zw; rw [t5]; rfl
  rw [t4, eW]
  have hin1 := t6.1.2.2.2.2.2.2.1
  have h33 : σ1 33 4 = nI L := t6.2.2.1.2.1
  unfold jn_X8_readPiece_52
  rw [h33, ltE]
  by_cases c : i1 < n ∧ B i1 = 40
  · have hs : mX10_stands F (40 : Int32) σ1 = some 1 := x_stand1 F t6.1 (c := 40) (by omega) c
    rw [hs]
    simp only [Option.bind_some, if_neg (show ¬ (1 : Int32) = 0 by decide)]
    obtain ⟨m, rfl⟩ : ∃ m', m = m' + 1 := ⟨m - 1, by omega⟩
    have hh : mX12_here F τ1 = some (40 : Int32) := by
      rw [m_here F t6.2.1]
      unfold sg
      rw [if_pos c.1, c.2]
      rfl
    have e34 : τ1 0 34 = nI o := t6.2.2.2
    rcases Nat.lt_or_ge o 2 with ho2 | ho2
    · have hin2 : hoursOK F p B n (o + 1) d := hin.resolve_left (by omega)
      obtain ⟨σ2, a1, a2, a3⟩ := x_step1 F t6.1 c.1
      have eZ : Z1 F p M (m + 1) τ1 = Zw F p M m (js (js (js (js (js τ1 21 o (nI i)) 22 o (nI L)) 23 o (nI T)) 0 34 (nI (o + 1))) 0 7 (nI i1 + 1)) := by
        unfold Z1 Zw
        rw [lp_X12_readsHour_4, hh]
        simp only [Option.bind_some, if_true, e34, if_neg (show ¬ nI o = (2 : Int32) from fun e => by
          have := nI_inj (b := 2) (by omega) (by omega) e
          omega), jin_nI ho2 (show 2 < 2 ^ 31 by omega), nI_clamp (show o < 2 ^ 31 by omega), ltE, t10, js_c _ _ _ (show (0 : Nat) ≠ 21 by omega), js_c _ _ _ (show (0 : Nat) ≠ 22 by omega), js_c _ _ _ (show (0 : Nat) ≠ 23 by omega), t6.2.2.1.2.2.1, t11, nI1, js_k _ _ (show (7 : Nat) ≠ 34 by omega), t6.2.1.1]
        unfold Z1
        cases mX12_readsTimes F (js (js (js (js (js τ1 21 o (nI i)) 22 o (nI L)) 23 o (nI T)) 0 34 (nI (o + 1))) 0 7 (nI (i1 + 1))) <;> rfl
      rw [eZ]
      generalize hρ : js (js (js (js (js τ1 21 o (nI i)) 22 o (nI L)) 23 o (nI T)) 0 34 (nI (o + 1))) 0 7 (nI i1 + 1) = ρ
      have fρ : frR τ1 ρ := by rw [← hρ]; exact frR_tr (frR_tr (frR_tr (frR_tr (frR_c _ _ _ (by omega)) (frR_c _ _ _ (by omega))) (frR_c _ _ _ (by omega))) (frR_js _ _ (Or.inr (Or.inr ⟨by omega, by omega⟩)))) (frR_js _ _ (Or.inl rfl))
      have sρ : stk o τ1 ρ := fun j hj => by
        rw [← hρ]
        refine ⟨?_, ?_, ?_⟩
        · rw [js_c _ _ _ (by omega), js_c _ _ _ (by omega), js_c _ _ _ (by omega), js_c _ _ _ (by omega), js_k _ _ (by omega)]
        · rw [js_c _ _ _ (by omega), js_c _ _ _ (by omega), js_c _ _ _ (by omega), js_k _ _ (by omega), js_c _ _ _ (by omega)]
        · rw [js_c _ _ _ (by omega), js_c _ _ _ (by omega), js_k _ _ (by omega), js_c _ _ _ (by omega), js_c _ _ _ (by omega)]
      have r21 : ρ 21 o = nI i := by rw [← hρ, js_c _ _ _ (by omega), js_c _ _ _ (by omega), js_c _ _ _ (by omega), js_c _ _ _ (by omega), js_at]
      have r22 : ρ 22 o = nI L := by rw [← hρ, js_c _ _ _ (by omega), js_c _ _ _ (by omega), js_c _ _ _ (by omega), js_at]
      have r23 : ρ 23 o = nI T := by rw [← hρ, js_c _ _ _ (by omega), js_c _ _ _ (by omega), js_at]
      have rR : rtR B n (i1 + 1) L (o + 1) σ2 ρ := by
        refine ⟨a2, ?_, hr_fr t6.2.2.1 a3 ?_ ?_, ?_⟩
        · have := tpM_step (tpM_js (tpM_cell (tpM_cell (tpM_cell t6.2.1 (c := 21) o (nI i) (by omega) (by omega)) (c := 22) o (nI L) (by omega) (by omega)) (c := 23) o (nI T) (by omega) (by omega)) (k := 34) (nI (o + 1)) (by omega) (by omega)) c.1
          rw [js_k _ _ (show (7 : Nat) ≠ 34 by omega), js_c _ _ _ (show (0 : Nat) ≠ 23 by omega), js_c _ _ _ (show (0 : Nat) ≠ 22 by omega), js_c _ _ _ (show (0 : Nat) ≠ 21 by omega), t6.2.1.1, hρ] at this
          exact this
        · rw [← hρ, js_k _ _ (by omega), js_k _ _ (by omega), js_c _ _ _ (by omega), js_c _ _ _ (by omega), js_c _ _ _ (by omega)]
        · rw [← hρ, js_c _ _ _ (by omega), js_c _ _ _ (by omega), js_c _ _ _ (by omega), js_c _ _ _ (by omega), js_c _ _ _ (by omega)]
        · rw [← hρ, js_k _ _ (by omega), js_at]
      obtain ⟨σ3, b1, b2, b3⟩ := hin2 (i1 + 1) L M m σ2 ρ rR (by omega) (by omega) (by omega)
      have eG : bX8_readGroup F (rX8_readHours F d) (nI o) σ1 = (if nI o < (2 : Int32) then (Option.bind (mX10_step F σ1) fun q1 => (Option.bind (rX8_readHours F d ((nI o + (1 : Int32))) q1) fun q2 => (Option.bind (mX10_take F (41 : Int32) q2) fun q3 => some q3))) else (Option.bind (mX10_fail F (5 : Int32) ((σ1 1 3)) σ1) fun q4 => some q4)) := rfl
      rw [eG, if_pos (show nI o < (2 : Int32) from nI_lt (b := 2) ho2 (by omega)), a1]
      simp only [Option.bind_some, nI1]
      rw [b1]
      simp only [Option.bind_some]
      have fX3 : frH σ σ3 := frH_tr (frH_of (frm_tr t7 a3)) b2
      rcases b3 with ⟨i', f, τ', q1, q2, q3, q4, q5⟩ | ⟨i', L', M', m', τ', q1, q2, q3, q4, q5, q6, q7, q8, q9⟩
      · obtain ⟨σ4, i4, c1, c2, c3⟩ := x_takeD F q2 q1 (c := 41) (by omega)
        have c1' : mX10_take F (41 : Int32) σ3 = some σ4 := c1
        rw [c1']
        simp only [Option.bind_some, x_r82D F c2 q1]
        exact ⟨σ4, rfl, frH_tr fX3 (frH_of c3), Or.inl ⟨i4, f, τ', q1, c2, q3, q4, frR_tr (frR_tr t8 fρ) q5⟩⟩
      · have hg : i' < n ∧ B i' = 41 := by
          rcases q3 with ⟨h, _⟩ | ⟨_, h⟩
          · omega
          · exact h
        obtain ⟨σ4, c1, c2, c3⟩ := x_take F q7.1 (c := 41) (by omega)
        have c1' : mX10_take F (41 : Int32) σ3 = some σ4 := c1
        rw [if_pos hg] at c2
        rw [c1']
        simp only [Option.bind_some]
        obtain ⟨h24, h33', h33m, hv⟩ := q7.2.2.1
        obtain ⟨σ5, d1, d2⟩ := x_r82 F (by omega) c2 (L0 := L) (U := L') (T := T) (i0 := i) (by rw [c3 33 (by omega)]; exact h33') (by omega) (by omega) t1 t2 (bX8_readGroup F (rX8_readHours F d))
        have fX5 : frH σ σ5 := frH_tr (frH_tr fX3 (frH_of c3)) (frH_rI d1)
        obtain ⟨m', rfl⟩ : ∃ k, m' = k + 1 := ⟨m' - 1, by omega⟩
        have hh2 : mX12_here F τ' = some (41 : Int32) := by
          rw [m_here F q7.2.1]
          unfold sg
          rw [if_pos hg.1, hg.2]
          rfl
        have s1 := q9 o (by omega)
        have s1' : τ' 21 o = nI i ∧ τ' 22 o = nI L ∧ τ' 23 o = nI T := ⟨s1.1.trans r21, s1.2.1.trans r22, s1.2.2.trans r23⟩
        have e34' : τ' 0 34 = nI (o + 1) := q7.2.2.2
        have em1 : nI (o + 1) - (1 : Int32) = nI o := by rw [show (1 : Int32) = nI 1 from rfl, pk_sub (a := o + 1) (b := 1) (by omega)]; rfl
        have eZ2 : Z2 F p M' (m' + 1) τ' = Option.bind (Option.bind (mX12_repeats F (nI L) (nI T) (nI i) (js (js τ' 0 7 (τ' 0 7 + 1)) 0 34 (nI o))) fun q37 => if q37.1 = 0 then some ((0 : Int32), q37.2) else lp_X12_readsHour_196 F m' q37.2) fun q => Z0 F p M' q.1 q.2 := by
          unfold Z2
          rw [lp_X12_readsHour_196, hh2]
          simp only [Option.bind_some, if_true, e34', if_pos (show (0 : Int32) < nI (o + 1) from nI_lt (a := 0) (by omega) (by omega)), ltE, js_k _ _ (show (34 : Nat) ≠ 7 by omega), em1, js_at, jin_nI ho2 (show 2 < 2 ^ 31 by omega), nI_clamp (show o < 2 ^ 31 by omega), js_c _ _ _ (show (21 : Nat) ≠ 0 by omega), js_c _ _ _ (show (22 : Nat) ≠ 0 by omega), js_c _ _ _ (show (23 : Nat) ≠ 0 by omega), s1'.1, s1'.2.1, s1'.2.2]
        rw [q6, eZ2]
        have hM3 := tpM_js (tpM_step q7.2.1 hg.1) (k := 34) (nI o) (by omega) (by omega)
        have f3 : frR τ' (js (js τ' 0 7 (τ' 0 7 + 1)) 0 34 (nI o)) := frR_tr (frR_js _ _ (Or.inl rfl)) (frR_js _ _ (Or.inr (Or.inr ⟨by omega, by omega⟩)))
        generalize hθ : js (js τ' 0 7 (τ' 0 7 + 1)) 0 34 (nI o) = θ at hM3 f3
        have θ33 : θ 0 33 = nI L' := by rw [← hθ, js_k _ _ (by omega), js_k _ _ (by omega)]; exact h33m
        have θ34 : θ 0 34 = nI o := by rw [← hθ, js_at]
        have θd : ∀ d, d ≠ 0 → θ d = τ' d := fun d hd => by rw [← hθ, js_c _ _ _ hd, js_c _ _ _ hd]
        have fT : frR τ θ := frR_tr (frR_tr (frR_tr t8 fρ) q8) f3
        have sT : stk o τ θ := stk_tr (stk_tr t9 sρ) (fun j hj => by
          rw [θd 21 (by omega), θd 22 (by omega), θd 23 (by omega)]
          exact q9 j (by omega))
        rcases m_repeats F (by omega) (τ := θ) (L0 := L) (U := L') (T := T) (a := i) θ33 h24 (by omega) t1 t2 with ⟨k0, k1⟩ | ⟨k0, τ2, k1, k2, k3, k4, k5⟩
        · rcases d2 with ⟨w, _⟩ | ⟨_, σ6, w1, w2, w3⟩
          · omega
          rw [w1, k1]
          simp only [Option.bind_some, if_true]
          have hf : flt 6 i ≠ 0 := flt_ne (by omega) (by omega) (by omega)
          obtain ⟨M', rfl⟩ : ∃ k, M' = k + 1 := ⟨M' - 1, by have := q7.1.2.2.2.2.2.2.1; omega⟩
          exact ⟨σ6, rfl, frH_tr fX5 (frH_of w3), Or.inl ⟨_, _, js θ 0 9 (flt 6 i), hf, w2, Z0_0 F p M' _, js_at _ _ _ _, frR_tr fT (frR_js _ _ (Or.inr (Or.inl rfl)))⟩⟩
        · rcases d2 with ⟨_, w1, w2⟩ | ⟨w, _⟩
          rotate_left
          · omega
          rw [w1, k1]
          simp only [Option.bind_some, if_neg (show ¬ (1 : Int32) = 0 by decide)]
          have hge : L' - L ≤ T * (L' - L) := Nat.le_mul_of_pos_left _ (by omega)
          have hHr := rep_hr (T := T) d1 (by omega) t1 k0 k2 k3 (fun j hj => by rw [θd 20 (by omega), c3 36 (by omega)]; exact hv j hj)
          refine ⟨σ5, rfl, fX5, Or.inr ⟨i' + 1, L + T * (L' - L), M', m', τ2, by omega, by omega, trivial, by omega, by omega, rfl, ⟨w2, ?_, hHr, ?_⟩, frR_tr fT ⟨fun d h0 h1 => k4 d h0 (by omega), fun k hk => k5 k (fun e => hk (by rw [e]; exact Or.inr (Or.inr ⟨by omega, by omega⟩)))⟩, stk_tr sT (fun j _ => ?_)⟩⟩
          · obtain ⟨w1, w2, w3, w4, w5⟩ := hM3
            exact ⟨by rw [k5 7 (by omega)]; exact w1, by rw [k5 8 (by omega)]; exact w2, w3, w4, by rw [k4 6 (by omega) (by omega)]; exact w5⟩
          · rw [k5 34 (by omega)]; exact θ34
          · rw [k4 21 (by omega) (by omega), k4 22 (by omega) (by omega), k4 23 (by omega) (by omega)]
            exact ⟨rfl, rfl, rfl⟩
    · have ho3 : o = 2 := by omega
      subst ho3
      unfold bX8_readGroup
      rw [if_neg (show ¬ nI 2 < (2 : Int32) by decide), t6.1.2.2.1]
      obtain ⟨σ2, a1, a2, a3⟩ := x_fail0 F t6.1 5 i1
      have a1' : mX10_fail F (5 : Int32) (nI i1) σ1 = some σ2 := a1
      have hf : flt 5 i1 ≠ 0 := flt_ne (by omega) (by omega) (by omega)
      rw [a1']
      simp only [Option.bind_some, x_r82D F a2 hf]
      obtain ⟨M, rfl⟩ : ∃ k, M = k + 1 := ⟨M - 1, by omega⟩
      refine ⟨σ2, rfl, frH_of (frm_tr t7 a3), Or.inl ⟨i1, _, js τ1 0 9 (flt 5 i1), hf, a2, ?_, js_at _ _ _ _, frR_tr t8 (frR_js _ _ (Or.inr (Or.inl rfl)))⟩⟩
      unfold Z1
      rw [lp_X12_readsHour_4, hh]
      simp only [Option.bind_some, if_true, e34, if_pos (show nI 2 = (2 : Int32) from rfl), t6.2.1.1]
      exact Z0_0 F p M _
  · have hs : mX10_stands F (40 : Int32) σ1 = some 0 := x_stand0 F t6.1 (c := 40) (by omega) c
    rw [hs]
    simp only [Option.bind_some, if_true]
    have key := s_doing F hF p (M := M) (m := m) (i0 := i) t6 c t1 t2 t10 t11 t3 (by omega) (by omega) (bX8_readGroup F (rX8_readHours F d))
    exact oR_mono key (Nat.le_refl _) (frH_of t7) t8 t9
