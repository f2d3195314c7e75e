/-! ===== law: code, typed ===== -/
def segZ (cd : Nat → Nat × Nat) (s t : Nat) (z0 z1 : Nat × Bool) : Prop := ∃ ty : Nat → Nat × Bool, ty s = z0 ∧ ty t = z1 ∧ (∀ i, s ≤ i → i ≤ t → (ty i).1 < 32) ∧ ∀ i, s ≤ i → i < t → stepW (cd i).1 (cd i).2 i t ty
theorem stepW_mono {o a i t t' : Nat} {ty ty' : Nat → Nat × Bool} (h : stepW o a i t ty) (ht : t ≤ t') (e0 : ty' i = ty i) (e1 : ty' (i + 1) = ty (i + 1)) (e2 : i < a → a ≤ t → ty' a = ty a) : stepW o a i t' ty' := by
  unfold stepW at h ⊢
  rw [e0, e1]
  rcases h with h | h | h | h | h
  · exact Or.inl h
  · exact Or.inr (Or.inl h)
  · obtain ⟨h1, h2, h3, h4, h5, h6⟩ := h
    exact Or.inr (Or.inr (Or.inl ⟨h1, h2, h3, h4, by omega, by rw [e2 h4 h5]; exact h6⟩))
  · exact Or.inr (Or.inr (Or.inr (Or.inl h)))
  · exact Or.inr (Or.inr (Or.inr (Or.inr h)))
theorem segZ_cat {cd : Nat → Nat × Nat} {s m t : Nat} {z0 z1 z2 : Nat × Bool} (hsm : s ≤ m) (hmt : m ≤ t) (h : segZ cd s m z0 z1) (g : segZ cd m t z1 z2) : segZ cd s t z0 z2 := by
  obtain ⟨ty, h1, h2, h3, h4⟩ := h
  obtain ⟨uy, g1, g2, g3, g4⟩ := g
  refine ⟨fun i => if i ≤ m then ty i else uy i, by simp only [if_pos hsm]; exact h1, ?_, fun i a b => ?_, fun i a b => ?_⟩
  · by_cases c : t ≤ m
    · have e : t = m := by omega
      subst e
      simp only [if_pos (Nat.le_refl t)]
      rw [h2, ← g1, g2]
    · simp only [if_neg c]; exact g2
  · by_cases c : i ≤ m
    · simp only [if_pos c]; exact h3 i a c
    · simp only [if_neg c]; exact g3 i (by omega) b
  · by_cases c : i < m
    · refine stepW_mono (h4 i a c) hmt ?_ ?_ (fun _ k => ?_)
      · simp only [if_pos (show i ≤ m by omega)]
      · simp only [if_pos (show i + 1 ≤ m by omega)]
      · simp only [if_pos k]
    · have hu : ∀ j, m ≤ j → (if j ≤ m then ty j else uy j) = uy j := fun j hj => by
        by_cases e : j ≤ m
        · have e2 : j = m := by omega
          subst e2
          rw [if_pos e, h2, g1]
        · rw [if_neg e]
      refine stepW_mono (g4 i (by omega) b) (Nat.le_refl t) (hu i (by omega)) (hu (i + 1) (by omega)) (fun k _ => hu _ (by omega))
theorem segZ_congr {cd cd' : Nat → Nat × Nat} {s t : Nat} {z0 z1 : Nat × Bool} (h : segZ cd s t z0 z1) (e : ∀ j, s ≤ j → j < t → cd' j = cd j) : segZ cd' s t z0 z1 := by
  obtain ⟨ty, h1, h2, h3, h4⟩ := h
  exact ⟨ty, h1, h2, h3, fun i a b => by rw [e i a b]; exact h4 i a b⟩
def CODE (e L0 L1 : Nat) (z0 z1 : Nat × Bool) (σ τ : jS) : Prop := ∃ cd, (∀ j, L0 ≤ j → j < L1 → codeR cd (σ (e + 1) j) (τ 7 j) j) ∧ segZ cd L0 L1 z0 z1
theorem CODE_nil (e L : Nat) {z : Nat × Bool} (hz : z.1 < 32) (σ τ : jS) : CODE e L L z z σ τ := ⟨fun _ => (0, 0), fun j a b => by omega, fun _ => z, rfl, rfl, fun _ _ _ => hz, fun i a b => by omega⟩
theorem CODE_cat {e L0 L1 L2 : Nat} {z0 z1 z2 : Nat × Bool} {σ σ' τ τ' : jS} (h01 : L0 ≤ L1) (h12 : L1 ≤ L2) (h : CODE e L0 L1 z0 z1 σ τ) (g : CODE e L1 L2 z1 z2 σ' τ') (k : ∀ j, L0 ≤ j → j < L1 → σ' (e + 1) j = σ (e + 1) j ∧ τ' 7 j = τ 7 j) : CODE e L0 L2 z0 z2 σ' τ' := by
  obtain ⟨cd, h1, h2⟩ := h
  obtain ⟨ce, g1, g2⟩ := g
  refine ⟨fun j => if j < L1 then cd j else ce j, fun j a b => ?_, segZ_cat h01 h12 (segZ_congr h2 (fun j _ b => if_pos b)) (segZ_congr g2 (fun j a _ => if_neg (by omega)))⟩
  by_cases c : j < L1
  · have q := h1 j a c
    unfold codeR at q ⊢
    simp only [if_pos c]
    rw [(k j a c).1, (k j a c).2]
    exact q
  · have q := g1 j (by omega) b
    unfold codeR at q ⊢
    simp only [if_neg c]
    exact q
theorem CODE_keep {e L0 L1 : Nat} {z0 z1 : Nat × Bool} {σ σ' τ τ' : jS} (h : CODE e L0 L1 z0 z1 σ τ) (k : ∀ j, L0 ≤ j → j < L1 → σ' (e + 1) j = σ (e + 1) j ∧ τ' 7 j = τ 7 j) : CODE e L0 L1 z0 z1 σ' τ' := by
  obtain ⟨cd, h1, h2⟩ := h
  exact ⟨cd, fun j a b => by rw [(k j a b).1, (k j a b).2]; exact h1 j a b, h2⟩
/-- one step without a jump -/
theorem CODE_one {e L o a : Nat} {z0 z1 : Nat × Bool} {σ τ : jS} (ho : o ≤ 12) (ha : a < 100000) (hx : σ (e + 1) L = nI (16 * a + o)) (hy : τ 7 L = nI (1048576 * opM o + a)) (h0 : z0.1 < 32) (h1 : z1.1 < 32) (hs : ∀ ty : Nat → Nat × Bool, ty L = z0 → ty (L + 1) = z1 → stepW o a L (L + 1) ty) : CODE e L (L + 1) z0 z1 σ τ := by
  refine ⟨fun _ => (o, a), fun j q1 q2 => ?_, fun i => if i ≤ L then z0 else z1, by simp only [if_pos (Nat.le_refl L)], by simp only [if_neg (show ¬ L + 1 ≤ L by omega)], fun i q1 q2 => ?_, fun i q1 q2 => ?_⟩
  · have e1 : j = L := by omega
    subst e1
    exact ⟨ho, ha, hx, hy⟩
  · by_cases c : i ≤ L
    · simp only [if_pos c]; exact h0
    · simp only [if_neg c]; exact h1
  · have e1 : i = L := by omega
    subst e1
    exact hs _ (by simp only [if_pos (Nat.le_refl i)]) (by simp only [if_neg (show ¬ i + 1 ≤ i by omega)])
/-! ### the class's law as it is written -/
def lwX (e L z : Nat) (σ : jS) : Prop := σ e 5 = nI L ∧ L ≤ 240 ∧ σ e 6 = nI z ∧ z ≤ 16
def eL (e : Nat) : Prop := e = 46 ∨ e = 52
def frC (e : Nat) (σ σ' : jS) : Prop := (∀ d, d ≠ 1 → d ≠ e → d ≠ e + 1 → σ' d = σ d) ∧ σ' e 6 = σ e 6
theorem frC_rf (e : Nat) (σ : jS) : frC e σ σ := ⟨fun _ _ _ _ => rfl, rfl⟩
theorem frC_tr {e : Nat} {a b c : jS} (h : frC e a b) (g : frC e b c) : frC e a c := ⟨fun d h1 h2 h3 => (g.1 d h1 h2 h3).trans (h.1 d h1 h2 h3), g.2.trans h.2⟩
theorem frC_of {e : Nat} (he : eL e) {a b : jS} (h : frm a b) : frC e a b := ⟨fun d h1 _ _ => h d h1, by rw [h e (by unfold eL at he; omega)]⟩
theorem tpX_fr {B : Nat → Nat} {n i : Nat} {f : Int32} {σ σ' : jS} (h : tpX B n i f σ) (e1 : σ' 1 = σ 1) (e2 : σ' 2 = σ 2) : tpX B n i f σ' := by
  unfold tpX at h ⊢
  rw [e1, e2]
  exact h
theorem x_lput (F : Nat) {e : Nat} (he : eL e) {σ : jS} {L : Nat} (hL : σ e 5 = nI L) (h24 : L < 240) (x1 x2 : Int32) : ∃ σ', mX3_put F e x1 x2 σ = some σ' ∧ σ' e 5 = nI (L + 1) ∧ σ' (e + 1) L = x2 * 16 + x1 ∧ (∀ j, j ≠ L → σ' (e + 1) j = σ (e + 1) j) ∧ frC e σ σ' ∧ σ' 1 = σ 1 := by
  unfold eL at he
  unfold mX3_put
  rw [hL, if_pos (show nI L < (240 : Int32) from nI_lt (b := 240) h24 (by omega)), jin_nI h24 (by omega), if_pos rfl]
  simp only [ltE, js_c _ _ _ (show e ≠ e + 1 by omega), hL, nI1, nI_clamp (show L < 2 ^ 31 by omega)]
  refine ⟨_, rfl, js_at _ _ _ _, ?_, fun j hj => ?_, ⟨fun d h1 h2 h3 => ?_, ?_⟩, ?_⟩
  · rw [js_c _ _ _ (by omega), js_at]
  · rw [js_c _ _ _ (by omega), js_k _ _ hj]
  · rw [js_c _ _ _ h2, js_c _ _ _ h3]
  · rw [js_k _ _ (by omega), js_c _ _ _ (by omega)]
  · rw [js_c _ _ _ (by omega), js_c _ _ _ (by omega)]
theorem x_laim (F : Nat) {e : Nat} (he : eL e) {σ : jS} {j : Nat} (hj : j < 240) : ∃ σ', mX3_aim F e (nI j) σ = some σ' ∧ σ' (e + 1) j = σ e 5 * 16 + (σ (e + 1) j &&& 15) ∧ (∀ q, q ≠ j → σ' (e + 1) q = σ (e + 1) q) ∧ σ' e = σ e ∧ frC e σ σ' ∧ σ' 1 = σ 1 := by
  unfold eL at he
  unfold mX3_aim
  rw [if_neg (nI_pos (by omega)), if_pos (show nI j < (240 : Int32) from nI_lt (b := 240) hj (by omega)), jin_nI hj (by omega), if_pos rfl, if_pos rfl, nI_clamp (by omega)]
  simp only [ltE]
  refine ⟨_, rfl, js_at _ _ _ _, fun q hq => js_k _ _ hq, js_c _ _ _ (by omega), ⟨fun d _ _ h3 => js_c _ _ _ h3, ?_⟩, js_c _ _ _ (by omega)⟩
  rw [js_c _ _ _ (by omega)]
theorem x_laim0 (F : Nat) (e : Nat) (σ : jS) : mX3_aim F e (-1) σ = some σ := by
  unfold mX3_aim
  rw [if_pos (show (-1 : Int32) < 0 by decide)]
/-! ### behind a fault -/
def dW (B : Nat → Nat) (n : Nat) (f : Int32) (e : Nat) (σ σ' : jS) : Prop := (∃ i, tpX B n i f σ') ∧ (∃ L, L ≤ 240 ∧ σ' e 5 = nI L) ∧ frC e σ σ'
theorem dW_tr {B : Nat → Nat} {n : Nat} {f : Int32} {e : Nat} {a b c : jS} (h : frC e a b) (g : dW B n f e b c) : dW B n f e a c := ⟨g.1, g.2.1, frC_tr h g.2.2⟩
theorem dW_rf {B : Nat → Nat} {n i : Nat} {f : Int32} {e L : Nat} {σ : jS} (h : tpX B n i f σ) (hL : L ≤ 240) (h5 : σ e 5 = nI L) : dW B n f e σ σ := ⟨⟨i, h⟩, ⟨L, hL, h5⟩, frC_rf e σ⟩
theorem dW_fm {B : Nat → Nat} {n i : Nat} {f : Int32} {e L : Nat} (he : eL e) {σ σ' : jS} (h : tpX B n i f σ') (hL : L ≤ 240) (h5 : σ e 5 = nI L) (hf : frm σ σ') : dW B n f e σ σ' := ⟨⟨i, h⟩, ⟨L, hL, by rw [hf e (by unfold eL at he; omega)]; exact h5⟩, frC_of he hf⟩
theorem xD_put (F : Nat) {e : Nat} (he : eL e) {B : Nat → Nat} {n : Nat} {f : Int32} {σ : jS} (h : dW B n f e σ σ) (x1 x2 : Int32) : ∃ σ', mX3_put F e x1 x2 σ = some σ' ∧ dW B n f e σ σ' := by
  obtain ⟨⟨i, hi⟩, ⟨L, hL, h5⟩, -⟩ := id h
  by_cases c : L < 240
  · obtain ⟨σ', a1, a2, a3, a4, a5, a6⟩ := x_lput F he h5 c x1 x2
    exact ⟨σ', a1, ⟨i, tpX_fr hi a6 (a5.1 2 (by omega) (by unfold eL at he; omega) (by unfold eL at he; omega))⟩, ⟨L + 1, by omega, a2⟩, a5⟩
  · unfold mX3_put
    rw [h5, if_neg (show ¬ nI L < (240 : Int32) from nI_nlt (b := 240) (by omega) (by omega))]
    exact ⟨σ, rfl, h⟩
theorem xD_aim (F : Nat) {e : Nat} (he : eL e) {B : Nat → Nat} {n : Nat} {f : Int32} {σ : jS} (h : dW B n f e σ σ) (x : Int32) : ∃ σ', mX3_aim F e x σ = some σ' ∧ dW B n f e σ σ' := by
  obtain ⟨⟨i, hi⟩, ⟨L, hL, h5⟩, -⟩ := id h
  by_cases c : x < 0
  · unfold mX3_aim
    rw [if_pos c]
    exact ⟨σ, rfl, h⟩
  · by_cases c2 : x < nI 240
    · obtain ⟨j, hj, rfl⟩ := rng (n := 240) (by omega) c c2
      obtain ⟨σ', a1, a2, a3, a4, a5, a6⟩ := x_laim F he (σ := σ) hj
      exact ⟨σ', a1, ⟨i, tpX_fr hi a6 (a5.1 2 (by omega) (by unfold eL at he; omega) (by unfold eL at he; omega))⟩, ⟨L, hL, by rw [a4]; exact h5⟩, a5⟩
    · unfold mX3_aim
      rw [if_neg c, if_neg (show ¬ x < (240 : Int32) from c2)]
      exact ⟨σ, rfl, h⟩
theorem dW_self {B : Nat → Nat} {n : Nat} {f : Int32} {e : Nat} {σ σ' : jS} (h : dW B n f e σ σ') : dW B n f e σ' σ' := ⟨h.1, h.2.1, frC_rf e σ'⟩
theorem dW_tr2 {B : Nat → Nat} {n : Nat} {f : Int32} {e : Nat} {a b c : jS} (h : dW B n f e a b) (g : dW B n f e b c) : dW B n f e a c := ⟨g.1, g.2.1, frC_tr h.2.2 g.2.2⟩
theorem xD_step' (F : Nat) {e : Nat} (he : eL e) {B : Nat → Nat} {n : Nat} {f : Int32} {σ : jS} (h : dW B n f e σ σ) : ∃ σ', mX10_step F σ = some σ' ∧ dW B n f e σ σ' := by
  obtain ⟨⟨i, hi⟩, ⟨L, hL, h5⟩, -⟩ := id h
  obtain ⟨σ', a1, a2, a3⟩ := x_step F hi
  exact ⟨σ', a1, dW_fm he a2 hL h5 a3⟩
theorem xD_take' (F : Nat) {e : Nat} (he : eL e) {B : Nat → Nat} {n : Nat} {f : Int32} (hf : f ≠ 0) {σ : jS} (h : dW B n f e σ σ) {c : Nat} (hc : c < 2 ^ 31) : ∃ σ', mX10_take F (nI c) σ = some σ' ∧ dW B n f e σ σ' := by
  obtain ⟨⟨i, hi⟩, ⟨L, hL, h5⟩, -⟩ := id h
  obtain ⟨σ', i', a1, a2, a3⟩ := x_takeD F hi hf hc
  exact ⟨σ', a1, dW_fm he a2 hL h5 a3⟩
theorem xD_stepOf (F : Nat) {B : Nat → Nat} {n i : Nat} {f : Int32} (hf : f ≠ 0) {σ : jS} (h : tpX B n i f σ) (c : Nat) (x : Int32) : mX4_stepOf F c x σ = some (-1) := by
  unfold mX4_stepOf
  rw [x_onD F h hf]
  simp only [Option.bind_some, if_true, if_pos (show (-1 : Int32) < 0 by decide)]
theorem xD_factor (F : Nat) (hF : 300 ≤ F) {e : Nat} (he : eL e) {B : Nat → Nat} {n : Nat} {f : Int32} (hf : f ≠ 0) {σ : jS} (h : dW B n f e σ σ) (g : Nat → Int32 → jS → Option jS) (x2 : Int32) : ∃ σ', bX4_readFactor F e g x2 σ = some σ' ∧ dW B n f e σ σ' := by
  obtain ⟨⟨i, hi⟩, ⟨L, hL, h5⟩, -⟩ := id h
  unfold bX4_readFactor
  rw [xD_stepOf F hf hi, x_standD F hi hf]
  obtain ⟨σ1, a1, a2, a3⟩ := x_number F (by omega) hi (most := 5) (by omega)
  rw [if_neg hf] at a2
  have a1' : mX10_number F (5 : Int32) σ = _ := a1
  have d1 : dW B n f e σ σ1 := dW_fm he a2 hL h5 a3
  obtain ⟨σ2, b1, b2⟩ := xD_put F he (dW_self d1) 0 (nI (nv B n i 5 0))
  simp only [Option.bind_some, if_true, a1', b1]
  exact ⟨σ2, rfl, dW_tr2 d1 b2⟩
theorem xD_waiting (F : Nat) {e : Nat} (he : eL e) {B : Nat → Nat} {n : Nat} {f : Int32} {σ : jS} (h : dW B n f e σ σ) (x : Int32) : ∃ σ', mX4_putWaiting F e x σ = some σ' ∧ dW B n f e σ σ' := by
  unfold mX4_putWaiting
  by_cases c : x = -1
  · rw [if_pos c]; exact ⟨σ, rfl, h⟩
  · obtain ⟨σ', a1, a2⟩ := xD_put F he h x 0
    rw [if_neg c, a1]
    exact ⟨σ', rfl, a2⟩
/-- the loop of a sum ends at once behind a fault -/
theorem xD_sumLoop (F : Nat) {e : Nat} (he : eL e) {B : Nat → Nat} {n : Nat} {f : Int32} {σ : jS} (h : dW B n f e σ σ) (g : Nat → Int32 → jS → Option jS) (N : Nat) (x2 x3 x5 : Int32) : ∃ σ', lp_X4_readSum_20 F e g (N + 1) x2 x3 (-1) x5 σ = some σ' ∧ dW B n f e σ σ' := by
  obtain ⟨σ', a1, a2⟩ := xD_waiting F he h x3
  rw [lp_X4_readSum_20, if_pos rfl, a1]
  simp only [Option.bind_some, ite_self]
  exact ⟨σ', rfl, a2⟩
def fcF (F d : Nat) : Nat → Int32 → jS → Option jS := fun e1 x2 σ => bX4_readFactor F e1 (rX4_readSum F d) x2 σ
theorem sum_eq (F d e : Nat) (x2 : Int32) (σ : jS) : rX4_readSum F (d + 1) e x2 σ = (Option.bind (fcF F d e x2 σ) fun q1 => (Option.bind (mX4_stepOf F 3 (5 : Int32) q1) fun q2 => (lp_X4_readSum_20 F e (fcF F d) F x2 (-1 : Int32) q2 (1 : Int32) q1))) := rfl
theorem xD_sum (F : Nat) (hF : 300 ≤ F) {e : Nat} (he : eL e) {B : Nat → Nat} {n : Nat} {f : Int32} (hf : f ≠ 0) {σ : jS} (h : dW B n f e σ σ) (d : Nat) (x2 : Int32) : ∃ σ', rX4_readSum F (d + 1) e x2 σ = some σ' ∧ dW B n f e σ σ' := by
  obtain ⟨σ1, a1, a2⟩ := xD_factor F hF he hf h (rX4_readSum F d) x2
  obtain ⟨N, hN⟩ : ∃ N, F = N + 1 := ⟨F - 1, by omega⟩
  obtain ⟨σ2, b1, b2⟩ := xD_sumLoop F he (dW_self a2) (fcF F d) N x2 (-1) 1
  rw [← hN] at b1
  have a1' : fcF F d e x2 σ = some σ1 := a1
  obtain ⟨i1, hi1⟩ := a2.1
  rw [sum_eq, a1']
  simp only [Option.bind_some]
  rw [xD_stepOf F hf hi1]
  simp only [Option.bind_some]
  rw [b1]
  exact ⟨σ2, rfl, dW_tr2 a2 b2⟩
theorem xD_test (F : Nat) (hF : 300 ≤ F) {e : Nat} (he : eL e) {B : Nat → Nat} {n : Nat} {f : Int32} (hf : f ≠ 0) {σ : jS} (h : dW B n f e σ σ) (d : Nat) (x2 : Int32) : ∃ σ', rX4_readTest F (d + 1) e x2 σ = some σ' ∧ dW B n f e σ σ' := by
  obtain ⟨⟨i, hi⟩, -, -⟩ := id h
  obtain ⟨σ1, a1, a2⟩ := xD_sum F hF he hf h 8 x2
  obtain ⟨i1, hi1⟩ := a2.1
  show ∃ σ', bX4_readTest F e _ _ x2 σ = some σ' ∧ _
  unfold bX4_readTest mX4_readSum
  rw [x_standD F hi hf, x_standD F hi hf, a1]
  simp only [Option.bind_some, if_true]
  rw [xD_stepOf F hf hi1, x_failD F hi1 hf]
  simp only [Option.bind_some, if_true]
  exact ⟨σ1, rfl, a2⟩
theorem xD_caseLoop (F : Nat) {e : Nat} (he : eL e) {B : Nat → Nat} {n : Nat} {f : Int32} (hf : f ≠ 0) {σ : jS} (h : dW B n f e σ σ) (g : Nat → Int32 → jS → Option jS) (N : Nat) (x2 x3 x4 x5 : Int32) : ∃ σ', lp_X4_readCase_14 F e g (fun x3_12 x4_12 σ12 => (Option.bind (mX3_aim F e x4_12 σ12) fun q13 => (Option.bind (mX3_aim F e x3_12 q13) fun q14 => some q14))) (N + 1) x2 x3 x4 x5 σ = some σ' ∧ dW B n f e σ σ' := by
  obtain ⟨⟨i, hi⟩, -, -⟩ := id h
  obtain ⟨σ1, a1, a2⟩ := xD_aim F he h x4
  obtain ⟨σ2, b1, b2⟩ := xD_aim F he (dW_self a2) x3
  rw [lp_X4_readCase_14, x_standD F hi hf, x_standD F hi hf]
  simp only [Option.bind_some, if_true, ite_self, a1, b1]
  exact ⟨σ2, rfl, dW_tr2 a2 b2⟩
theorem xD_case (F : Nat) (hF : 300 ≤ F) {e : Nat} (he : eL e) {B : Nat → Nat} {n : Nat} {f : Int32} (hf : f ≠ 0) {σ : jS} (h : dW B n f e σ σ) (d : Nat) (x2 : Int32) : ∃ σ', bX4_readCase F e (rX4_readTest F (d + 1)) x2 σ = some σ' ∧ dW B n f e σ σ' := by
  obtain ⟨σ1, a1, a2⟩ := xD_test F hF he hf h d x2
  obtain ⟨N, hN⟩ : ∃ N, F = N + 1 := ⟨F - 1, by omega⟩
  obtain ⟨σ2, b1, b2⟩ := xD_caseLoop F he hf (dW_self a2) (rX4_readTest F (d + 1)) N x2 (-1) (-1) 1
  rw [← hN] at b1
  unfold bX4_readCase
  rw [a1]
  simp only [Option.bind_some]
  rw [b1]
  exact ⟨σ2, rfl, dW_tr2 a2 b2⟩
