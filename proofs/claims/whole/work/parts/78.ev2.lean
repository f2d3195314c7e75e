/-! ===== a law's code goes the same way in both ===== -/
def evX (σ σ' : jS) : Prop := (∀ d, d ≠ 58 → d ≠ 59 → σ' d = σ d) ∧ ∀ k, k ≠ 8 → k ≠ 9 → σ' 58 k = σ 58 k
def evM (τ τ' : jS) : Prop := ∀ d, d ≠ 18 → τ' d = τ d
theorem evX_rf (σ : jS) : evX σ σ := ⟨fun _ _ _ => rfl, fun _ _ _ => rfl⟩
theorem evM_rf (τ : jS) : evM τ τ := fun _ _ => rfl
theorem evX_tr {a b c : jS} (h : evX a b) (g : evX b c) : evX a c := ⟨fun d h1 h2 => (g.1 d h1 h2).trans (h.1 d h1 h2), fun k h1 h2 => (g.2 k h1 h2).trans (h.2 k h1 h2)⟩
theorem evM_tr {a b c : jS} (h : evM a b) (g : evM b c) : evM a c := fun d h1 => (g d h1).trans (h d h1)
theorem evX_59 (σ : jS) (k : Nat) (v : Int32) : evX σ (js σ 59 k v) := ⟨fun d _ h => js_c _ _ _ h, fun k _ _ => by rw [js_c _ _ _ (show (58 : Nat) ≠ 59 by omega)]⟩
theorem evX_58 (σ : jS) {k : Nat} (v : Int32) (hk : k = 8 ∨ k = 9) : evX σ (js σ 58 k v) := ⟨fun d h _ => js_c _ _ _ h, fun j h1 h2 => js_k _ _ (by omega)⟩
theorem evM_18 (τ : jS) (k : Nat) (v : Int32) : evM τ (js τ 18 k v) := fun d h => js_c _ _ _ h
/-- the two stacks -/
def evR (d : Nat) (b : Bool) (σ τ : jS) (n : Nat) : Prop := (∀ j, j < d → σ 59 j = τ 18 j) ∧ (b = false → n = d) ∧ (b = true → n = d + 1 ∧ σ 58 8 = τ 18 d ∧ (τ 18 d = 0 ∨ τ 18 d = 1))
theorem evR_push {d : Nat} {σ τ : jS} {n : Nat} (h : evR d false σ τ n) (w : Int32) : evR (d + 1) false (js σ 59 d w) (js τ 18 d w) (d + 1) := by
  refine ⟨fun j hj => ?_, fun _ => rfl, fun h => absurd h (by decide)⟩
  by_cases e : j = d
  · subst e; rw [js_at, js_at]
  · rw [js_k _ _ e, js_k _ _ e]; exact h.1 j (by omega)
theorem evR_two {d : Nat} {σ τ : jS} (h : ∀ j, j < d + 2 → σ 59 j = τ 18 j) (w : Int32) : evR (d + 1) false (js σ 59 d w) (js τ 18 d w) (d + 1) := by
  refine ⟨fun j hj => ?_, fun _ => rfl, fun h => absurd h (by decide)⟩
  by_cases e : j = d
  · subst e; rw [js_at, js_at]
  · rw [js_k _ _ e, js_k _ _ e]; exact h j (by omega)
theorem evR_cmp {d : Nat} {σ τ : jS} (h : ∀ j, j < d + 2 → σ 59 j = τ 18 j) {w : Int32} (hw : w = 0 ∨ w = 1) : evR d true (js σ 58 8 w) (js τ 18 d w) (d + 1) := by
  refine ⟨fun j hj => ?_, fun h => absurd h (by decide), fun _ => ⟨rfl, by rw [js_at, js_at], by rw [js_at]; exact hw⟩⟩
  rw [js_c _ _ _ (show (59 : Nat) ≠ 58 by omega), js_k _ _ (show j ≠ d by omega)]
  exact h j (by omega)
theorem ev_loop {F e s t : Nat} {cd : Nat → Nat × Nat} {ty : Nat → Nat × Bool} {σ0 τ0 : jS} (he : e < 1000) (he1 : e + 1 ≠ 58) (he2 : e + 1 ≠ 59) (hk : kX e = 3) (ht : t ≤ 240)
    (hty : ∀ i, s ≤ i → i ≤ t → (ty i).1 < 32) (hst : ∀ i, s ≤ i → i < t → stepW (cd i).1 (cd i).2 i t ty)
    (hcd : ∀ i, s ≤ i → i < t → codeR cd (σ0 (e + 1) i) (τ0 13 i) i) (h3 : σ0 58 3 = nI e)
    (hL : ∀ a σ, a ≤ 8 → evX σ0 σ → mX2_letter F (nI a) σ = some (τ0 19 a)) :
    ∀ (k m i n : Nat) (σ τ : jS), t - i ≤ k → k < m → s ≤ i → i ≤ t → evX σ0 σ → evM τ0 τ → σ 58 9 = 0 → evR (ty i).1 (ty i).2 σ τ n →
    ∃ σ' τ' v, lp_X2_reckon_19 F m (nI t) (nI (ty i).1) (nI i) σ = some σ' ∧ lp_X12_reckonsTo_16 F m (nI t) (nI n) 0 (nI i) τ = some (v, τ') ∧ evX σ0 σ' ∧ evM τ0 τ' ∧ ((σ' 58 9 = 1 ∧ v = 0) ∨ (σ' 58 9 = 0 ∧ v = τ' 18 0 ∧ ∃ n', evR (ty t).1 (ty t).2 σ' τ' n')) := by
  intro k
  induction k with
  | zero =>
    intro m i n σ τ hk0 hm hsi hit hX hM h9 hR
    obtain ⟨m, rfl⟩ : ∃ j, m = j + 1 := ⟨m - 1, by omega⟩
    have e1 : i = t := by omega
    subst e1
    refine ⟨σ, τ, τ 18 0, ?_, ?_, hX, hM, Or.inr ⟨h9, rfl, n, hR⟩⟩
    · rw [lp_X2_reckon_19, if_neg (nI_nlt (Nat.le_refl _) (by omega))]
    · rw [lp_X12_reckonsTo_16, if_neg (nI_nlt (Nat.le_refl _) (by omega))]
  | succ k ih =>
    intro m i n σ τ hk0 hm hsi hit hX hM h9 hR
    obtain ⟨m, rfl⟩ : ∃ j, m = j + 1 := ⟨m - 1, by omega⟩
    by_cases c : i = t
    · subst c
      refine ⟨σ, τ, τ 18 0, ?_, ?_, hX, hM, Or.inr ⟨h9, rfl, n, hR⟩⟩
      · rw [lp_X2_reckon_19, if_neg (nI_nlt (Nat.le_refl _) (by omega))]
      · rw [lp_X12_reckonsTo_16, if_neg (nI_nlt (Nat.le_refl _) (by omega))]
    have hlt : i < t := by omega
    have hw := hst i hsi hlt
    obtain ⟨c1, c2, c3, c4⟩ := hcd i hsi hlt
    have d32 := hty i hsi hit
    have d33 := hty (i + 1) (by omega) (by omega)
    have hx : σ (e + 1) i = nI (16 * (cd i).2 + (cd i).1) := by rw [hX.1 (e + 1) he1 he2]; exact c3
    have hy : τ 13 i = nI (1048576 * opM (cd i).1 + (cd i).2) := by rw [hM 13 (by omega)]; exact c4
    have h3' : σ 58 3 = nI e := by rw [hX.2 3 (by omega) (by omega)]; exact h3
    generalize (cd i).1 = op at hw hx hy c1
    generalize (cd i).2 = a at hw hx hy c2
    rcases hw with ⟨w1, w2, w3, w4, w5⟩ | ⟨rfl, w3, w5⟩ | ⟨w1, w3, w5, w6, w7, w8⟩ | ⟨w1, w2, w3, w4, w5⟩ | ⟨w1, w2, w3, w4, w5⟩
    · -- a number, a letter
      rw [w3] at hR
      have en := hR.2.1 rfl
      have go : ∀ w : Int32, ∃ σ' τ' v, lp_X2_reckon_19 F m (nI t) (nI ((ty i).1 + 1)) (nI (i + 1)) (js σ 59 (ty i).1 w) = some σ' ∧ lp_X12_reckonsTo_16 F m (nI t) (nI (n + 1)) 0 (nI (i + 1)) (js τ 18 n w) = some (v, τ') ∧ evX σ0 σ' ∧ evM τ0 τ' ∧ ((σ' 58 9 = 1 ∧ v = 0) ∨ (σ' 58 9 = 0 ∧ v = τ' 18 0 ∧ ∃ n', evR (ty t).1 (ty t).2 σ' τ' n')) := by
        intro w
        have := ih m (i + 1) (n + 1) (js σ 59 (ty i).1 w) (js τ 18 n w) (by omega) (by omega) (by omega) (by omega) (evX_tr hX (evX_59 _ _ _)) (evM_tr hM (evM_18 _ _ _)) (by rw [js_c _ _ _ (show (58 : Nat) ≠ 59 by omega)]; exact h9) (by rw [w5, en]; exact evR_push hR w)
        rw [w5] at this
        exact this
      rcases (show op = 0 ∨ op = 1 by omega) with rfl | rfl
      · rw [x2_op0 hlt ht h9 h3' he hk c2 hx d32, m_op0 hlt ht c2 hy (show n < 260 by omega)]
        exact go _
      · rw [x2_op1 hlt ht h9 h3' he hk c2 hx d32 (hL a σ (w2 rfl) hX), m_op1 hlt ht c2 hy (show n < 260 by omega) (w2 rfl), hM 19 (by omega)]
        exact go _
    · -- not
      rw [w3] at hR
      obtain ⟨en, e8, e01⟩ := hR.2.2 rfl
      subst en
      rw [x2_op2 hlt ht h9 h3' he hk c2 hx, m_op2 hlt ht c2 hy (show (ty i).1 < 260 by omega)]
      have go : ∀ w : Int32, w = 0 ∨ w = 1 → ∃ σ' τ' v, lp_X2_reckon_19 F m (nI t) (nI (ty i).1) (nI (i + 1)) (js σ 58 8 w) = some σ' ∧ lp_X12_reckonsTo_16 F m (nI t) (nI ((ty i).1 + 1)) 0 (nI (i + 1)) (js τ 18 (ty i).1 w) = some (v, τ') ∧ evX σ0 σ' ∧ evM τ0 τ' ∧ ((σ' 58 9 = 1 ∧ v = 0) ∨ (σ' 58 9 = 0 ∧ v = τ' 18 0 ∧ ∃ n', evR (ty t).1 (ty t).2 σ' τ' n')) := by
        intro w hw
        have := ih m (i + 1) ((ty i).1 + 1) (js σ 58 8 w) (js τ 18 (ty i).1 w) (by omega) (by omega) (by omega) (by omega) (evX_tr hX (evX_58 _ _ (Or.inl rfl))) (evM_tr hM (evM_18 _ _ _)) (by rw [js_k _ _ (show (9 : Nat) ≠ 8 by omega)]; exact h9) (by
          rw [w5, w3]
          refine ⟨fun j hj => ?_, fun h => absurd h (by decide), fun _ => ⟨rfl, by rw [js_at, js_at], by rw [js_at]; exact hw⟩⟩
          rw [js_c _ _ _ (show (59 : Nat) ≠ 58 by omega), js_k _ _ (show j ≠ (ty i).1 by omega)]
          exact hR.1 j hj)
        rw [w5] at this
        exact this
      rw [e8]
      rcases e01 with e01 | e01
      · rw [e01, if_pos rfl]
        exact go 1 (Or.inr rfl)
      · rw [e01, if_neg (by decide)]
        exact go 0 (Or.inl rfl)
    · -- a jump
      rw [w3] at hR
      obtain ⟨en, e8, e01⟩ := hR.2.2 rfl
      subst en
      have jump : ∃ σ' τ' v, lp_X2_reckon_19 F m (nI t) (nI (ty i).1) (nI a) σ = some σ' ∧ lp_X12_reckonsTo_16 F m (nI t) (nI ((ty i).1 + 1)) 0 (nI a) τ = some (v, τ') ∧ evX σ0 σ' ∧ evM τ0 τ' ∧ ((σ' 58 9 = 1 ∧ v = 0) ∨ (σ' 58 9 = 0 ∧ v = τ' 18 0 ∧ ∃ n', evR (ty t).1 (ty t).2 σ' τ' n')) := by
        have := ih m a ((ty i).1 + 1) σ τ (by omega) (by omega) (by omega) (by omega) hX hM h9 (by rw [w8, w3]; exact hR)
        rw [w8] at this
        exact this
      have next : ∃ σ' τ' v, lp_X2_reckon_19 F m (nI t) (nI (ty i).1) (nI (i + 1)) σ = some σ' ∧ lp_X12_reckonsTo_16 F m (nI t) (nI (ty i).1) 0 (nI (i + 1)) τ = some (v, τ') ∧ evX σ0 σ' ∧ evM τ0 τ' ∧ ((σ' 58 9 = 1 ∧ v = 0) ∨ (σ' 58 9 = 0 ∧ v = τ' 18 0 ∧ ∃ n', evR (ty t).1 (ty t).2 σ' τ' n')) := by
        have := ih m (i + 1) (ty i).1 σ τ (by omega) (by omega) (by omega) (by omega) hX hM h9 (by
          rw [w5]
          exact ⟨hR.1, fun _ => rfl, fun h => absurd (show false = true from h) (by decide)⟩)
        rw [w5] at this
        exact this
      rcases w1 with rfl | rfl
      · rw [x2_op3 hlt ht h9 h3' he hk c2 hx w6, m_op3 hlt ht c2 hy (show (ty i).1 < 260 by omega), e8]
        rcases e01 with e01 | e01
        · rw [e01, if_neg (by decide), if_neg (by decide)]; exact next
        · rw [e01, if_pos rfl, if_pos rfl]; exact jump
      · rw [x2_op4 hlt ht h9 h3' he hk c2 hx w6, m_op4 hlt ht c2 hy (show (ty i).1 < 260 by omega), e8]
        rcases e01 with e01 | e01
        · rw [e01, if_pos rfl, if_pos rfl]; exact jump
        · rw [e01, if_neg (by decide), if_neg (by decide)]; exact next
    · -- a sum
      rw [w3] at hR
      have en := hR.2.1 rfl
      obtain ⟨d, ed⟩ : ∃ d, (ty i).1 = d + 2 := ⟨(ty i).1 - 2, by omega⟩
      rw [ed] at en hR d32 w5 ⊢
      subst en
      have r0 := hR.1 d (by omega)
      have r1 := hR.1 (d + 1) (by omega)
      have go : ∀ w : Int32, ∃ σ' τ' v, lp_X2_reckon_19 F m (nI t) (nI (d + 1)) (nI (i + 1)) (js σ 59 d w) = some σ' ∧ lp_X12_reckonsTo_16 F m (nI t) (nI (d + 1)) 0 (nI (i + 1)) (js τ 18 d w) = some (v, τ') ∧ evX σ0 σ' ∧ evM τ0 τ' ∧ ((σ' 58 9 = 1 ∧ v = 0) ∨ (σ' 58 9 = 0 ∧ v = τ' 18 0 ∧ ∃ n', evR (ty t).1 (ty t).2 σ' τ' n')) := by
        intro w
        have := ih m (i + 1) (d + 1) (js σ 59 d w) (js τ 18 d w) (by omega) (by omega) (by omega) (by omega) (evX_tr hX (evX_59 _ _ _)) (evM_tr hM (evM_18 _ _ _)) (by rw [js_c _ _ _ (show (58 : Nat) ≠ 59 by omega)]; exact h9) (by rw [w5]; exact evR_two hR.1 w)
        rw [w5] at this
        exact this
      have stop : ∃ σ' τ' v, lp_X2_reckon_19 F m (nI t) (nI (d + 1)) (nI (i + 1)) (js (js σ 58 9 1) 59 d 0) = some σ' ∧ some ((0 : Int32), τ) = some (v, τ') ∧ evX σ0 σ' ∧ evM τ0 τ' ∧ ((σ' 58 9 = 1 ∧ v = 0) ∨ (σ' 58 9 = 0 ∧ v = τ' 18 0 ∧ ∃ n', evR (ty t).1 (ty t).2 σ' τ' n')) := by
        have e9 : js (js σ 58 9 1) 59 d 0 58 9 = 1 := by rw [js_c _ _ _ (show (58 : Nat) ≠ 59 by omega), js_at]
        refine ⟨js (js σ 58 9 1) 59 d 0, τ, 0, ?_, rfl, evX_tr hX (evX_tr (evX_58 _ _ (Or.inr rfl)) (evX_59 _ _ _)), hM, Or.inl ⟨e9, rfl⟩⟩
        obtain ⟨m, rfl⟩ : ∃ j, m = j + 1 := ⟨m - 1, by omega⟩
        rw [lp_X2_reckon_19, if_neg (show ¬ js (js σ 58 9 1) 59 d 0 58 9 = 0 by rw [e9]; decide)]
        split
        · split <;> rfl
        · rfl
      rcases (show op = 5 ∨ op = 6 ∨ op = 7 ∨ op = 8 ∨ op = 9 by omega) with rfl | rfl | rfl | rfl | rfl
      · rw [x2_op5 hlt ht h9 h3' he hk c2 hx (by omega), m_op5 hlt ht c2 hy (by omega), r0, r1]; exact go _
      · rw [x2_op6 hlt ht h9 h3' he hk c2 hx (by omega), m_op6 hlt ht c2 hy (by omega), r0, r1]; exact go _
      · rw [x2_op7 hlt ht h9 h3' he hk c2 hx (by omega), m_op7 hlt ht c2 hy (by omega), r0, r1]; exact go _
      · rw [x2_op8 hlt ht h9 h3' he hk c2 hx (by omega), m_op8 hlt ht c2 hy (by omega), r0, r1]
        by_cases z : τ 18 (d + 1) = 0
        · rw [if_pos z, if_pos z]; exact stop
        · rw [if_neg z, if_neg z]; exact go _
      · rw [x2_op9 hlt ht h9 h3' he hk c2 hx (by omega), m_op9 hlt ht c2 hy (by omega), r0, r1]
        by_cases z : τ 18 (d + 1) = 0
        · rw [if_pos z, if_pos z]; exact stop
        · rw [if_neg z, if_neg z]; exact go _
    · -- two compared
      rw [w3] at hR
      have en := hR.2.1 rfl
      obtain ⟨d, ed⟩ : ∃ d, (ty i).1 = d + 2 := ⟨(ty i).1 - 2, by omega⟩
      rw [ed] at en hR d32 w5 ⊢
      subst en
      have r0 := hR.1 d (by omega)
      have r1 := hR.1 (d + 1) (by omega)
      have go : ∀ w : Int32, w = 0 ∨ w = 1 → ∃ σ' τ' v, lp_X2_reckon_19 F m (nI t) (nI d) (nI (i + 1)) (js σ 58 8 w) = some σ' ∧ lp_X12_reckonsTo_16 F m (nI t) (nI (d + 1)) 0 (nI (i + 1)) (js τ 18 d w) = some (v, τ') ∧ evX σ0 σ' ∧ evM τ0 τ' ∧ ((σ' 58 9 = 1 ∧ v = 0) ∨ (σ' 58 9 = 0 ∧ v = τ' 18 0 ∧ ∃ n', evR (ty t).1 (ty t).2 σ' τ' n')) := by
        intro w hw
        have := ih m (i + 1) (d + 1) (js σ 58 8 w) (js τ 18 d w) (by omega) (by omega) (by omega) (by omega) (evX_tr hX (evX_58 _ _ (Or.inl rfl))) (evM_tr hM (evM_18 _ _ _)) (by rw [js_k _ _ (show (9 : Nat) ≠ 8 by omega)]; exact h9) (by rw [w5]; exact evR_cmp hR.1 hw)
        rw [w5] at this
        exact this
      have b01 : ∀ (q : Prop) [Decidable q], (if q then (1 : Int32) else 0) = 0 ∨ (if q then (1 : Int32) else 0) = 1 := by
        intro q _
        by_cases z : q
        · rw [if_pos z]; exact Or.inr rfl
        · rw [if_neg z]; exact Or.inl rfl
      rcases (show op = 10 ∨ op = 11 ∨ op = 12 by omega) with rfl | rfl | rfl
      · rw [x2_op10 hlt ht h9 h3' he hk c2 hx (by omega), m_op10 hlt ht c2 hy (by omega), r0, r1]; exact go _ (b01 _)
      · rw [x2_op11 hlt ht h9 h3' he hk c2 hx (by omega), m_op11 hlt ht c2 hy (by omega), r0, r1]; exact go _ (b01 _)
      · rw [x2_op12 hlt ht h9 h3' he hk c2 hx (by omega), m_op12 hlt ht c2 hy (by omega), r0, r1]; exact go _ (b01 _)
