/-! ===== the law asked, in both ===== -/
def evC (F e : Nat) (σ τ : jS) : Prop := (e = 46 ∨ e = 52) ∧ σ 58 3 = nI e ∧ lawR e σ τ ∧ ∀ a σ', a ≤ 8 → evX σ σ' → mX2_letter F (nI a) σ' = some (τ 19 a)
theorem lawR_congr {e : Nat} {σ τ σ' τ' : jS} (h : lawR e σ τ) (h1 : ∀ j, j < 6 → σ' (e + j) = σ (e + j)) (h2 : ∀ c, 13 ≤ c → c < 18 → τ' c = τ c) (h3 : τ' 0 15 = τ 0 15) : lawR e σ' τ' := by
  unfold lawR at h ⊢
  have e0 := h1 0 (by omega)
  rw [Nat.add_zero] at e0
  rw [e0, h1 1 (by omega), h1 2 (by omega), h1 3 (by omega), h1 4 (by omega), h1 5 (by omega), h2 13 (by omega) (by omega), h2 14 (by omega) (by omega), h2 15 (by omega) (by omega), h2 16 (by omega) (by omega), h2 17 (by omega) (by omega), h3]
  exact h
theorem evC_tr {F e : Nat} {σ τ σ' τ' : jS} (h : evC F e σ τ) (hX : evX σ σ') (hM : evM τ τ') : evC F e σ' τ' := by
  obtain ⟨h1, h2, h3, h4⟩ := h
  refine ⟨h1, by rw [hX.2 3 (by omega) (by omega)]; exact h2, lawR_congr h3 (fun j hj => hX.1 _ (by omega) (by omega)) (fun c a b => hM c (by omega)) (by rw [hM 0 (by omega)]), fun a ρ ha hρ => ?_⟩
  rw [hM 19 (by omega)]
  exact h4 a ρ ha (evX_tr hX hρ)
theorem s_reckon {F e : Nat} (hF : 300 ≤ F) {σ τ : jS} (hC : evC F e σ τ) {cd : Nat → Nat × Nat} {s t : Nat} {z : Nat × Bool} (hseg : segW cd s t z) (ht : t ≤ 240) (hst : s ≤ t) (hcd : ∀ i, s ≤ i → i < t → codeR cd (σ (e + 1) i) (τ 13 i) i) :
    ∃ σ' τ' v, mX2_reckon F (nI s) (nI t) σ = some σ' ∧ mX12_reckonsTo F (nI s) (nI t) τ = some (v, τ') ∧ evX σ σ' ∧ evM τ τ' ∧ ((σ' 58 9 = 1 ∧ v = 0) ∨ (σ' 58 9 = 0 ∧ v = τ' 18 0 ∧ ∃ n', evR z.1 z.2 σ' τ' n')) := by
  obtain ⟨he, h3, -, hL⟩ := hC
  obtain ⟨ty, y1, y2, y3, y4⟩ := hseg
  have hk : kX e = 3 := by rcases he with rfl | rfl <;> rfl
  have hX0 : evX σ (js (js σ 58 8 0) 58 9 0) := evX_tr (evX_58 _ _ (Or.inl rfl)) (evX_58 _ _ (Or.inr rfl))
  have key := ev_loop (F := F) (e := e) (s := s) (t := t) (cd := cd) (ty := ty) (σ0 := σ) (τ0 := τ) (by omega) (by omega) (by omega) hk ht y3 y4 hcd h3 hL 241 F s 0 (js (js σ 58 8 0) 58 9 0) τ (by omega) (by omega) (Nat.le_refl _) hst hX0 (evM_rf _) (js_at _ _ _ _) (by rw [y1]; exact ⟨fun j hj => absurd hj (Nat.not_lt_zero _), fun _ => rfl, fun h => absurd (show false = true from h) (by decide)⟩)
  rw [y1, y2] at key
  unfold mX2_reckon mX12_reckonsTo
  simp only [ltE]
  rw [show imax (0 : Int32) (nI s) = nI s by
    show imax (nI 0) (nI s) = nI s
    rw [imax_nI (by omega) (by omega), Nat.max_eq_right (by omega)]]
  rw [show (260 : Int32) * (nI s / (260 : Int32)) = 0 by
    show nI 260 * (nI s / nI 260) = nI 0
    rw [pk_div (by omega) (by omega) (by omega), pk_mul, show s / 260 = 0 by omega]]
  exact key
theorem clampL {least most v : Int32} (h : ¬ most < least) : imax least (imin most v) = if v < least then least else if most < v then most else v := by
  unfold imax imin
  rw [fa_lt] at h
  by_cases c1 : v < least
  · rw [if_pos c1]
    rw [fa_lt] at c1
    rw [if_pos (show v < most by rw [fa_lt]; omega), if_neg (show ¬ least < v by rw [fa_lt]; omega)]
  · rw [if_neg c1]
    rw [fa_lt] at c1
    by_cases c2 : most < v
    · rw [if_pos c2]
      rw [fa_lt] at c2
      rw [if_neg (show ¬ v < most by rw [fa_lt]; omega)]
      by_cases c3 : least < most
      · rw [if_pos c3]
      · rw [if_neg c3]
        rw [fa_lt] at c3
        rw [fa_eq]; omega
    · rw [if_neg c2]
      rw [fa_lt] at c2
      by_cases c3 : v < most
      · rw [if_pos c3]
        by_cases c4 : least < v
        · rw [if_pos c4]
        · rw [if_neg c4]
          rw [fa_lt] at c4
          rw [fa_eq]; omega
      · rw [if_neg c3]
        rw [fa_lt] at c3
        have em : most = v := by rw [fa_eq]; omega
        subst em
        by_cases c4 : least < most
        · rw [if_pos c4]
        · rw [if_neg c4]
          rw [fa_lt] at c4
          rw [fa_eq]; omega
/-- one rule of the law asked whether it holds -/
theorem s_holds {F e : Nat} (hF : 300 ≤ F) {σ τ : jS} (hC : evC F e σ τ) {cd : Nat → Nat × Nat} {kd s h t : Nat} (hr : ruleW cd kd s h t) (hcd : ∀ i, i < t → codeR cd (σ (e + 1) i) (τ 13 i) i) : ∃ σ' τ' v, mX2_reckon F (nI h) (nI t) σ = some σ' ∧ mX12_reckonsTo F (nI h) (nI t) τ = some (v, τ') ∧ evX σ σ' ∧ evM τ τ' ∧ ((v = 1 ∧ ¬ σ' 58 8 = 0 ∧ σ' 58 9 = 0) ∨ (¬ v = 1 ∧ (σ' 58 8 = 0 ∨ ¬ σ' 58 9 = 0))) := by
  obtain ⟨r1, r2, r3, r4, r5, r6, r7⟩ := hr
  obtain ⟨σ', τ', v, a1, a2, a3, a4, a5⟩ := s_reckon hF hC r7 r4 r3 (fun i h1 h2 => hcd i h2)
  refine ⟨σ', τ', v, a1, a2, a3, a4, ?_⟩
  rcases a5 with ⟨b1, rfl⟩ | ⟨b1, b2, n', b3⟩
  · exact Or.inr ⟨by decide, Or.inr (by rw [b1]; decide)⟩
  · obtain ⟨-, c2, c3⟩ := b3.2.2 rfl
    have c2 : σ' 58 8 = τ' 18 0 := c2
    have c3 : τ' 18 0 = 0 ∨ τ' 18 0 = 1 := c3
    rw [c2, b2]
    rcases c3 with c3 | c3
    · exact Or.inr ⟨by rw [c3]; decide, Or.inl c3⟩
    · exact Or.inl ⟨c3, by rw [c3]; decide, b1⟩
/-- the worth of a rule that holds -/
theorem s_value {F e : Nat} (hF : 300 ≤ F) {σ τ : jS} (hC : evC F e σ τ) {cd : Nat → Nat × Nat} {kd s h t : Nat} (hr : ruleW cd kd s h t) (hkd : kd ≠ 120) (hcd : ∀ i, i < t → codeR cd (σ (e + 1) i) (τ 13 i) i) : ∃ σ' τ' v, mX2_reckon F (nI s) (nI h) σ = some σ' ∧ mX12_reckonsTo F (nI s) (nI h) τ = some (v, τ') ∧ evX σ σ' ∧ evM τ τ' ∧ ((σ' 58 9 = 1 ∧ v = 0) ∨ (σ' 58 9 = 0 ∧ σ' 59 0 = v)) := by
  obtain ⟨r1, r2, r3, r4, r5, r6, r7⟩ := hr
  obtain ⟨σ', τ', v, a1, a2, a3, a4, a5⟩ := s_reckon hF hC (r5 hkd) (by omega) r2 (fun i h1 h2 => hcd i (by omega))
  refine ⟨σ', τ', v, a1, a2, a3, a4, ?_⟩
  rcases a5 with b | ⟨b1, b2, n', b3⟩
  · exact Or.inl b
  · exact Or.inr ⟨b1, by rw [b2]; exact b3.1 0 (by decide)⟩
theorem codeR_tr {e : Nat} {σ τ σ' τ' : jS} {cd : Nat → Nat × Nat} {t : Nat} (he : e = 46 ∨ e = 52) (hX : evX σ σ') (hM : evM τ τ') (h : ∀ i, i < t → codeR cd (σ (e + 1) i) (τ 13 i) i) : ∀ i, i < t → codeR cd (σ' (e + 1) i) (τ' 13 i) i := by
  intro i hi
  rw [hX.1 (e + 1) (by omega) (by omega), hM 13 (by omega)]
  exact h i hi
def wKX (F : Nat) : Int32 → Int32 → Int32 → jS → Option (Int32 × jS) := fun x3_9 x4_9 x5_9 σ9 => (lt (σ9 58 3).toNatClampNeg fun e10 => if kX e10 = 3 then (if jin x5_9 16 = true then (lt (σ9 58 3).toNatClampNeg fun e12 => if kX e12 = 3 then (if jin x5_9 16 = true then (Option.bind (mX2_reckon F ((σ9 (e10 + 3) x5_9.toNatClampNeg)) ((σ9 (e12 + 4) x5_9.toNatClampNeg)) σ9) fun q14 => (if (q14 58 9) = 0 then (lt (q14 59 0) fun y15 => some ((imax x3_9 (imin x4_9 y15)), q14)) else some ((imax x3_9 (imin x4_9 (0 : Int32))), q14))) else none) else none) else none) else none)
def wKM (F : Nat) : Int32 → Int32 → Int32 → jS → Option (Int32 × jS) := fun x2_5 x3_5 x5_5 σ5 => (if jin x5_5 16 = true then (if jin x5_5 16 = true then (Option.bind (mX12_reckonsTo F ((σ5 15 x5_5.toNatClampNeg)) ((σ5 16 x5_5.toNatClampNeg)) σ5) fun q8 => (if q8.1 < x2_5 then some (x2_5, q8.2) else (if x3_5 < q8.1 then some (x3_5, q8.2) else some (q8.1, q8.2)))) else none) else none)
theorem worthE (F : Nat) (a b c d : Int32) (σ : jS) : mX2_worth F a b c d σ = lp_X2_worth_3 F (wKX F) F a b c d 0 σ := rfl
theorem byLawE (F : Nat) (a b c d : Int32) (σ : jS) : mX12_byLaw F a b c d σ = lp_X12_byLaw_3 F (wKM F) F a b c d 0 σ := rfl
/-- what a law says of a p or an i -/
theorem s_worth {F e : Nat} (hF : 300 ≤ F) {σ τ : jS} (hC : evC F e σ τ) {kd : Nat} (hkd : kd = 112 ∨ kd = 105) (usual least most : Int32) (hlm : ¬ most < least) : ∃ r σ' τ', mX2_worth F (nI kd) usual least most σ = some (r, σ') ∧ mX12_byLaw F (nI kd) least most usual τ = some (r, τ') ∧ evX σ σ' ∧ evM τ τ' ∧ (r = usual ∨ (¬ r < least ∧ ¬ most < r)) := by
  obtain ⟨he, h3, hlaw, -⟩ := id hC
  obtain ⟨cd, n, hn, l1, l2, l3, l4⟩ := hlaw
  have hk : kX e = 3 := by rcases he with rfl | rfl <;> rfl
  rw [worthE, byLawE]
  refine loop_q (fun m y (a : jS) => lp_X2_worth_3 F (wKX F) m (nI kd) usual least most y a) (fun m y (b : jS) => lp_X12_byLaw_3 F (wKM F) m (nI kd) least most usual y b) n (fun i a b => evX σ a ∧ evM τ b) (fun r s => ∃ z σ' τ', r = some (z, σ') ∧ s = some (z, τ') ∧ evX σ σ' ∧ evM τ τ' ∧ (z = usual ∨ (¬ z < least ∧ ¬ most < z))) ?_ ?_ F 0 σ τ (by omega) (by omega) ⟨evX_rf _, evM_rf _⟩
  · intro m i a b hi hP
    obtain ⟨hX, hM⟩ := hP
    have hC2 := evC_tr hC hX hM
    obtain ⟨k, s, h, t, hr, g1, g2, g3, g4, g5, g6, g7, g8⟩ := l4 i hi
    have f3 : a 58 3 = nI e := hC2.2.1
    have x : ∀ j, j < 6 → a (e + j) = σ (e + j) := fun j hj => hX.1 _ (by omega) (by omega)
    have e0 : a e = σ e := hX.1 _ (by omega) (by omega)
    have hcd : ∀ i', i' < t → codeR cd (σ (e + 1) i') (τ 13 i') i' := fun i' hi' => l3 i' (by obtain ⟨_, _, _, r4, _⟩ := hr; omega) ⟨i, hi, by rw [g7]; exact nI_lt hi' (by obtain ⟨_, _, _, r4, _⟩ := hr; omega)⟩
    have hcd2 := codeR_tr he hX hM hcd
    have i16 : i < 16 := by omega
    have skip : (∃ (z : Int32) (σ' τ' : jS), lp_X2_worth_3 F (wKX F) (m + 1) (nI kd) usual least most (nI i) a = some (z, σ') ∧ lp_X12_byLaw_3 F (wKM F) (m + 1) (nI kd) least most usual (nI i) b = some (z, τ') ∧ evX σ σ' ∧ evM τ τ' ∧ (z = usual ∨ (¬ z < least ∧ ¬ most < z))) ∨ ∃ a' b', (evX σ a' ∧ evM τ b') ∧ lp_X2_worth_3 F (wKX F) (m + 1) (nI kd) usual least most (nI i) a = lp_X2_worth_3 F (wKX F) m (nI kd) usual least most (nI (i + 1)) a' ∧ lp_X12_byLaw_3 F (wKM F) (m + 1) (nI kd) least most usual (nI i) b = lp_X12_byLaw_3 F (wKM F) m (nI kd) least most usual (nI (i + 1)) b' := by
      rw [lp_X2_worth_3, lp_X12_byLaw_3]
      have q2 : a (e + 2) i = nI k := by rw [x 2 (by omega)]; exact g1
      have q3 : a (e + 3) i = nI s := by rw [x 3 (by omega)]; exact g3
      have q4 : a (e + 4) i = nI h := by rw [x 4 (by omega)]; exact g5
      have q5 : a (e + 5) i = nI t := by rw [x 5 (by omega)]; exact g7
      have q6 : a e 6 = nI n := by rw [e0]; exact l1
      have p14 : b 14 i = nI k := by rw [hM 14 (by omega)]; exact g2
      have p15 : b 15 i = nI s := by rw [hM 15 (by omega)]; exact g4
      have p16 : b 16 i = nI h := by rw [hM 16 (by omega)]; exact g6
      have p17 : b 17 i = nI t := by rw [hM 17 (by omega)]; exact g8
      have p0 : b 0 15 = nI n := by rw [hM 0 (by omega)]; exact l2
      have cin : nI i < nI n := nI_lt hi (by omega)
      simp only [ltE, f3, nI_clamp (show e < 2 ^ 31 by omega), hk, if_true, q6, p0, if_pos cin, if_pos (lt16 i16), jin_nI i16 (show 16 < 2 ^ 31 by omega), nI_clamp (show i < 2 ^ 31 by omega), q2, q4, q5, p14, p16, p17, nI1]
      by_cases ck : nI k = nI kd
      · rw [if_pos ck, if_pos ck]
        have hk120 : k ≠ 120 := by
          have r1 := hr.1
          have := nI_inj (by omega) (by omega) ck
          omega
        obtain ⟨σ1, τ1, v, b1, b2, b3, b4, b5⟩ := s_holds hF hC2 hr hcd2
        rw [b1, b2]
        simp only [Option.bind_some]
        rcases b5 with ⟨c1, c2, c3⟩ | ⟨c1, c2⟩
        · left
          rw [if_neg c2, if_pos c3, if_pos c1]
          unfold wKX wKM
          have hX1 := evX_tr hX b3
          have hM1 := evM_tr hM b4
          obtain ⟨σ2, τ2, w, d1, d2, d3, d4, d5⟩ := s_value hF (evC_tr hC hX1 hM1) hr hk120 (codeR_tr he hX1 hM1 hcd)
          have u3 : σ1 (e + 3) i = nI s := by rw [hX1.1 _ (by omega) (by omega)]; exact g3
          have u4 : σ1 (e + 4) i = nI h := by rw [hX1.1 _ (by omega) (by omega)]; exact g5
          have v3 : τ1 15 i = nI s := by rw [hM1 15 (by omega)]; exact g4
          have v4 : τ1 16 i = nI h := by rw [hM1 16 (by omega)]; exact g6
          have f31 : σ1 58 3 = nI e := by rw [hX1.2 3 (by omega) (by omega)]; exact h3
          simp only [ltE, f31, nI_clamp (show e < 2 ^ 31 by omega), hk, if_true, jin_nI i16 (show 16 < 2 ^ 31 by omega), nI_clamp (show i < 2 ^ 31 by omega), u3, u4, v3, v4, d1, d2, Option.bind_some]
          rw [show (if w < least then some (least, τ2) else if most < w then some (most, τ2) else some (w, τ2)) = some (imax least (imin most w), τ2) by
            rw [clampL hlm]
            split
            · rfl
            · split <;> rfl]
          have rng : ¬ imax least (imin most w) < least ∧ ¬ most < imax least (imin most w) := by
            rw [clampL hlm]
            split
            · exact ⟨by rw [fa_lt]; omega, hlm⟩
            · split
              · exact ⟨hlm, by rw [fa_lt]; omega⟩
              · exact ⟨by assumption, by assumption⟩
          rcases d5 with ⟨z1, rfl⟩ | ⟨z1, z2⟩
          · rw [if_neg (show ¬ σ2 58 9 = 0 by rw [z1]; decide)]
            exact ⟨_, σ2, τ2, rfl, rfl, evX_tr hX1 d3, evM_tr hM1 d4, Or.inr rng⟩
          · rw [if_pos z1, z2]
            exact ⟨_, σ2, τ2, rfl, rfl, evX_tr hX1 d3, evM_tr hM1 d4, Or.inr rng⟩
        · right
          rw [if_neg c1]
          refine ⟨σ1, τ1, ⟨evX_tr hX b3, evM_tr hM b4⟩, ?_, rfl⟩
          by_cases c8 : σ1 58 8 = 0
          · rw [if_pos c8]
          · rw [if_neg c8]
            rcases c2 with c2 | c2
            · exact absurd c2 c8
            · rw [if_neg c2]
      · right
        rw [if_neg ck, if_neg ck]
        exact ⟨a, b, ⟨hX, hM⟩, rfl, rfl⟩
    exact skip
  · intro m a b hP
    obtain ⟨hX, hM⟩ := hP
    have f3 : a 58 3 = nI e := (evC_tr hC hX hM).2.1
    have q6 : a e 6 = nI n := by rw [hX.1 _ (by omega) (by omega)]; exact l1
    have p0 : b 0 15 = nI n := by rw [hM 0 (by omega)]; exact l2
    show ∃ z σ' τ', lp_X2_worth_3 F (wKX F) (m + 1) (nI kd) usual least most (nI n) a = some (z, σ') ∧ lp_X12_byLaw_3 F (wKM F) (m + 1) (nI kd) least most usual (nI n) b = some (z, τ') ∧ _
    rw [lp_X2_worth_3, lp_X12_byLaw_3]
    simp only [ltE, f3, nI_clamp (show e < 2 ^ 31 by omega), hk, if_true, q6, p0, if_neg (show ¬ nI n < nI n from nI_nlt (Nat.le_refl n) (by omega))]
    exact ⟨usual, a, b, rfl, rfl, hX, hM, Or.inl rfl⟩
/-- whether an x holds -/
theorem s_dies0 {F e : Nat} (hF : 300 ≤ F) {σ τ : jS} (hC : evC F e σ τ) : ∃ r σ' τ', mX2_worth F (120 : Int32) 0 1 1 σ = some (r, σ') ∧ mX12_holdsAny F (120 : Int32) τ = some (r, τ') ∧ evX σ σ' ∧ evM τ τ' ∧ (r = 0 ∨ r = 1) := by
  obtain ⟨he, h3, hlaw, -⟩ := id hC
  obtain ⟨cd, n, hn, l1, l2, l3, l4⟩ := hlaw
  have hk : kX e = 3 := by rcases he with rfl | rfl <;> rfl
  rw [worthE]
  unfold mX12_holdsAny
  refine loop_q (fun m y (a : jS) => lp_X2_worth_3 F (wKX F) m (120 : Int32) 0 1 1 y a) (fun m y (b : jS) => lp_X12_holdsAny_2 F m (120 : Int32) y b) n (fun i a b => evX σ a ∧ evM τ b) (fun r s => ∃ z σ' τ', r = some (z, σ') ∧ s = some (z, τ') ∧ evX σ σ' ∧ evM τ τ' ∧ (z = 0 ∨ z = 1)) ?_ ?_ F 0 σ τ (by omega) (by omega) ⟨evX_rf _, evM_rf _⟩
  · intro m i a b hi hP
    obtain ⟨hX, hM⟩ := hP
    have hC2 := evC_tr hC hX hM
    obtain ⟨k, s, h, t, hr, g1, g2, g3, g4, g5, g6, g7, g8⟩ := l4 i hi
    have f3 : a 58 3 = nI e := hC2.2.1
    have x : ∀ j, j < 6 → a (e + j) = σ (e + j) := fun j hj => hX.1 _ (by omega) (by omega)
    have e0 : a e = σ e := hX.1 _ (by omega) (by omega)
    have hcd : ∀ i', i' < t → codeR cd (σ (e + 1) i') (τ 13 i') i' := fun i' hi' => l3 i' (by obtain ⟨_, _, _, r4, _⟩ := hr; omega) ⟨i, hi, by rw [g7]; exact nI_lt hi' (by obtain ⟨_, _, _, r4, _⟩ := hr; omega)⟩
    have hcd2 := codeR_tr he hX hM hcd
    have i16 : i < 16 := by omega
    have skip : (∃ (z : Int32) (σ' τ' : jS), lp_X2_worth_3 F (wKX F) (m + 1) (120 : Int32) 0 1 1 (nI i) a = some (z, σ') ∧ lp_X12_holdsAny_2 F (m + 1) (120 : Int32) (nI i) b = some (z, τ') ∧ evX σ σ' ∧ evM τ τ' ∧ (z = 0 ∨ z = 1)) ∨ ∃ a' b', (evX σ a' ∧ evM τ b') ∧ lp_X2_worth_3 F (wKX F) (m + 1) (120 : Int32) 0 1 1 (nI i) a = lp_X2_worth_3 F (wKX F) m (120 : Int32) 0 1 1 (nI (i + 1)) a' ∧ lp_X12_holdsAny_2 F (m + 1) (120 : Int32) (nI i) b = lp_X12_holdsAny_2 F m (120 : Int32) (nI (i + 1)) b' := by
      rw [lp_X2_worth_3, lp_X12_holdsAny_2]
      have q2 : a (e + 2) i = nI k := by rw [x 2 (by omega)]; exact g1
      have q4 : a (e + 4) i = nI h := by rw [x 4 (by omega)]; exact g5
      have q5 : a (e + 5) i = nI t := by rw [x 5 (by omega)]; exact g7
      have q6 : a e 6 = nI n := by rw [e0]; exact l1
      have p14 : b 14 i = nI k := by rw [hM 14 (by omega)]; exact g2
      have p16 : b 16 i = nI h := by rw [hM 16 (by omega)]; exact g6
      have p17 : b 17 i = nI t := by rw [hM 17 (by omega)]; exact g8
      have p0 : b 0 15 = nI n := by rw [hM 0 (by omega)]; exact l2
      have cin : nI i < nI n := nI_lt hi (by omega)
      simp only [ltE, f3, nI_clamp (show e < 2 ^ 31 by omega), hk, if_true, q6, p0, if_pos cin, if_pos (lt16 i16), jin_nI i16 (show 16 < 2 ^ 31 by omega), nI_clamp (show i < 2 ^ 31 by omega), q2, q4, q5, p14, p16, p17, nI1]
      by_cases ck : nI k = (120 : Int32)
      · rw [if_pos ck, if_pos ck]
        have hk120 : k = 120 := by
          have r1 := hr.1
          exact nI_inj (a := k) (b := 120) (by omega) (by omega) ck
        obtain ⟨σ1, τ1, v, b1, b2, b3, b4, b5⟩ := s_holds hF hC2 hr hcd2
        rw [b1, b2]
        simp only [Option.bind_some]
        rcases b5 with ⟨c1, c2, c3⟩ | ⟨c1, c2⟩
        · left
          rw [if_neg c2, if_pos c3, if_pos c1]
          unfold wKX
          have hX1 := evX_tr hX b3
          have hM1 := evM_tr hM b4
          have u3 : σ1 (e + 3) i = nI s := by rw [hX1.1 _ (by omega) (by omega)]; exact g3
          have u4 : σ1 (e + 4) i = nI h := by rw [hX1.1 _ (by omega) (by omega)]; exact g5
          have f31 : σ1 58 3 = nI e := by rw [hX1.2 3 (by omega) (by omega)]; exact h3
          have esh : s = h := hr.2.2.2.2.2.1 hk120
          subst esh
          have h240 : s ≤ 240 := by obtain ⟨_, r2, r3, r4, _⟩ := hr; omega
          simp only [ltE, f31, nI_clamp (show e < 2 ^ 31 by omega), hk, if_true, jin_nI i16 (show 16 < 2 ^ 31 by omega), nI_clamp (show i < 2 ^ 31 by omega), u3, u4]
          have er : mX2_reckon F (nI s) (nI s) σ1 = some (js (js σ1 58 8 0) 58 9 0) := by
            unfold mX2_reckon
            simp only [ltE]
            rw [show imax (0 : Int32) (nI s) = nI s by
              show imax (nI 0) (nI s) = nI s
              rw [imax_nI (by omega) (by omega), Nat.max_eq_right (by omega)]]
            obtain ⟨G, rfl⟩ : ∃ G, F = G + 1 := ⟨F - 1, by omega⟩
            rw [lp_X2_reckon_19, if_neg (nI_nlt (Nat.le_refl _) (by omega))]
          rw [er]
          simp only [Option.bind_some, js_at, if_true]
          have e11 : ∀ y : Int32, imax 1 (imin 1 y) = 1 := by
            intro y
            rw [clampL (by decide)]
            split
            · rfl
            · split
              · rfl
              · rename_i z1 z2
                rw [fa_lt] at z1 z2
                have w1 : (1 : Int32).toInt = 1 := rfl
                rw [fa_eq]; omega
          exact ⟨1, _, τ1, by rw [e11], rfl, evX_tr hX1 (evX_tr (evX_58 _ _ (Or.inl rfl)) (evX_58 _ _ (Or.inr rfl))), hM1, Or.inr rfl⟩
        · right
          rw [if_neg c1]
          refine ⟨σ1, τ1, ⟨evX_tr hX b3, evM_tr hM b4⟩, ?_, rfl⟩
          by_cases c8 : σ1 58 8 = 0
          · rw [if_pos c8]
          · rw [if_neg c8]
            rcases c2 with c2 | c2
            · exact absurd c2 c8
            · rw [if_neg c2]
      · right
        rw [if_neg ck, if_neg ck]
        exact ⟨a, b, ⟨hX, hM⟩, rfl, rfl⟩
    exact skip
  · intro m a b hP
    obtain ⟨hX, hM⟩ := hP
    have f3 : a 58 3 = nI e := (evC_tr hC hX hM).2.1
    have q6 : a e 6 = nI n := by rw [hX.1 _ (by omega) (by omega)]; exact l1
    have p0 : b 0 15 = nI n := by rw [hM 0 (by omega)]; exact l2
    show ∃ z σ' τ', lp_X2_worth_3 F (wKX F) (m + 1) (120 : Int32) 0 1 1 (nI n) a = some (z, σ') ∧ lp_X12_holdsAny_2 F (m + 1) (120 : Int32) (nI n) b = some (z, τ') ∧ _
    rw [lp_X2_worth_3, lp_X12_holdsAny_2]
    simp only [ltE, f3, nI_clamp (show e < 2 ^ 31 by omega), hk, if_true, q6, p0, if_neg (show ¬ nI n < nI n from nI_nlt (Nat.le_refl n) (by omega))]
    exact ⟨0, a, b, rfl, rfl, hX, hM, Or.inl rfl⟩
