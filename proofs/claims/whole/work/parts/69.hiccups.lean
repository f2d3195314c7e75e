theorem bt_shr1 (x : Int32) (p : Nat) (hp : p < 32) : (x >>> (nI p &&& 31)) &&& 1 = if bt x p = true then 1 else 0 := by
  have e1 : ∀ i, i < 32 → bt ((x >>> (nI p &&& 31)) &&& 1) i = (decide (i = 0) && bt x p) := by
    intro i hi
    rw [b_and, b_sshr p hp x hi]
    by_cases h0 : i = 0
    · subst h0
      simp [hp]
      intro _
      decide
    · have h1 : bt 1 i = false := (by decide +kernel : ∀ j, j < 32 → 0 < j → bt 1 j = false) i hi (by omega)
      simp [h0, h1]
  apply b_ext
  intro i hi
  rw [e1 i hi]
  by_cases h : bt x p = true
  · rw [if_pos h, h]
    by_cases h0 : i = 0
    · subst h0; decide
    · rw [(by decide +kernel : ∀ j, j < 32 → 0 < j → bt 1 j = false) i hi (by omega)]
      simp [h0]
  · rw [if_neg h, b_0]
    simp [h]
theorem m_has (F : Nat) (τ : jS) (x : Int32) {p : Nat} (hp : p < 32) : mX12_has F x (nI p) τ = some (if bt x p = true then 1 else 0) := by
  unfold mX12_has
  rw [bt_shr1 x p hp]
  by_cases h : bt x p = true
  · rw [if_pos h, if_pos rfl]
  · rw [if_neg h, if_neg (by decide)]
/-- who has the hiccups behind an hour -/
def hcS (τ : jS) (s : Int32) (h q : Nat) : Prop := bt s q = true ∨ (q < 16 ∧ τ 1 (48 + q) = 1 ∧ ∃ p, p < 16 ∧ bt s p = true ∧ dg τ p h = dg τ q h)
theorem x8_joined {F : Nat} (hF : 17 ≤ F) {σ τ : jS} (hW : cityW (τ 1)) (hR : cityR 3 σ (τ 1)) (hT : routR σ τ) (s : Int32) {h : Nat} (hh : h < 24) : ∃ r, mX8_joined F s (σ 3 4) (nI h) σ = some r ∧ ∀ q, q < 32 → (bt r q = true ↔ hcS τ s h q) := by
  unfold mX8_joined
  refine loop_p (fun n y a => lp_X8_joined_6 F σ (fun x1_3 x2_3 x3_3 x4_3 => (lp_X8_joined_48 F σ F x2_3 x3_3 x4_3 x1_3 (0 : Int32))) n s (σ 3 4) (nI h) a y) 16 (fun i a => ∀ d, d < 32 → (bt a d = true ↔ ∃ p, p < i ∧ bt s p = true ∧ dg τ p h = nI d)) (fun o => ∃ r, o = some r ∧ ∀ q, q < 32 → (bt r q = true ↔ hcS τ s h q)) ?_ ?_ F 0 0 (by omega) (by omega) ?_
  · intro n i a hi hP
    right
    show ∃ a', _ ∧ lp_X8_joined_6 F σ _ (n + 1) s (σ 3 4) (nI h) a (nI i) = lp_X8_joined_6 F σ _ n s (σ 3 4) (nI h) a' (nI (i + 1))
    rw [lp_X8_joined_6, if_pos (lt16 hi), x8_doing hT hi hh, bt_shr1 s i (by omega)]
    obtain ⟨e, he, ee⟩ := dg_n hT hi hh
    by_cases c : bt s i = true
    · rw [if_pos c, if_neg (show ¬ (1 : Int32) = 0 by decide)]
      simp only [Option.bind_some, lt, nI1, ee]
      refine ⟨_, fun d hd => ?_, rfl⟩
      rw [b_or, bt_one e d (by omega), Bool.or_eq_true, hP d hd, decide_eq_true_eq]
      constructor
      · rintro (⟨p, h1, h2, h3⟩ | h1)
        · exact ⟨p, by omega, h2, h3⟩
        · exact ⟨i, by omega, c, by rw [h1]; exact ee⟩
      · rintro ⟨p, h1, h2, h3⟩
        by_cases e1 : p = i
        · subst e1
          right
          rw [ee] at h3
          have := congrArg Int32.toInt h3
          rw [nI_toInt (by omega), nI_toInt (by omega)] at this
          omega
        · exact Or.inl ⟨p, by omega, h2, h3⟩
    · rw [if_neg c, if_pos rfl, nI1]
      refine ⟨_, fun d hd => ?_, rfl⟩
      rw [hP d hd]
      constructor
      · rintro ⟨p, h1, h2, h3⟩
        exact ⟨p, by omega, h2, h3⟩
      · rintro ⟨p, h1, h2, h3⟩
        by_cases e1 : p = i
        · subst e1; exact absurd h2 c
        · exact ⟨p, by omega, h2, h3⟩
  · intro n w hw
    show ∃ r, lp_X8_joined_6 F σ _ (n + 1) s (σ 3 4) (nI h) w (nI 16) = some r ∧ _
    rw [lp_X8_joined_6, if_neg nlt16]
    refine loop_p (fun n y a => lp_X8_joined_48 F σ n (σ 3 4) (nI h) w a y) 16 (fun i a => ∀ q, q < 32 → (bt a q = true ↔ bt s q = true ∨ (q < i ∧ τ 1 (48 + q) = 1 ∧ ∃ p, p < 16 ∧ bt s p = true ∧ dg τ p h = dg τ q h))) (fun o => ∃ r, o = some r ∧ ∀ q, q < 32 → (bt r q = true ↔ hcS τ s h q)) ?_ ?_ F 0 s (by omega) (by omega) (fun q hq => by simp)
    · intro n i a hi hP
      right
      show ∃ a', _ ∧ lp_X8_joined_48 F σ (n + 1) (σ 3 4) (nI h) w a (nI i) = lp_X8_joined_48 F σ n (σ 3 4) (nI h) w a' (nI (i + 1))
      obtain ⟨e, he, ee⟩ := dg_n hT hi hh
      rw [lp_X8_joined_48, if_pos (lt16 hi), x8_doing hT hi hh, ee]
      simp only [Option.bind_some, bt_shr1 w e (by omega), nI1, lt]
      have hw2 := hw e (by omega)
      have skip : ¬ (τ 1 (48 + i) = 1 ∧ ∃ p, p < 16 ∧ bt s p = true ∧ dg τ p h = dg τ i h) → ∀ q, q < 32 → (bt a q = true ↔ bt s q = true ∨ (q < i + 1 ∧ τ 1 (48 + q) = 1 ∧ ∃ p, p < 16 ∧ bt s p = true ∧ dg τ p h = dg τ q h)) := by
        intro hn q hq
        rw [hP q hq]
        constructor
        · rintro (h1 | ⟨h1, h2⟩)
          · exact Or.inl h1
          · exact Or.inr ⟨by omega, h2⟩
        · rintro (h1 | ⟨h1, h2⟩)
          · exact Or.inl h1
          · by_cases e1 : q = i
            · subst e1; exact absurd h2 hn
            · exact Or.inr ⟨by omega, h2⟩
      rcases rk01 (hW.1 (48 + i) (by omega)) (Or.inr ⟨by omega, by omega⟩) with l | l
      · rw [if_pos ((bitsR_z hR.2.1 hi).mpr l)]
        exact ⟨_, skip (fun z => by rw [l] at z; exact absurd z.1 (by decide)), rfl⟩
      · rw [if_neg (fun z => by have := (bitsR_z hR.2.1 hi).mp z; rw [show τ 1 (48 + i) = 1 from l] at this; exact absurd this (by decide))]
        by_cases c : bt w e = true
        · rw [if_pos c, if_neg (show ¬ (1 : Int32) = 0 by decide)]
          refine ⟨_, fun q hq => ?_, rfl⟩
          obtain ⟨p, h1, h2, h3⟩ := hw2.mp c
          rw [b_or, bt_one i q (by omega), Bool.or_eq_true, hP q hq, decide_eq_true_eq]
          constructor
          · rintro ((h4 | ⟨h4, h5⟩) | h4)
            · exact Or.inl h4
            · exact Or.inr ⟨by omega, h5⟩
            · subst h4
              exact Or.inr ⟨by omega, l, p, h1, h2, by rw [h3, ee]⟩
          · rintro (h4 | ⟨h4, h5⟩)
            · exact Or.inl (Or.inl h4)
            · by_cases e1 : q = i
              · exact Or.inr e1
              · exact Or.inl (Or.inr ⟨by omega, h5⟩)
        · rw [if_neg c, if_pos rfl]
          refine ⟨_, skip ?_, rfl⟩
          rintro ⟨-, p, h1, h2, h3⟩
          exact c (hw2.mpr ⟨p, h1, h2, by rw [h3, ee]⟩)
    · intro n a hP
      show ∃ r, lp_X8_joined_48 F σ (n + 1) (σ 3 4) (nI h) w a (nI 16) = some r ∧ _
      rw [lp_X8_joined_48, if_neg nlt16]
      exact ⟨a, rfl, hP⟩
  · intro d hd
    rw [b_0]
    constructor
    · intro h; exact absurd h (by decide)
    · rintro ⟨p, h1, -⟩; exact absurd h1 (Nat.not_lt_zero _)
theorem m_doingAs {F : Nat} (hF : 17 ≤ F) {τ : jS} (hW : cityW (τ 1)) (s : Int32) {h : Nat} (hh : h < 24) : ∃ r, mX12_doingAs F s (nI h) τ = some r ∧ ∀ q, q < 32 → (bt r q = true ↔ hcS τ s h q) := by
  unfold mX12_doingAs
  refine loop_p (fun n y a => lp_X12_doingAs_5 F τ n s (nI h) a y) 16 (fun i a => ∀ q, q < 32 → (bt a q = true ↔ bt s q = true ∨ (q < 16 ∧ τ 1 (48 + q) = 1 ∧ ∃ p, p < i ∧ bt s p = true ∧ dg τ p h = dg τ q h))) (fun o => ∃ r, o = some r ∧ ∀ q, q < 32 → (bt r q = true ↔ hcS τ s h q)) ?_ ?_ F 0 s (by omega) (by omega) ?_
  · intro n i w hi hw
    right
    show ∃ a', _ ∧ lp_X12_doingAs_5 F τ (n + 1) s (nI h) w (nI i) = lp_X12_doingAs_5 F τ n s (nI h) a' (nI (i + 1))
    rw [lp_X12_doingAs_5, if_pos (lt16 hi)]
    refine loop_p (fun m y a => lp_X12_doingAs_15 F τ (fun x1_6 x2_6 x3_6 x4_6 => (lp_X12_doingAs_5 F τ n x1_6 x2_6 x3_6 ((x4_6 + (1 : Int32))))) m s (nI h) a (nI i) y) 16 (fun j a => ∀ q, q < 32 → (bt a q = true ↔ bt w q = true ∨ (q < j ∧ τ 1 (48 + q) = 1 ∧ bt s i = true ∧ dg τ i h = dg τ q h))) (fun o => ∃ a', (∀ q, q < 32 → (bt a' q = true ↔ bt s q = true ∨ (q < 16 ∧ τ 1 (48 + q) = 1 ∧ ∃ p, p < i + 1 ∧ bt s p = true ∧ dg τ p h = dg τ q h))) ∧ o = lp_X12_doingAs_5 F τ n s (nI h) a' (nI (i + 1))) ?_ ?_ F 0 w (by omega) (by omega) (fun q hq => by simp)
    · intro m j a hj hP
      right
      show ∃ a', _ ∧ lp_X12_doingAs_15 F τ _ (m + 1) s (nI h) a (nI i) (nI j) = lp_X12_doingAs_15 F τ _ m s (nI h) a' (nI i) (nI (j + 1))
      rw [lp_X12_doingAs_15, if_pos (lt16 hj), m_has F τ s (show i < 32 by omega), m_live hW, tl_in _ hj, m_doing hi hh, m_doing hj hh]
      simp only [Option.bind_some, nI1, lt]
      have skip : ¬ (τ 1 (48 + j) = 1 ∧ bt s i = true ∧ dg τ i h = dg τ j h) → ∀ q, q < 32 → (bt a q = true ↔ bt w q = true ∨ (q < j + 1 ∧ τ 1 (48 + q) = 1 ∧ bt s i = true ∧ dg τ i h = dg τ q h)) := by
        intro hn q hq
        rw [hP q hq]
        constructor
        · rintro (h1 | ⟨h1, h2⟩)
          · exact Or.inl h1
          · exact Or.inr ⟨by omega, h2⟩
        · rintro (h1 | ⟨h1, h2⟩)
          · exact Or.inl h1
          · by_cases e1 : q = j
            · subst e1; exact absurd h2 hn
            · exact Or.inr ⟨by omega, h2⟩
      by_cases c1 : bt s i = true
      · rw [if_pos c1, if_neg (show ¬ (1 : Int32) = 0 by decide)]
        rcases rk01 (hW.1 (48 + j) (by omega)) (Or.inr ⟨by omega, by omega⟩) with l | l
        · rw [if_pos l]
          exact ⟨_, skip (fun z => by rw [l] at z; exact absurd z.1 (by decide)), rfl⟩
        · rw [if_neg (by rw [l]; decide)]
          by_cases c2 : dg τ i h = dg τ j h
          · rw [if_pos c2]
            refine ⟨_, fun q hq => ?_, rfl⟩
            rw [b_or, bt_one j q (by omega), Bool.or_eq_true, hP q hq, decide_eq_true_eq]
            constructor
            · rintro ((h4 | ⟨h4, h5⟩) | h4)
              · exact Or.inl h4
              · exact Or.inr ⟨by omega, h5⟩
              · subst h4
                exact Or.inr ⟨by omega, l, c1, c2⟩
            · rintro (h4 | ⟨h4, h5⟩)
              · exact Or.inl (Or.inl h4)
              · by_cases e1 : q = j
                · exact Or.inr e1
                · exact Or.inl (Or.inr ⟨by omega, h5⟩)
          · rw [if_neg c2]
            exact ⟨_, skip (fun z => c2 z.2.2), rfl⟩
      · rw [if_neg c1, if_pos rfl]
        exact ⟨_, skip (fun z => c1 z.2.1), rfl⟩
    · intro m a hP
      show ∃ a', _ ∧ lp_X12_doingAs_15 F τ _ (m + 1) s (nI h) a (nI i) (nI 16) = _
      rw [lp_X12_doingAs_15, if_neg nlt16, nI1]
      refine ⟨a, fun q hq => ?_, rfl⟩
      rw [hP q hq, hw q hq]
      constructor
      · rintro ((h1 | ⟨h1, h2, p, h3, h4⟩) | ⟨h1, h2, h3⟩)
        · exact Or.inl h1
        · exact Or.inr ⟨h1, h2, p, by omega, h4⟩
        · exact Or.inr ⟨h1, h2, i, by omega, h3⟩
      · rintro (h1 | ⟨h1, h2, p, h3, h4⟩)
        · exact Or.inl (Or.inl h1)
        · by_cases e1 : p = i
          · subst e1; exact Or.inr ⟨h1, h2, h4⟩
          · exact Or.inl (Or.inr ⟨h1, h2, p, by omega, h4⟩)
  · intro n a hP
    show ∃ r, lp_X12_doingAs_5 F τ (n + 1) s (nI h) a (nI 16) = some r ∧ _
    rw [lp_X12_doingAs_5, if_neg nlt16]
    exact ⟨a, rfl, hP⟩
  · intro q hq
    simp
theorem fa_cnt_mono {p q : Nat → Bool} : ∀ n, (∀ k, k < n → p k = true → q k = true) → fa_cnt p n ≤ fa_cnt q n
  | 0, _ => Nat.le_refl _
  | n + 1, h => by
    have ih := fa_cnt_mono n (fun k hk => h k (by omega))
    cases hp : p n with
    | true => rw [fa_cnt_yes hp, fa_cnt_yes (h n (by omega) hp)]; omega
    | false =>
      rw [fa_cnt_no hp]
      cases hq : q n with
      | true => rw [fa_cnt_yes hq]; omega
      | false => rw [fa_cnt_no hq]; exact ih
theorem fa_cnt_more {p q : Nat → Bool} : ∀ n, (∀ k, k < n → p k = true → q k = true) → (∃ k, k < n ∧ p k = false ∧ q k = true) → fa_cnt p n < fa_cnt q n
  | 0, _, h => by obtain ⟨k, h, _⟩ := h; exact absurd h (Nat.not_lt_zero _)
  | n + 1, h, ⟨k, h1, h2, h3⟩ => by
    by_cases e : k = n
    · subst e
      have := fa_cnt_mono k (fun j hj => h j (by omega))
      rw [fa_cnt_no h2, fa_cnt_yes h3]; omega
    · have ih := fa_cnt_more n (fun k hk => h k (by omega)) ⟨k, by omega, h2, h3⟩
      cases hp : p n with
      | true => rw [fa_cnt_yes hp, fa_cnt_yes (h n (by omega) hp)]; omega
      | false =>
        rw [fa_cnt_no hp]
        cases hq : q n with
        | true => rw [fa_cnt_yes hq]; omega
        | false => rw [fa_cnt_no hq]; exact ih
/-- one hour of it in both: the same, no fewer, none beyond 16 -/
theorem hc_step {F : Nat} (hF : 17 ≤ F) {σ τ : jS} (hW : cityW (τ 1)) (hR : cityR 3 σ (τ 1)) (hT : routR σ τ) (s : Int32) (hs : ∀ q, 16 ≤ q → bt s q = false) {h : Nat} (hh : h < 24) : ∃ r, mX8_joined F s (σ 3 4) (nI h) σ = some r ∧ mX12_doingAs F s (nI h) τ = some r ∧ (∀ q, 16 ≤ q → bt r q = false) ∧ (r ≠ s → fa_cnt (bt s) 16 < fa_cnt (bt r) 16 ∧ 0 < fa_cnt (bt s) 16) := by
  obtain ⟨r, e1, h1⟩ := x8_joined hF hW hR hT s hh
  obtain ⟨r2, e2, h2⟩ := m_doingAs hF hW s hh
  have e : r2 = r := b_ext (fun q hq => by rw [Bool.eq_iff_iff, h1 q hq, h2 q hq])
  subst e
  refine ⟨r2, e1, e2, fun q hq => ?_, fun hne => ?_⟩
  · rcases Nat.lt_or_ge q 32 with h | h
    · cases hb : bt r2 q with
      | false => rfl
      | true =>
        rcases (h1 q h).mp hb with h3 | ⟨h3, -⟩
        · rw [hs q hq] at h3; exact h3.symm
        · omega
    · exact b_big h
  · have hd : ∃ q, q < 16 ∧ bt s q = false ∧ bt r2 q = true := by
      apply Classical.byContradiction
      intro hn
      apply hne
      apply b_ext
      intro q hq
      rcases Nat.lt_or_ge q 16 with h | h
      · cases hs' : bt s q with
        | true => exact (h1 q hq).mpr (Or.inl hs')
        | false =>
          cases hr : bt r2 q with
          | false => rfl
          | true => exact absurd ⟨q, h, hs', hr⟩ hn
      · cases hr : bt r2 q with
        | false => exact (hs q h).symm
        | true =>
          rcases (h1 q hq).mp hr with h3 | ⟨h3, -⟩
          · exact h3.symm
          · omega
    refine ⟨fa_cnt_more 16 (fun k hk hb => (h1 k (by omega)).mpr (Or.inl hb)) hd, ?_⟩
    obtain ⟨q, hq, hq1, hq2⟩ := hd
    rcases (h1 q (by omega)).mp hq2 with h3 | ⟨-, -, p, hp, hp2, -⟩
    · rw [hq1] at h3; exact absurd h3 (by decide)
    · have := fa_cnt_more (p := fun _ => false) (q := bt s) 16 (fun _ _ h => absurd h (by decide)) ⟨p, hp, rfl, hp2⟩
      omega
/-- behind a day without change the reference goes on, and nothing changes -/
theorem hc_tail {F : Nat} {τ : jS} (x s : Int32) (last : Nat) (hl : last ≤ 360) (hfix : ∀ h, h < 24 → mX12_doingAs F s (nI h) τ = some s) : ∀ (k m : Nat), k ≤ 24 → k < m → lp_X12_hiccups_46 F τ m x s (nI last) (nI (last + 48 - k)) = if x = 0 then some s else some (nI last) := by
  intro k
  induction k with
  | zero =>
    intro m _ hm
    obtain ⟨m, rfl⟩ : ∃ j, m = j + 1 := ⟨m - 1, by omega⟩
    rw [lp_X12_hiccups_46, show nI last + (48 : Int32) = nI (last + 48) from nI_add last 48, if_neg (nI_nlt (by omega) (by omega))]
  | succ k ih =>
    intro m hk hm
    obtain ⟨m, rfl⟩ : ∃ j, m = j + 1 := ⟨m - 1, by omega⟩
    rw [lp_X12_hiccups_46, show nI last + (48 : Int32) = nI (last + 48) from nI_add last 48, if_pos (nI_lt (by omega) (by omega)), show irm (nI (last + 48 - (k + 1))) (24 : Int32) = nI ((last + 48 - (k + 1)) % 24) from irm_n (d := 24) (by omega) (by omega) (by omega), hfix _ (Nat.mod_lt _ (by omega))]
    simp only [Option.bind_some, if_true, nI1]
    rw [show last + 48 - (k + 1) + 1 = last + 48 - k by omega]
    exact ih m (by omega) (by omega)
theorem s_hiccups (F : Nat) (hF : 500 ≤ F) : S_hiccups F Inv := by
  intro σ τ x1 x2 hI
  obtain ⟨-, hW, hR, -, hT, -⟩ := id hI
  unfold mX11_hiccups mX12_hiccups
  rw [m_toldSet (by omega) hW hR, m_livingSet (by omega) hW hR, isW, isI, isI]
  simp only [Option.bind_some, lt]
  by_cases c : x1 &&& (σ 3 3 ^^^ (-1)) = 0
  · have hb : ∀ q, 16 ≤ q → bt x1 q = false := by
      intro q hq
      rcases Nat.lt_or_ge q 32 with h | h
      · have h1 : bt (x1 &&& (σ 3 3 ^^^ (-1))) q = false := by rw [c]; exact b_0 q
        rw [b_and, b_xor, b_m1 q h, hR.1.2 q hq] at h1
        simpa using h1
      · exact b_big h
    have hx : inr x1 0 65535 = 1 := by
      have e : x1 = x1 &&& 65535 := by
        apply b_ext
        intro i hi
        rw [b_and, b_65535]
        by_cases h : i < 16
        · simp [h]
        · rw [hb i (by omega)]; rfl
      obtain ⟨k, hk, ek⟩ := nx_mask x1
      rw [e, ek]
      unfold inr
      rw [if_neg (nI_pos (by omega)), if_neg (show ¬ (65535 : Int32) < nI k from nI_nlt (a := 65535) (by omega) (by omega))]
    rw [if_pos c, if_pos c, hx, if_neg (show ¬ (1 : Int32) = 0 by decide)]
    rcases inr_c x2 0 1 with e | ⟨e, -, -⟩
    · rw [e]; exact ⟨_, rfl, rfl, hI⟩
    rw [e, if_neg (show ¬ (1 : Int32) = 0 by decide), if_neg (show ¬ (1 : Int32) = 0 by decide)]
    have fin : ∀ (n m : Nat) (s : Int32) (last : Nat), 25 ≤ m → last ≤ 360 → (∀ h, last ≤ h → h < last + 24 → mX12_doingAs F s (nI (h % 24)) τ = some s) → lp_X11_hiccups_41 F σ (n + 1) x2 s (nI last) (nI (last + 24)) = (if x2 = 0 then some s else some (nI last)) ∧ lp_X12_hiccups_46 F τ m x2 s (nI last) (nI (last + 24)) = if x2 = 0 then some s else some (nI last) := by
      intro n m s last hm hl hfix
      constructor
      · rw [lp_X11_hiccups_41, show nI last + (24 : Int32) = nI (last + 24) from nI_add last 24, if_neg (show ¬ nI (last + 24) < nI (last + 24) from nI_nlt (by omega) (by omega))]
        split <;> rfl
      · have hfx : ∀ h, h < 24 → mX12_doingAs F s (nI h) τ = some s := by
          intro h hh
          by_cases c1 : last % 24 ≤ h
          · have := hfix (last - last % 24 + h) (by omega) (by omega)
            rw [show (last - last % 24 + h) % 24 = h by omega] at this
            exact this
          · have := hfix (last - last % 24 + 24 + h) (by omega) (by omega)
            rw [show (last - last % 24 + 24 + h) % 24 = h by omega] at this
            exact this
        exact hc_tail x2 s last hl hfx 24 m (by omega) (by omega)
    have key : ∀ G : Nat, 385 ≤ G → ∃ z, lp_X11_hiccups_41 F σ (G + 30) x2 (x1 &&& σ 3 4) 0 0 = some z ∧ lp_X12_hiccups_46 F τ (G + 30) x2 (x1 &&& σ 3 4) 0 0 = some z ∧ Inv σ τ := by
      intro G hG
      refine loop_q (fun n y (a : Int32 × Int32) => lp_X11_hiccups_41 F σ (n + 30) x2 a.1 a.2 y) (fun n y (b : Int32 × Int32) => lp_X12_hiccups_46 F τ (n + 30) x2 b.1 b.2 y) 384 (fun i a b => a = b ∧ ∃ last, a.2 = nI last ∧ last ≤ i ∧ i ≤ last + 24 ∧ last ≤ 24 * (fa_cnt (bt a.1) 16 - 1) ∧ (∀ q, 16 ≤ q → bt a.1 q = false) ∧ ∀ h, last ≤ h → h < i → mX12_doingAs F a.1 (nI (h % 24)) τ = some a.1) (fun r s => ∃ z, r = some z ∧ s = some z ∧ Inv σ τ) ?_ ?_ G 0 (x1 &&& σ 3 4, 0) (x1 &&& σ 3 4, 0) (by omega) (by omega) ⟨rfl, 0, rfl, by omega, by omega, by omega, fun q hq => by rw [b_and, hb q hq]; rfl, fun h h1 h2 => absurd h2 (by omega)⟩
      · intro n i a b hi hP
        obtain ⟨rfl, last, e1, h1, h2, h3, h4, h5⟩ := hP
        obtain ⟨s, x⟩ := a
        have e1 : x = nI last := e1
        subst e1
        have hc : fa_cnt (bt s) 16 ≤ 16 := fa_cnt_le _ 16
        have h3 : last ≤ 24 * (fa_cnt (bt s) 16 - 1) := h3
        have hl : last ≤ 360 := by omega
        by_cases c1 : i = last + 24
        · left
          subst c1
          show ∃ z, lp_X11_hiccups_41 F σ (n + 1 + 30) x2 s (nI last) (nI (last + 24)) = some z ∧ lp_X12_hiccups_46 F τ (n + 1 + 30) x2 s (nI last) (nI (last + 24)) = some z ∧ Inv σ τ
          obtain ⟨f1, f2⟩ := fin (n + 30) (n + 1 + 30) s last (by omega) hl h5
          rw [show n + 1 + 30 = n + 30 + 1 by omega] at f2 ⊢
          rw [f1, f2]
          exact same2 (by repeat' (first | rfl | split)) hI
        · right
          show ∃ (a' b' : Int32 × Int32), _ ∧ lp_X11_hiccups_41 F σ (n + 1 + 30) x2 s (nI last) (nI i) = lp_X11_hiccups_41 F σ (n + 30) x2 a'.1 a'.2 (nI (i + 1)) ∧ lp_X12_hiccups_46 F τ (n + 1 + 30) x2 s (nI last) (nI i) = lp_X12_hiccups_46 F τ (n + 30) x2 b'.1 b'.2 (nI (i + 1))
          rw [show n + 1 + 30 = n + 30 + 1 by omega, lp_X11_hiccups_41.eq_2, lp_X12_hiccups_46.eq_2, if_pos (show nI i < (384 : Int32) from nI_lt (b := 384) hi (by omega)), show nI last + (24 : Int32) = nI (last + 24) from nI_add last 24, show nI last + (48 : Int32) = nI (last + 48) from nI_add last 48, if_pos (show nI i < nI (last + 24) from nI_lt (by omega) (by omega)), if_pos (show nI i < nI (last + 48) from nI_lt (by omega) (by omega)), show irm (nI i) (24 : Int32) = nI (i % 24) from irm_n (d := 24) (by omega) (by omega) (by omega)]
          obtain ⟨r, g1, g2, g3, g4⟩ := hc_step (F := F) (by omega) hW hR hT s h4 (show i % 24 < 24 from Nat.mod_lt _ (by omega))
          rw [g1, g2]
          simp only [Option.bind_some, nI1, lt]
          by_cases c2 : r = s
          · subst c2
            rw [if_pos rfl, if_pos rfl]
            refine ⟨(r, nI last), (r, nI last), ⟨rfl, last, rfl, by omega, by omega, h3, h4, fun h a b => ?_⟩, rfl, rfl⟩
            by_cases c3 : h = i
            · subst c3; exact g2
            · exact h5 h a (by omega)
          · rw [if_neg c2, if_neg c2]
            obtain ⟨g5, g6⟩ := g4 c2
            refine ⟨(r, nI (i + 1)), (r, nI (i + 1)), ⟨rfl, i + 1, rfl, by omega, by omega, ?_, g3, fun h a b => absurd b (by omega)⟩, rfl, rfl⟩
            show i + 1 ≤ 24 * (fa_cnt (bt r) 16 - 1)
            omega
      · intro n a b hP
        obtain ⟨rfl, last, e1, h1, h2, h3, h4, h5⟩ := hP
        obtain ⟨s, x⟩ := a
        have e1 : x = nI last := e1
        subst e1
        have hc : fa_cnt (bt s) 16 ≤ 16 := fa_cnt_le _ 16
        have h3 : last ≤ 24 * (fa_cnt (bt s) 16 - 1) := h3
        have hl : last = 360 := by omega
        subst hl
        show ∃ z, lp_X11_hiccups_41 F σ (n + 1 + 30) x2 s (nI 360) (nI (360 + 24)) = some z ∧ lp_X12_hiccups_46 F τ (n + 1 + 30) x2 s (nI 360) (nI (360 + 24)) = some z ∧ Inv σ τ
        obtain ⟨f1, f2⟩ := fin (n + 30) (n + 1 + 30) s 360 (by omega) (by omega) h5
        rw [show n + 1 + 30 = n + 30 + 1 by omega] at f2 ⊢
        rw [f1, f2]
        exact same2 (by repeat' (first | rfl | split)) hI
    obtain ⟨m, hm⟩ : ∃ m, F = m + 30 := ⟨F - 30, by omega⟩
    have := key m (by omega)
    rw [← hm] at this
    exact this
  · rw [if_neg c, if_neg c, ite_self]
    exact ⟨_, rfl, rfl, hI⟩
