theorem s_expected {F : Nat} (hF : 70 ≤ F) {σ τ : jS} (h4 : ∀ i, i < 260 → σ 2 i = τ 6 i &&& 255) {n age : Nat} (hn : n ≤ 30) (ha : age < n) (x2 : Int32) : ∃ r, (if x2 < (200 : Int32) then (Option.bind (mX9_expected F (nI n) (nI age) (1 : Int32) σ) fun q6 => some (q6, σ)) else (Option.bind (mX9_expected F (nI n) (nI age) (0 : Int32) σ) fun q7 => some (q7, σ))) = some (r, σ) ∧ (Option.bind (mX12_octet F (nI age) τ) fun q9 => (if q9 = 0 then some ((-2 : Int32), τ) else (lt (nI age + (1 : Int32)) fun y10 => (lp_X12_table_141 F (fun x2_13 x3_13 x4_13 σ13 => (Option.bind (mX12_octet F x3_13 σ13) fun q14 => (Option.bind (mX12_gcd F q14 x4_13 σ13) fun q15 => (if x2_13 < (200 : Int32) then (if q15 = 0 then none else some ((x4_13 / q15), σ13)) else (Option.bind (mX12_octet F x3_13 σ13) fun q16 => (if q15 = 0 then none else some ((q16 / q15), σ13))))))) F (nI n) x2 (nI age) (0 : Int32) y10 τ)))) = some (r, τ) := by
  have hb := (bb_n τ age).1
  unfold mX9_expected
  rw [x_byte F h4 (show age < 260 by omega), m_oct F τ (show age < 260 by omega)]
  simp only [Option.bind_some, lt, nI1]
  by_cases c : bb τ age = 0
  · rw [c, if_pos (show nI 0 = (0 : Int32) from rfl), if_pos (show nI 0 = (0 : Int32) from rfl), if_pos (show nI 0 = (0 : Int32) from rfl)]
    exact ⟨-2, by split <;> rfl, rfl⟩
  have c0 : ¬ nI (bb τ age) = (0 : Int32) := nI_ne0 (by omega) (by omega)
  rw [if_neg c0, if_neg c0, if_neg c0]
  have sums : ∃ s, s ≤ 255 * 30 ∧ (∀ (x3 : Int32) (k : Int32 → Int32 → Int32 → Option Int32), lp_X9_expected_26 F σ k F (nI n) x3 (nI (bb τ age)) 0 (nI (age + 1)) = k x3 (nI (bb τ age)) (nI s)) ∧ ∀ (k : Int32 → Int32 → Int32 → jS → Option (Int32 × jS)), lp_X12_table_141 F k F (nI n) x2 (nI age) 0 (nI (age + 1)) τ = k x2 (nI age) (nI s) τ := by
    have g : ∀ (j i s0 : Nat), i + j = n → s0 ≤ 255 * i → ∃ s, s ≤ 255 * n ∧ (∀ (m : Nat) (x3 : Int32) (k : Int32 → Int32 → Int32 → Option Int32), j < m → lp_X9_expected_26 F σ k m (nI n) x3 (nI (bb τ age)) (nI s0) (nI i) = k x3 (nI (bb τ age)) (nI s)) ∧ ∀ (m : Nat) (k : Int32 → Int32 → Int32 → jS → Option (Int32 × jS)), j < m → lp_X12_table_141 F k m (nI n) x2 (nI age) (nI s0) (nI i) τ = k x2 (nI age) (nI s) τ := by
      intro j
      induction j with
      | zero =>
        intro i s0 hi hs
        refine ⟨s0, by omega, fun m x3 k hm => ?_, fun m k hm => ?_⟩
        · obtain ⟨m, rfl⟩ : ∃ j, m = j + 1 := ⟨m - 1, by omega⟩
          rw [lp_X9_expected_26, if_neg (nI_nlt (by omega) (by omega))]
        · obtain ⟨m, rfl⟩ : ∃ j, m = j + 1 := ⟨m - 1, by omega⟩
          rw [lp_X12_table_141, if_neg (nI_nlt (by omega) (by omega))]
      | succ j ih =>
        intro i s0 hi hs
        have hbi := (bb_n τ i).1
        obtain ⟨s, h1, h2, h3⟩ := ih (i + 1) (s0 + bb τ i) (by omega) (by omega)
        refine ⟨s, h1, fun m x3 k hm => ?_, fun m k hm => ?_⟩
        · obtain ⟨m, rfl⟩ : ∃ j, m = j + 1 := ⟨m - 1, by omega⟩
          rw [lp_X9_expected_26, if_pos (nI_lt (by omega) (by omega)), x_byte F h4 (show i < 260 by omega)]
          simp only [Option.bind_some, lt, nI_add, nI1]
          exact h2 m x3 k (by omega)
        · obtain ⟨m, rfl⟩ : ∃ j, m = j + 1 := ⟨m - 1, by omega⟩
          rw [lp_X12_table_141, if_pos (nI_lt (by omega) (by omega)), m_oct F τ (show i < 260 by omega)]
          simp only [Option.bind_some, lt, nI_add, nI1]
          exact h3 m k (by omega)
    obtain ⟨s, h1, h2, h3⟩ := g (n - (age + 1)) (age + 1) 0 (by omega) (by omega)
    exact ⟨s, by omega, fun x3 k => h2 F x3 k (by omega), fun k => h3 F k (by omega)⟩
  obtain ⟨s, hs, h2, h3⟩ := sums
  rw [h2, h2, h3]
  rw [x9_gcd hF (show s < 2 ^ 31 by omega) (show bb τ age < 65536 by omega), m_oct F τ (show age < 260 by omega)]
  simp only [Option.bind_some]
  rw [m_gcd hF (show bb τ age < 2 ^ 31 by omega) (show s < 65536 by omega), Nat.gcd_comm s]
  have hg : 0 < Nat.gcd (bb τ age) s := Nat.gcd_pos_of_pos_left _ (by omega)
  have hg2 : Nat.gcd (bb τ age) s ≤ bb τ age := Nat.gcd_le_left _ (by omega)
  have cg : ¬ nI (Nat.gcd (bb τ age) s) = (0 : Int32) := nI_ne0 hg (by omega)
  simp only [Option.bind_some, if_neg cg, if_true, if_neg (show ¬ (1 : Int32) = 0 by decide)]
  by_cases c2 : x2 < 200
  · rw [if_pos c2, if_pos c2]
    exact ⟨_, rfl, rfl⟩
  · rw [if_neg c2, if_neg c2]
    exact ⟨_, rfl, rfl⟩
theorem s_table (F : Nat) (hF : 100 ≤ F) : S_table F Inv := by
  intro σ τ x1 x2 hI
  unfold mX11_table mX12_table jn_X11_table_35
  rcases inr_c x1 2 30 with e | ⟨e, h1, h2⟩
  · have eX : ∀ s0, jn_X11_table_40 F x1 x2 s0 σ = some (-1, σ) := by
      intro s0
      unfold jn_X11_table_40
      rw [isW, e]; rfl
    rw [isI, e, eX, eX, isW, isW]
    refine ⟨-1, σ, τ, ?_, rfl, hI⟩
    simp only [Option.bind_some, ite_self]
  obtain ⟨n, hn2, hn, rfl⟩ := inr_nat (a := 2) (b := 30) (by omega) (by omega) h1 h2
  have f1 : inr (x2 - (100 : Int32)) 0 (nI n - 1) = inr x2 (100 : Int32) ((99 : Int32) + nI n) := by
    rw [show (99 : Int32) + nI n = nI (99 + n) from nI_add 99 n]
    exact shf x2 (k := 100) (by omega) (by omega) (by omega) hn
  have f2 : inr (x2 - (200 : Int32)) 0 (nI n - 1) = inr x2 (200 : Int32) ((199 : Int32) + nI n) := by
    rw [show (199 : Int32) + nI n = nI (199 + n) from nI_add 199 n]
    exact shf x2 (k := 200) (by omega) (by omega) (by omega) hn
  rw [isI, e, isI, isI, isW, isW, f1, f2]
  simp only [Option.bind_some, if_neg (show ¬ (1 : Int32) = 0 by decide)]
  -- both go on, at what is asked for
  have go : (x2 = 300 ∨ ∃ age, age < n ∧ irm x2 (100 : Int32) = nI age ∧ ¬ x2 = 300) → ∃ r σ2 τ2, jn_X11_table_40 F (nI n) x2 1 σ = some (r, σ2) ∧ jn_X12_table_46 F (nI n) x2 τ = some (r, τ2) ∧ Inv σ2 τ2 := by
    intro hw
    unfold jn_X11_table_40 jn_X12_table_46
    rw [isW, e]
    simp only [Option.bind_some, if_neg (show ¬ (1 : Int32) = 0 by decide)]
    rcases tape_cases F hI (show n ≤ 260 by omega) with ⟨a1, a2⟩ | ⟨a1, a2, σ1, a3, hI2, -⟩
    · rw [a1, if_pos a2]; exact ⟨-1, σ, τ, rfl, rfl, hI⟩
    rw [a1, if_neg a2, a3]
    simp only [Option.bind_some, if_neg (show ¬ (1 : Int32) = 0 by decide), lt]
    generalize js τ 0 6 0 = τ1 at hI2 ⊢
    obtain ⟨⟨-, t4⟩, -⟩ := id hI2
    rw [x9_table (by omega) t4 (by omega) hn, m_table (by omega) (by omega) hn]
    simp only [Option.bind_some]
    by_cases c : tgood τ1 n
    · rw [tgB_1 c, if_neg (show ¬ (1 : Int32) = 0 by decide), if_neg (show ¬ (1 : Int32) = 0 by decide)]
      rcases hw with hw | ⟨age, ha, ea, hne⟩
      · rw [if_pos hw, if_pos hw]
        obtain ⟨r, r1, r2⟩ := s_deaths (show 70 ≤ F by omega) t4 hn2 hn c
        rw [r1, r2]
        exact ⟨r, σ1, τ1, rfl, rfl, hI2⟩
      · rw [if_neg hne, if_neg hne, ea]
        obtain ⟨r, r1, r2⟩ := s_expected (show 70 ≤ F by omega) t4 hn ha x2
        rw [r1]
        refine ⟨r, σ1, τ1, rfl, ?_, hI2⟩
        exact r2
    · rw [tgB_0 c]
      exact ⟨-3, σ1, τ1, rfl, rfl, hI2⟩
  by_cases c3 : x2 = 300
  · subst c3
    obtain ⟨r, σ2, τ2, g1, g2, g3⟩ := go (Or.inl rfl)
    rw [if_pos rfl, g1]
    refine ⟨r, σ2, τ2, rfl, ?_, g3⟩
    simp only [if_true, g2, ite_self]
  rw [if_neg c3]
  rcases inr_c x2 (100 : Int32) (99 + nI n) with e1 | ⟨e1, k1, k2⟩
  · rw [e1]
    simp only [if_true]
    rcases inr_c x2 (200 : Int32) (199 + nI n) with e2 | ⟨e2, k3, k4⟩
    · rw [e2]
      simp only [if_true, if_neg c3]
      refine ⟨-1, σ, τ, ?_, rfl, hI⟩
      unfold jn_X11_table_40
      rw [isW, e]; rfl
    · rw [e2]
      simp only [if_neg (show ¬ (1 : Int32) = 0 by decide)]
      rw [show (199 : Int32) + nI n = nI (199 + n) from nI_add 199 n] at k4
      obtain ⟨w, hw1, hw2, rfl⟩ := inr_nat (a := 200) (b := 199 + n) (by omega) (by omega) k3 k4
      exact go (Or.inr ⟨w - 200, by omega, by rw [show irm (nI w) (100 : Int32) = nI (w % 100) from irm_n (d := 100) (by omega) (by omega) (by omega), show w % 100 = w - 200 by omega], c3⟩)
  · rw [e1]
    simp only [if_neg (show ¬ (1 : Int32) = 0 by decide)]
    rw [show (99 : Int32) + nI n = nI (99 + n) from nI_add 99 n] at k2
    obtain ⟨w, hw1, hw2, rfl⟩ := inr_nat (a := 100) (b := 99 + n) (by omega) (by omega) k1 k2
    exact go (Or.inr ⟨w - 100, by omega, by rw [show irm (nI w) (100 : Int32) = nI (w % 100) from irm_n (d := 100) (by omega) (by omega) (by omega), show w % 100 = w - 100 by omega], c3⟩)
/-! ===== a pulse ===== -/
def ww (τ : jS) (i : Nat) : Nat := bb τ (2 * i) * 256 + bb τ (2 * i + 1)
theorem ww_lt (τ : jS) (i : Nat) : ww τ i < 65536 := by
  have h1 := (bb_n τ (2 * i)).1
  have h2 := (bb_n τ (2 * i + 1)).1
  unfold ww
  omega
theorem x_word (F : Nat) {σ τ : jS} (h4 : ∀ i, i < 260 → σ 2 i = τ 6 i &&& 255) {i : Nat} (hi : i < 130) : mX10_wordAt F (nI i) σ = some (nI (ww τ i)) := by
  unfold mX10_wordAt
  rw [show (2 : Int32) * nI i = nI (2 * i) from pk_mul 2 i, nI1, x_byte F h4 (show 2 * i < 260 by omega), x_byte F h4 (show 2 * i + 1 < 260 by omega)]
  show some (nI (bb τ (2 * i)) * nI 256 + nI (bb τ (2 * i + 1))) = _
  rw [pk_mul, nI_add]
  rfl
theorem m_word (F : Nat) (τ : jS) {i : Nat} (hi : i < 130) : mX12_twoOctets F (nI i) τ = some (nI (ww τ i)) := by
  unfold mX12_twoOctets
  rw [show (2 : Int32) * nI i = nI (2 * i) from pk_mul 2 i, nI1, m_oct F τ (show 2 * i < 260 by omega), m_oct F τ (show 2 * i + 1 < 260 by omega)]
  show some (nI (bb τ (2 * i)) * nI 256 + nI (bb τ (2 * i + 1))) = _
  rw [pk_mul, nI_add]
  rfl
theorem s_pulse (F : Nat) (hF : 100 ≤ F) : S_pulse F Inv := by
  intro σ τ x1 x2 hI
  unfold mX11_pulse mX12_pulse
  rw [isW, isI, isW, isI]
  rcases inr_c x1 2 20 with e | ⟨e, h1, h2⟩
  · rw [e]; exact ⟨-1, σ, τ, rfl, rfl, hI⟩
  rcases inr_c x2 0 1 with e2 | ⟨e2, -, -⟩
  · rw [e, e2]; exact ⟨-1, σ, τ, rfl, rfl, hI⟩
  obtain ⟨n, hn2, hn, rfl⟩ := inr_nat (a := 2) (b := 20) (by omega) (by omega) h1 h2
  simp only [e, e2, Option.bind_some, if_neg (show ¬ (1 : Int32) = 0 by decide), show (2 : Int32) * nI n = nI (2 * n) from pk_mul 2 n]
  rcases tape_cases F hI (show 2 * n ≤ 260 by omega) with ⟨a1, a2⟩ | ⟨a1, a2, σ1, a3, hI2, -⟩
  · rw [a1, if_pos a2]; exact ⟨-1, σ, τ, rfl, rfl, hI⟩
  rw [a1, if_neg a2, a3]
  simp only [Option.bind_some, if_neg (show ¬ (1 : Int32) = 0 by decide), lt]
  generalize js τ 0 6 0 = τ1 at hI2 ⊢
  obtain ⟨⟨-, t4⟩, -⟩ := id hI2
  unfold mX9_pulseOf
  simp only [lt]
  refine loop_q (fun m y a => Option.bind (lp_X9_pulseOf_5 F σ1 (fun x1_5 x2_5 x3_5 => (if x3_5 = 0 then some (-3 : Int32) else (Option.bind (mX10_wordAt F ((x1_5 - (1 : Int32))) σ1) fun q6 => (Option.bind (mX10_wordAt F (0 : Int32) σ1) fun q7 => (if x3_5 = 0 then none else (if x2_5 = 0 then some x3_5 else some ((((q6 - q7) / x3_5) + (1 : Int32)) - x1_5))))))) m (nI n) x2 a y) fun q5 => some (q5, σ1)) (fun m y b => lp_X12_pulse_41 F (fun x1_9 x2_9 x3_9 σ9 => (if x2_9 = 0 then some (x3_9, σ9) else (Option.bind (mX12_twoOctets F ((x1_9 - (1 : Int32))) σ9) fun q10 => (Option.bind (mX12_twoOctets F (0 : Int32) σ9) fun q11 => (if x3_9 = 0 then none else some (((((q10 - q11) / x3_9) + (1 : Int32)) - x1_9), σ9)))))) m (nI n) x2 b y τ1) n (fun i a b => a = b ∧ 1 ≤ i ∧ ∃ g, g < 65536 ∧ a = nI g ∧ (1 < i → 0 < g)) (fun r s => ∃ z σ' τ', r = some (z, σ') ∧ s = some (z, τ') ∧ Inv σ' τ') ?_ ?_ F 1 0 0 (by omega) (by omega) ⟨rfl, by omega, 0, by omega, rfl, by omega⟩
  · intro m i a b hi hP
    obtain ⟨rfl, hi1, g, hg, rfl, -⟩ := hP
    show (∃ z σ' τ', (Option.bind (lp_X9_pulseOf_5 F σ1 _ (m + 1) (nI n) x2 (nI g) (nI i)) fun q5 => some (q5, σ1)) = some (z, σ') ∧ lp_X12_pulse_41 F _ (m + 1) (nI n) x2 (nI g) (nI i) τ1 = some (z, τ') ∧ Inv σ' τ') ∨ ∃ (a' b' : Int32), _ ∧ (Option.bind (lp_X9_pulseOf_5 F σ1 _ (m + 1) (nI n) x2 (nI g) (nI i)) fun q5 => some (q5, σ1)) = (Option.bind (lp_X9_pulseOf_5 F σ1 _ m (nI n) x2 a' (nI (i + 1))) fun q5 => some (q5, σ1)) ∧ lp_X12_pulse_41 F _ (m + 1) (nI n) x2 (nI g) (nI i) τ1 = lp_X12_pulse_41 F _ m (nI n) x2 b' (nI (i + 1)) τ1
    have w1 := ww_lt τ1 i
    have w2 := ww_lt τ1 (i - 1)
    rw [lp_X9_pulseOf_5, lp_X12_pulse_41, if_pos (nI_lt hi (by omega)), if_pos (nI_lt hi (by omega)), show nI i - (1 : Int32) = nI (i - 1) from pk_sub hi1, x_word F t4 (show i < 130 by omega), m_word F τ1 (show i < 130 by omega), x_word F t4 (show i - 1 < 130 by omega), m_word F τ1 (show i - 1 < 130 by omega)]
    simp only [Option.bind_some, nI1, lt]
    by_cases c : ww τ1 (i - 1) < ww τ1 i
    · right
      rw [if_pos (show nI (ww τ1 (i - 1)) < nI (ww τ1 i) from nI_lt c (by omega)), pk_sub (show ww τ1 (i - 1) ≤ ww τ1 i by omega), if_pos (show (0 : Int32) < nI (ww τ1 i - ww τ1 (i - 1)) from nI_lt (a := 0) (by omega) (by omega)), x9_gcd (by omega) (show ww τ1 i - ww τ1 (i - 1) < 2 ^ 31 by omega) hg, m_gcd (by omega) (show g < 2 ^ 31 by omega) (show ww τ1 i - ww τ1 (i - 1) < 65536 by omega)]
      have hp : 0 < Nat.gcd (ww τ1 i - ww τ1 (i - 1)) g := Nat.gcd_pos_of_pos_left _ (by omega)
      have hl : Nat.gcd (ww τ1 i - ww τ1 (i - 1)) g ≤ ww τ1 i - ww τ1 (i - 1) := Nat.gcd_le_left _ (by omega)
      exact ⟨_, _, ⟨by rw [Nat.gcd_comm g], by omega, Nat.gcd (ww τ1 i - ww τ1 (i - 1)) g, by omega, rfl, fun _ => hp⟩, rfl, rfl⟩
    · left
      rw [if_neg (show ¬ nI (ww τ1 (i - 1)) < nI (ww τ1 i) from nI_nlt (by omega) (by omega)), if_neg (show ¬ 0 < nI (ww τ1 i) - nI (ww τ1 (i - 1)) by rw [fa_lt, pk_sub_toInt (by omega) (by omega)]; show ¬ (0 : Int) < _; omega)]
      exact ⟨-3, σ1, τ1, rfl, rfl, hI2⟩
  · intro m a b hP
    obtain ⟨rfl, hi1, g, hg, rfl, hp⟩ := hP
    show ∃ z σ' τ', (Option.bind (lp_X9_pulseOf_5 F σ1 _ (m + 1) (nI n) x2 (nI g) (nI n)) fun q5 => some (q5, σ1)) = some (z, σ') ∧ lp_X12_pulse_41 F _ (m + 1) (nI n) x2 (nI g) (nI n) τ1 = some (z, τ') ∧ Inv σ' τ'
    have g0 : ¬ nI g = (0 : Int32) := nI_ne0 (hp (by omega)) (by omega)
    rw [lp_X9_pulseOf_5, lp_X12_pulse_41, if_neg (nI_nlt (Nat.le_refl n) (by omega)), if_neg (nI_nlt (Nat.le_refl n) (by omega)), if_neg g0, show nI n - (1 : Int32) = nI (n - 1) from pk_sub (show 1 ≤ n by omega), x_word F t4 (show n - 1 < 130 by omega), m_word F τ1 (show n - 1 < 130 by omega), show mX10_wordAt F (0 : Int32) σ1 = some (nI (ww τ1 0)) from x_word F t4 (i := 0) (by omega), show mX12_twoOctets F (0 : Int32) τ1 = some (nI (ww τ1 0)) from m_word F τ1 (i := 0) (by omega)]
    simp only [Option.bind_some, if_neg g0]
    by_cases c : x2 = 0
    · rw [if_pos c, if_pos c]; exact ⟨_, σ1, τ1, rfl, rfl, hI2⟩
    · rw [if_neg c, if_neg c]; exact ⟨_, σ1, τ1, rfl, rfl, hI2⟩
