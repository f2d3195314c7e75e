theorem imin_nI {a b : Nat} (ha : a < 2 ^ 31) (hb : b < 2 ^ 31) : imin (nI a) (nI b) = nI (min a b) := by
  unfold imin
  by_cases c : b < a
  · rw [if_pos (nI_lt c ha), Nat.min_eq_right (by omega)]
  · rw [if_neg (nI_nlt (by omega) hb), Nat.min_eq_left (by omega)]
theorem imax_nI {a b : Nat} (ha : a < 2 ^ 31) (hb : b < 2 ^ 31) : imax (nI a) (nI b) = nI (max a b) := by
  unfold imax
  by_cases c : a < b
  · rw [if_pos (nI_lt c hb), Nat.max_eq_right (by omega)]
  · rw [if_neg (nI_nlt (by omega) ha), Nat.max_eq_left (by omega)]
theorem m_min (F : Nat) (τ : jS) {a b : Nat} (ha : a < 2 ^ 31) (hb : b < 2 ^ 31) : mX12_min F (nI a) (nI b) τ = some (nI (min a b)) := by
  unfold mX12_min
  by_cases c : a < b
  · rw [if_pos (nI_lt c hb), Nat.min_eq_left (by omega)]
  · rw [if_neg (nI_nlt (by omega) ha), Nat.min_eq_right (by omega)]
theorem m_max (F : Nat) (τ : jS) {a b : Nat} (ha : a < 2 ^ 31) (hb : b < 2 ^ 31) : mX12_max F (nI a) (nI b) τ = some (nI (max a b)) := by
  unfold mX12_max
  by_cases c : b < a
  · rw [if_pos (nI_lt c ha), Nat.max_eq_left (by omega)]
  · rw [if_neg (nI_nlt (by omega) hb), Nat.max_eq_right (by omega)]
/-- how a loan grows, what is due behind a day -/
def gw (u r : Nat) : Nat := min 9999999 (u + (u * r + 99) / 100)
def nx (u r d : Nat) : Nat := gw u r - min d (gw u r)
theorem gw_le (u r : Nat) : gw u r ≤ 9999999 := Nat.min_le_left _ _
theorem nx_le (u r d : Nat) : nx u r d ≤ 9999999 := Nat.le_trans (Nat.sub_le _ _) (gw_le u r)
theorem gw_I {u r : Nat} (hu : u ≤ 9999999) (hr : r ≤ 99) : nI u + (nI u * nI r + 99) / 100 = nI (u + (u * r + 99) / 100) := by
  have h1 : u * r ≤ 9999999 * 99 := Nat.mul_le_mul hu hr
  show nI u + (nI u * nI r + nI 99) / nI 100 = _
  rw [pk_mul, nI_add, pk_div (by omega) (by omega) (by omega), nI_add]
theorem gw_lt {u r : Nat} (hu : u ≤ 9999999) (hr : r ≤ 99) : u + (u * r + 99) / 100 < 2 ^ 31 := by
  have h1 : u * r ≤ 9999999 * 99 := Nat.mul_le_mul hu hr
  omega
theorem m_grown (F : Nat) (τ : jS) {u r : Nat} (hu : u ≤ 9999999) (hr : r ≤ 99) : mX12_grownBy F (nI u) (nI r) τ = some (nI (gw u r)) := by
  unfold mX12_grownBy
  rw [gw_I hu hr]
  show (mX12_min F (nI 9999999) _ τ).bind _ = _
  rw [m_min F τ (by omega) (gw_lt hu hr)]
  rfl
theorem m_less (F : Nat) (τ : jS) {u d : Nat} (hu : u ≤ 9999999) (hd : d ≤ 9999) : mX12_lessBy F (nI u) (nI d) τ = some (nI (u - min d u)) := by
  unfold mX12_lessBy
  rw [m_min F τ (by omega) (by omega)]
  simp only [Option.bind_some]
  rw [pk_sub (Nat.min_le_left _ _), Nat.min_comm]
theorem rk_le {t : Nat → Int32} (h : cityW0 t) {i b : Nat} (hi : i < 212) (hb : (if i < 16 then 1 else if i < 32 then 999999999 else if i < 48 then 99999 else if i < 64 then 1 else if i < 112 then 15 else if i < 136 then 999999 else if i < 160 then 99 else if i < 184 then 9999 else if i < 208 then 9999999 else if i = 208 then 24 else if i = 209 then 999999999 else if i = 210 then 9999 else 65535) = b) : ∃ n, n ≤ b ∧ t i = nI n := by
  obtain ⟨n, e, hn⟩ := h i hi
  rw [hb] at hn
  exact ⟨n, hn, e⟩
theorem rate_n {t : Nat → Int32} (h : cityW0 t) {l : Nat} (hl : l < 24) : ∃ n, n ≤ 99 ∧ t (136 + l) = nI n := rk_le h (by omega) (by rw [if_neg (by omega), if_neg (by omega), if_neg (by omega), if_neg (by omega), if_neg (by omega), if_neg (by omega), if_pos (by omega)])
theorem paid_n {t : Nat → Int32} (h : cityW0 t) {l : Nat} (hl : l < 24) : ∃ n, n ≤ 9999 ∧ t (160 + l) = nI n := rk_le h (by omega) (by rw [if_neg (by omega), if_neg (by omega), if_neg (by omega), if_neg (by omega), if_neg (by omega), if_neg (by omega), if_neg (by omega), if_pos (by omega)])
theorem due_n {t : Nat → Int32} (h : cityW0 t) {l : Nat} (hl : l < 24) : ∃ n, n ≤ 9999999 ∧ t (184 + l) = nI n := rk_le h (by omega) (by rw [if_neg (by omega), if_neg (by omega), if_neg (by omega), if_neg (by omega), if_neg (by omega), if_neg (by omega), if_neg (by omega), if_neg (by omega), if_pos (by omega)])
theorem who_n {t : Nat → Int32} (h : cityW0 t) {i : Nat} (h1 : 64 ≤ i) (h2 : i < 112) : ∃ n, n ≤ 15 ∧ t i = nI n := rk_le h (by omega) (by rw [if_neg (by omega), if_neg (by omega), if_neg (by omega), if_neg (by omega), if_pos (by omega)])
theorem beats_n {t : Nat → Int32} (h : cityW0 t) {p : Nat} (hp : p < 16) : ∃ n, n ≤ 999999999 ∧ t (16 + p) = nI n := rk_le h (by omega) (by rw [if_neg (by omega), if_pos (by omega)])
theorem age_n {t : Nat → Int32} (h : cityW0 t) {p : Nat} (hp : p < 16) : ∃ n, n ≤ 99999 ∧ t (32 + p) = nI n := rk_le h (by omega) (by rw [if_neg (by omega), if_neg (by omega), if_pos (by omega)])
theorem x6_grown (F : Nat) {c : Nat} {σ : jS} {t : Nat → Int32} (h : cityW0 t) (hR : cityR c σ t) {l u r : Nat} (hl : l < 24) (hn : nI l < t 208) (hu : u ≤ 9999999) (hr : r ≤ 99) (er : t (136 + l) = nI r) : mX6_grown F (c + 3) (nI l) (nI u) σ = some (nI (gw u r)) := by
  unfold mX6_grown jn_X6_grown_18
  obtain ⟨n, hn24, en⟩ := many_n h
  rw [x6_has h hR]
  have e1 : ln (t 208) (nI l) = 1 := by
    unfold ln
    rw [if_neg (nI_pos (by omega)), if_pos hn]
  simp only [e1, Option.bind_some, if_neg (show ¬ (1 : Int32) = 0 by decide), jin_nI hl (show 24 < 2 ^ 31 by omega), if_true, nI_clamp (show l < 2 ^ 31 by omega), show σ (c + 3 + 4) l = t (136 + l) from cityR_rate_at hR hl hn, er]
  rw [gw_I hu hr]
  show some (imin (nI 9999999) _) = _
  rw [imin_nI (by omega) (gw_lt hu hr)]
  rfl
theorem x6_next (F : Nat) {c : Nat} {σ : jS} {t : Nat → Int32} (h : cityW0 t) (hR : cityR c σ t) {l u r d : Nat} (hl : l < 24) (hn : nI l < t 208) (hu : u ≤ 9999999) (hr : r ≤ 99) (er : t (136 + l) = nI r) (hd : d ≤ 9999) (ed : t (160 + l) = nI d) : mX6_dueNextDay F (c + 3) (nI l) (nI u) σ = some (nI (nx u r d)) := by
  unfold mX6_dueNextDay
  rw [x6_grown F h hR hl hn hu hr er, x6_has h hR]
  have e1 : ln (t 208) (nI l) = 1 := by
    unfold ln
    rw [if_neg (nI_pos (by omega)), if_pos hn]
  have hg := gw_le u r
  simp only [e1, Option.bind_some, if_neg (show ¬ (1 : Int32) = 0 by decide), jin_nI hl (show 24 < 2 ^ 31 by omega), if_true, nI_clamp (show l < 2 ^ 31 by omega), show σ (c + 3 + 5) l = t (160 + l) from cityR_paid_at hR hl hn, ed]
  rw [imin_nI (by omega) (by omega), pk_sub (Nat.min_le_right _ _)]
  rfl
theorem s_dueAfter (F : Nat) (hF : 3651 ≤ F) : S_dueAfter F Inv := by
  intro σ τ x1 x2 hI
  obtain ⟨-, hW, hR, -, -, -⟩ := id hI
  obtain ⟨n, hn, en⟩ := many_n hW.1
  unfold mX11_dueAfter mX12_dueAfter mX6_dueOf
  rw [x6_has (c := 3) hW.1 hR, m_loan hW.1, isW, isI, en]
  rcases ln_cases hn x1 with e | ⟨e, l, hl, rfl⟩
  · simp only [e, Option.bind_some, if_true]
    exact ⟨-1, rfl, rfl, hI⟩
  simp only [e, Option.bind_some, if_neg (show ¬ (1 : Int32) = 0 by decide)]
  rcases inr_c x2 0 3650 with e2 | ⟨e2, h1, h2⟩
  · simp only [e2, if_true]
    exact ⟨-1, rfl, rfl, hI⟩
  obtain ⟨k, -, hk, rfl⟩ := inr_nat (a := 0) (b := 3650) (by omega) (by omega) h1 h2
  have hln : nI l < τ 1 208 := by rw [en]; exact nI_lt hl (by omega)
  obtain ⟨r, hr, er⟩ := rate_n hW.1 (show l < 24 by omega)
  obtain ⟨d, hd, ed⟩ := paid_n hW.1 (show l < 24 by omega)
  obtain ⟨u0, hu0, eu0⟩ := due_n hW.1 (show l < 24 by omega)
  simp only [e2, if_neg (show ¬ (1 : Int32) = 0 by decide), lt, jin_nI (show l < 24 by omega) (show 24 < 2 ^ 31 by omega), if_true, nI_clamp (show l < 2 ^ 31 by omega), show σ (6 + 6) l = τ 1 (184 + l) from cityR_due_at hR (by omega) hln, show (184 : Int32) + nI l = nI (184 + l) from nI_add 184 l, jin_nI (show 184 + l < 212 by omega) (show 212 < 2 ^ 31 by omega), nI_clamp (show 184 + l < 2 ^ 31 by omega), eu0, Option.bind_some]
  refine loop_q (fun m y a => lp_X11_dueAfter_42 F σ m (nI l) (nI k) a y) (fun m y b => lp_X12_dueAfter_35 F τ m (nI l) (nI k) b y) k (fun i a b => a = b ∧ ∃ u, u ≤ 9999999 ∧ a = nI u) (fun r s => ∃ z, r = some z ∧ s = some z ∧ Inv σ τ) ?_ ?_ F 0 _ _ (by omega) (by omega) ⟨rfl, u0, hu0, rfl⟩
  · intro m i a b hi hP
    obtain ⟨rfl, u, hu, rfl⟩ := hP
    right
    show ∃ a' b' : Int32, _ ∧ lp_X11_dueAfter_42 F σ (m + 1) (nI l) (nI k) (nI u) (nI i) = lp_X11_dueAfter_42 F σ m (nI l) (nI k) a' (nI (i + 1)) ∧ lp_X12_dueAfter_35 F τ (m + 1) (nI l) (nI k) (nI u) (nI i) = lp_X12_dueAfter_35 F τ m (nI l) (nI k) b' (nI (i + 1))
    rw [lp_X11_dueAfter_42, lp_X12_dueAfter_35, if_pos (nI_lt hi (by omega)), if_pos (nI_lt hi (by omega)), x6_next F (c := 3) hW.1 hR (show l < 24 by omega) hln hu hr er hd ed]
    simp only [lt, show (136 : Int32) + nI l = nI (136 + l) from nI_add 136 l, show (160 : Int32) + nI l = nI (160 + l) from nI_add 160 l, jin_nI (show 136 + l < 212 by omega) (show 212 < 2 ^ 31 by omega), jin_nI (show 160 + l < 212 by omega) (show 212 < 2 ^ 31 by omega), if_true, nI_clamp (show 136 + l < 2 ^ 31 by omega), nI_clamp (show 160 + l < 2 ^ 31 by omega), er, ed, m_grown F τ hu hr, m_less F τ (gw_le u r) hd, Option.bind_some, nI1]
    exact ⟨_, _, ⟨rfl, nx u r d, nx_le u r d, rfl⟩, rfl, rfl⟩
  · intro m a b hP
    obtain ⟨rfl, u, hu, rfl⟩ := hP
    show ∃ z, lp_X11_dueAfter_42 F σ (m + 1) (nI l) (nI k) (nI u) (nI k) = some z ∧ lp_X12_dueAfter_35 F τ (m + 1) (nI l) (nI k) (nI u) (nI k) = some z ∧ Inv σ τ
    rw [lp_X11_dueAfter_42, lp_X12_dueAfter_35, if_neg (nI_nlt (Nat.le_refl k) (by omega)), if_neg (nI_nlt (Nat.le_refl k) (by omega))]
    exact ⟨_, rfl, rfl, hI⟩
theorem s_paidOff (F : Nat) (hF : 3655 ≤ F) : S_paidOff F Inv := by
  intro σ τ x1 hI
  obtain ⟨-, hW, hR, -, -, -⟩ := id hI
  obtain ⟨n, hn, en⟩ := many_n hW.1
  unfold mX11_paidOff mX12_paidOff mX6_dueOf
  rw [x6_has (c := 3) hW.1 hR, m_loan hW.1, en]
  rcases ln_cases hn x1 with e | ⟨e, l, hl, rfl⟩
  · simp only [e, Option.bind_some, if_true]
    exact ⟨-1, rfl, rfl, hI⟩
  simp only [e, Option.bind_some, if_neg (show ¬ (1 : Int32) = 0 by decide)]
  have hln : nI l < τ 1 208 := by rw [en]; exact nI_lt hl (by omega)
  obtain ⟨r, hr, er⟩ := rate_n hW.1 (show l < 24 by omega)
  obtain ⟨d, hd, ed⟩ := paid_n hW.1 (show l < 24 by omega)
  obtain ⟨u0, hu0, eu0⟩ := due_n hW.1 (show l < 24 by omega)
  simp only [lt, jin_nI (show l < 24 by omega) (show 24 < 2 ^ 31 by omega), if_true, nI_clamp (show l < 2 ^ 31 by omega), show σ (6 + 6) l = τ 1 (184 + l) from cityR_due_at hR (by omega) hln, show (184 : Int32) + nI l = nI (184 + l) from nI_add 184 l, jin_nI (show 184 + l < 212 by omega) (show 212 < 2 ^ 31 by omega), nI_clamp (show 184 + l < 2 ^ 31 by omega), eu0, Option.bind_some]
  have key : ∀ G : Nat, 3654 ≤ G → ∃ z, lp_X11_paidOff_30 F σ (G + 1) (nI l) (nI u0) 0 = some z ∧ lp_X12_paidOff_23 F τ (G + 1) (nI l) (nI u0) 0 = some z ∧ Inv σ τ := by
    intro G hG
    refine loop_q (fun m y a => lp_X11_paidOff_30 F σ (m + 1) (nI l) a y) (fun m y b => lp_X12_paidOff_23 F τ (m + 1) (nI l) b y) 3650 (fun i a b => a = b ∧ ∃ u, u ≤ 9999999 ∧ a = nI u) (fun r s => ∃ z, r = some z ∧ s = some z ∧ Inv σ τ) ?_ ?_ G 0 _ _ (by omega) (by omega) ⟨rfl, u0, hu0, rfl⟩
    · intro m i a b hi hP
      obtain ⟨rfl, u, hu, rfl⟩ := hP
      show (∃ z, lp_X11_paidOff_30 F σ (m + 1 + 1) (nI l) (nI u) (nI i) = some z ∧ lp_X12_paidOff_23 F τ (m + 1 + 1) (nI l) (nI u) (nI i) = some z ∧ Inv σ τ) ∨ ∃ a' b' : Int32, _ ∧ lp_X11_paidOff_30 F σ (m + 1 + 1) (nI l) (nI u) (nI i) = lp_X11_paidOff_30 F σ (m + 1) (nI l) a' (nI (i + 1)) ∧ lp_X12_paidOff_23 F τ (m + 1 + 1) (nI l) (nI u) (nI i) = lp_X12_paidOff_23 F τ (m + 1) (nI l) b' (nI (i + 1))
      rw [lp_X11_paidOff_30.eq_2, lp_X12_paidOff_23.eq_2, if_neg (show ¬ (3650 : Int32) < nI i from nI_nlt (a := 3650) (by omega) (by omega))]
      by_cases c : u = 0
      · left
        subst c
        rw [if_pos (show nI 0 = (0 : Int32) from rfl), if_neg (show ¬ (0 : Int32) < nI 0 by decide), if_pos (show nI 0 = (0 : Int32) from rfl)]
        exact ⟨_, rfl, rfl, hI⟩
      · right
        rw [if_neg (nI_ne0 (by omega) (by omega)), if_pos (show (0 : Int32) < nI u from nI_lt (a := 0) (by omega) (by omega)), if_pos (show nI i < (3650 : Int32) from nI_lt (b := 3650) hi (by omega)), x6_next F (c := 3) hW.1 hR (show l < 24 by omega) hln hu hr er hd ed]
        simp only [lt, show (136 : Int32) + nI l = nI (136 + l) from nI_add 136 l, show (160 : Int32) + nI l = nI (160 + l) from nI_add 160 l, jin_nI (show 136 + l < 212 by omega) (show 212 < 2 ^ 31 by omega), jin_nI (show 160 + l < 212 by omega) (show 212 < 2 ^ 31 by omega), if_true, nI_clamp (show 136 + l < 2 ^ 31 by omega), nI_clamp (show 160 + l < 2 ^ 31 by omega), er, ed, m_grown F τ hu hr, m_less F τ (gw_le u r) hd, Option.bind_some, nI1]
        exact ⟨_, _, ⟨rfl, nx u r d, nx_le u r d, rfl⟩, rfl, rfl⟩
    · intro m a b hP
      obtain ⟨rfl, u, hu, rfl⟩ := hP
      show ∃ z, lp_X11_paidOff_30 F σ (m + 1 + 1) (nI l) (nI u) (nI 3650) = some z ∧ lp_X12_paidOff_23 F τ (m + 1 + 1) (nI l) (nI u) (nI 3650) = some z ∧ Inv σ τ
      rw [lp_X11_paidOff_30.eq_2, lp_X12_paidOff_23.eq_2, if_neg (show ¬ (3650 : Int32) < nI 3650 by decide)]
      by_cases c : u = 0
      · subst c
        rw [if_pos (show nI 0 = (0 : Int32) from rfl), if_neg (show ¬ (0 : Int32) < nI 0 by decide), if_pos (show nI 0 = (0 : Int32) from rfl)]
        exact ⟨_, rfl, rfl, hI⟩
      · rw [if_neg (nI_ne0 (by omega) (by omega)), if_pos (show (0 : Int32) < nI u from nI_lt (a := 0) (by omega) (by omega)), if_neg (show ¬ nI 3650 < (3650 : Int32) by decide), if_neg (nI_ne0 (by omega) (by omega)), x6_next F (c := 3) hW.1 hR (show l < 24 by omega) hln hu hr er hd ed]
        simp only [Option.bind_some]
        rw [lp_X11_paidOff_30.eq_2, if_pos (show (3650 : Int32) < nI 3650 + 1 by decide)]
        exact ⟨_, rfl, rfl, hI⟩
  obtain ⟨m, rfl⟩ : ∃ m, F = m + 1 := ⟨F - 1, by omega⟩
  exact key m (by omega)
