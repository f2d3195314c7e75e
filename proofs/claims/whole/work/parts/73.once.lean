theorem ltE {α β : Type} (x : α) (f : α → β) : lt x f = f x := by
  have h : f x = f x := rfl
  exact h
/-! ===== hearts that beat at once ===== -/
theorem m1_sub (x : Int32) : x + (-1) = x - nI 1 := by
  show x + (-1) = x - 1
  rw [Int32.sub_eq_add_neg]
def Cm (a b c d t : Nat) : Prop := a ≤ t ∧ c ≤ t ∧ (t - a) % b = 0 ∧ (t - c) % d = 0
def evr (b d : Nat) : Nat := b / Nat.gcd b d * d
theorem evr_b {b d : Nat} : b ∣ evr b d := by
  obtain ⟨k, hk⟩ := Nat.gcd_dvd_right b d
  obtain ⟨j, hj⟩ := Nat.gcd_dvd_left b d
  refine ⟨k, ?_⟩
  unfold evr
  have h1 : b / Nat.gcd b d * Nat.gcd b d = b := Nat.div_mul_cancel (Nat.gcd_dvd_left b d)
  calc b / Nat.gcd b d * d = b / Nat.gcd b d * (Nat.gcd b d * k) := by rw [← hk]
    _ = b / Nat.gcd b d * Nat.gcd b d * k := (Nat.mul_assoc _ _ _).symm
    _ = b * k := by rw [h1]
theorem evr_d {b d : Nat} : d ∣ evr b d := ⟨b / Nat.gcd b d, Nat.mul_comm _ _⟩
theorem evr_pos {b d : Nat} (hb : 0 < b) (hd : 0 < d) : 0 < evr b d := Nat.mul_pos (Nat.div_pos (Nat.gcd_le_left _ hb) (Nat.gcd_pos_of_pos_left _ hb)) hd
theorem evr_le {b d : Nat} : evr b d ≤ b * d := Nat.mul_le_mul_right _ (Nat.div_le_self _ _)
theorem Cm_red {a b c d u : Nat} (hb : 0 < b) (hd : 0 < d) (h : Cm a b c d u) : ∃ v, Cm a b c d v ∧ v ≤ u ∧ max a c ≤ v ∧ v < max a c + evr b d := by
  obtain ⟨h1, h2, h3, h4⟩ := h
  have hL := evr_pos hb hd
  have hm : max a c ≤ u := Nat.max_le.mpr ⟨h1, h2⟩
  have ha : a ≤ max a c := Nat.le_max_left _ _
  have hc : c ≤ max a c := Nat.le_max_right _ _
  have hq := Nat.div_add_mod (u - max a c) (evr b d)
  have hr := Nat.mod_lt (u - max a c) hL
  generalize max a c = m at *
  generalize (u - m) / evr b d = q at *
  generalize (u - m) % evr b d = r at *
  obtain ⟨kb, hkb⟩ := @evr_b b d
  obtain ⟨kd, hkd⟩ := @evr_d b d
  refine ⟨m + r, ⟨by omega, by omega, ?_, ?_⟩, by omega, by omega, by omega⟩
  · have e : u - a = (m + r - a) + b * (kb * q) := by
      rw [← Nat.mul_assoc, ← hkb]; omega
    rw [e, Nat.add_mul_mod_self_left] at h3
    exact h3
  · have e : u - c = (m + r - c) + d * (kd * q) := by
      rw [← Nat.mul_assoc, ← hkd]; omega
    rw [e, Nat.add_mul_mod_self_left] at h4
    exact h4
/-- what both find: the first common beat, or none -/
def fstT (a b c d : Nat) (r : Int32) : Prop := (∃ t, Cm a b c d t ∧ (∀ u, Cm a b c d u → t ≤ u) ∧ t < 66000 ∧ r = nI t) ∨ (r = -2 ∧ ∀ u, ¬ Cm a b c d u)
theorem fstT_one {a b c d : Nat} {r s : Int32} (h : fstT a b c d r) (g : fstT a b c d s) : r = s := by
  rcases h with ⟨t, h1, h2, h3, rfl⟩ | ⟨rfl, h⟩
  · rcases g with ⟨u, g1, g2, g3, rfl⟩ | ⟨rfl, g⟩
    · rw [Nat.le_antisymm (h2 u g1) (g2 t h1)]
    · exact absurd h1 (g t)
  · rcases g with ⟨u, g1, g2, g3, rfl⟩ | ⟨rfl, g⟩
    · exact absurd g1 (h u)
    · rfl
theorem x9_first {F : Nat} (hF : 600 ≤ F) {σ : jS} {a b c d : Nat} (ha : a < 256) (hb : 0 < b) (hb2 : b < 256) (hc : c < 256) (hd : 0 < d) (hd2 : d < 256) : ∃ r, lp_X9_firstTogether_48 F σ F (nI a) (nI b) (nI c) (nI d) 0 = some r ∧ fstT a b c d r := by
  have small : ∀ u, Cm a b c d u → ∃ j, j < 512 ∧ Cm a b c d (a + j * b) ∧ a + j * b ≤ u ∧ a + j * b < 66000 := by
    intro u hu
    obtain ⟨v, ⟨v1, v2, v3, v4⟩, v5, v6, v7⟩ := Cm_red hb hd hu
    have hq := Nat.div_add_mod (v - a) b
    rw [v3, Nat.add_zero] at hq
    have e : a + (v - a) / b * b = v := by rw [Nat.mul_comm, hq]; omega
    have hL := @evr_le b d
    have hL2 : b * d ≤ b * 255 := Nat.mul_le_mul_left _ (by omega)
    have hm : max a c ≤ a + 255 := Nat.max_le.mpr ⟨by omega, by omega⟩
    have hm2 : max a c ≤ 255 := Nat.max_le.mpr ⟨by omega, by omega⟩
    refine ⟨(v - a) / b, ?_, by rw [e]; exact ⟨v1, v2, v3, v4⟩, by rw [e]; exact v5, by rw [e]; omega⟩
    have h5 : b * ((v - a) / b) < b * 511 := by rw [hq]; omega
    exact Nat.lt_trans (Nat.lt_of_mul_lt_mul_left h5) (by omega)
  have key := loop_p (fun m y x => lp_X9_firstTogether_48 F σ m x (nI b) (nI c) (nI d) y) 512 (fun i x => x = nI (a + i * b) ∧ ∀ j, j < i → ¬ Cm a b c d (a + j * b)) (fun o => ∃ r, o = some r ∧ fstT a b c d r) ?_ ?_ F 0 (nI a) (by omega) (by omega) ⟨by simp, fun j hj => absurd hj (by omega)⟩
  · exact key
  · intro m i x hi hP
    obtain ⟨rfl, hno⟩ := hP
    show (∃ r, lp_X9_firstTogether_48 F σ (m + 1) (nI (a + i * b)) (nI b) (nI c) (nI d) (nI i) = some r ∧ _) ∨ ∃ x', _ ∧ lp_X9_firstTogether_48 F σ (m + 1) (nI (a + i * b)) (nI b) (nI c) (nI d) (nI i) = lp_X9_firstTogether_48 F σ m x' (nI b) (nI c) (nI d) (nI (i + 1))
    have hib : i * b ≤ 511 * 255 := Nat.mul_le_mul (by omega) (by omega)
    rw [lp_X9_firstTogether_48, if_pos (show nI i < (512 : Int32) from nI_lt (b := 512) hi (by omega))]
    simp only [lt, nI_add, nI1, show a + i * b + b = a + (i + 1) * b by rw [Nat.add_mul]; omega]
    have step : ¬ Cm a b c d (a + i * b) → nI (a + (i + 1) * b) = nI (a + (i + 1) * b) ∧ ∀ j, j < i + 1 → ¬ Cm a b c d (a + j * b) := by
      intro h
      refine ⟨rfl, fun j hj => ?_⟩
      by_cases e : j = i
      · subst e; exact h
      · exact hno j (by omega)
    by_cases c1 : a + i * b < c
    · right
      rw [if_pos (nI_lt c1 (by omega))]
      exact ⟨_, step (fun h => by have := h.2.1; omega), rfl⟩
    · rw [if_neg (nI_nlt (by omega) (by omega)), if_neg (show ¬ nI d = (0 : Int32) from nI_ne0 hd (by omega)), pk_sub (show c ≤ a + i * b by omega), irm_n (show a + i * b - c < 2 ^ 31 by omega) hd (by omega)]
      by_cases c2 : (a + i * b - c) % d = 0
      · left
        rw [c2, if_pos (show nI 0 = (0 : Int32) from rfl)]
        have hCm : Cm a b c d (a + i * b) := ⟨by omega, by omega, by rw [Nat.add_sub_cancel_left]; exact Nat.mul_mod_left _ _, c2⟩
        have hmin : ∀ u, Cm a b c d u → a + i * b ≤ u := by
          intro u hu
          obtain ⟨j, -, j2, j3, -⟩ := small u hu
          have : i ≤ j := by
            rcases Nat.lt_or_ge j i with h | h
            · exact absurd j2 (hno j h)
            · exact h
          have := Nat.mul_le_mul_right b this
          omega
        obtain ⟨j, -, j2, j3, j4⟩ := small _ hCm
        have := hmin _ j2
        exact ⟨_, rfl, Or.inl ⟨_, hCm, hmin, by omega, rfl⟩⟩
      · right
        have hm := Nat.mod_lt (a + i * b - c) hd
        rw [if_neg (show ¬ nI ((a + i * b - c) % d) = (0 : Int32) from nI_ne0 (by omega) (by omega))]
        exact ⟨_, step (fun h => c2 h.2.2.2), rfl⟩
  · intro m x hP
    obtain ⟨rfl, hno⟩ := hP
    show ∃ r, lp_X9_firstTogether_48 F σ (m + 1) _ (nI b) (nI c) (nI d) (nI 512) = some r ∧ _
    rw [lp_X9_firstTogether_48, if_neg (show ¬ nI 512 < (512 : Int32) by decide)]
    refine ⟨_, rfl, Or.inr ⟨rfl, fun u hu => ?_⟩⟩
    obtain ⟨j, j1, j2, -⟩ := small u hu
    exact hno j j1 j2
theorem m_first {F : Nat} {τ : jS} {a b c d : Nat} (ha : bb τ 0 = a) (hb : bb τ 1 = b) (hb0 : 0 < b) (hc : bb τ 2 = c) (hd : bb τ 3 = d) (hd0 : 0 < d) (k0 : Int32 → Int32 → Int32 → Int32 → jS → Option (Int32 × jS)) (x1 x2 x3 : Int32) : ∀ (k m : Nat) (x5 : Int32), k ≤ evr b d → k < m → ((x5 = -2 ∧ ∀ u, max a c + k ≤ u → u < max a c + evr b d → ¬ Cm a b c d u) ∨ ∃ t, x5 = nI t ∧ max a c + k ≤ t ∧ t < max a c + evr b d ∧ Cm a b c d t ∧ ∀ u, max a c + k ≤ u → u < max a c + evr b d → Cm a b c d u → t ≤ u) → ∃ r, fstT a b c d r ∧ lp_X12_atOnce_107 F k0 m x1 x2 x3 (nI (max a c)) x5 (nI (max a c + k) + (-1)) τ = k0 x1 x2 x3 r τ := by
  have ba := (bb_n τ 0).1
  have bb1 := (bb_n τ 1).1
  have bc := (bb_n τ 2).1
  have bd := (bb_n τ 3).1
  have hL : evr b d ≤ 65025 := by
    have h1 := @evr_le b d
    have h2 : b * d ≤ 255 * 255 := Nat.mul_le_mul (by omega) (by omega)
    omega
  have hm2 : max a c ≤ 255 := Nat.max_le.mpr ⟨by omega, by omega⟩
  have hma : a ≤ max a c := Nat.le_max_left _ _
  have hmc : c ≤ max a c := Nat.le_max_right _ _
  intro k
  induction k with
  | zero =>
    intro m x5 hk hm hx
    obtain ⟨m, rfl⟩ : ∃ j, m = j + 1 := ⟨m - 1, by omega⟩
    refine ⟨x5, ?_, ?_⟩
    · rcases hx with ⟨e, h⟩ | ⟨t, e, h1, h2, h3, h4⟩
      · refine Or.inr ⟨e, fun u hu => ?_⟩
        obtain ⟨v, v1, v2, v3, v4⟩ := Cm_red hb0 hd0 hu
        exact h v (by omega) v4 v1
      · refine Or.inl ⟨t, h3, fun u hu => ?_, by omega, e⟩
        obtain ⟨v, v1, v2, v3, v4⟩ := Cm_red hb0 hd0 hu
        have := h4 v (by omega) v4 v1
        omega
    · rw [lp_X12_atOnce_107, if_pos (show nI (max a c + 0) + (-1) < nI (max a c) by
        rw [Nat.add_zero, m1_sub, fa_lt, pk_sub_toInt (by omega) (by omega), nI_toInt (by omega)]; omega)]
  | succ k ih =>
    intro m x5 hk hm hx
    obtain ⟨m, rfl⟩ : ∃ j, m = j + 1 := ⟨m - 1, by omega⟩
    rw [show nI (max a c + (k + 1)) + (-1) = nI (max a c + k) from pk_m1 (max a c + k), lp_X12_atOnce_107, if_neg (show ¬ nI (max a c + k) < nI (max a c) from nI_nlt (by omega) (by omega)), show mX12_octet F (0 : Int32) τ = some (nI a) by rw [← ha]; exact m_oct F τ (i := 0) (by omega), show mX12_octet F (1 : Int32) τ = some (nI b) by rw [← hb]; exact m_oct F τ (i := 1) (by omega), show mX12_octet F (2 : Int32) τ = some (nI c) by rw [← hc]; exact m_oct F τ (i := 2) (by omega), show mX12_octet F (3 : Int32) τ = some (nI d) by rw [← hd]; exact m_oct F τ (i := 3) (by omega)]
    simp only [Option.bind_some, if_neg (show ¬ nI b = (0 : Int32) from nI_ne0 hb0 (by omega)), if_neg (show ¬ nI d = (0 : Int32) from nI_ne0 hd0 (by omega))]
    rw [pk_sub (show a ≤ max a c + k by omega), pk_sub (show c ≤ max a c + k by omega), irm_n (show max a c + k - a < 2 ^ 31 by omega) hb0 (by omega), irm_n (show max a c + k - c < 2 ^ 31 by omega) hd0 (by omega)]
    have r1 := Nat.mod_lt (max a c + k - a) hb0
    have r2 := Nat.mod_lt (max a c + k - c) hd0
    have skip : ¬ Cm a b c d (max a c + k) → ∃ r, fstT a b c d r ∧ lp_X12_atOnce_107 F k0 m x1 x2 x3 (nI (max a c)) x5 (nI (max a c + k) + (-1)) τ = k0 x1 x2 x3 r τ := by
      intro hn
      refine ih m x5 (by omega) (by omega) ?_
      rcases hx with ⟨e, h⟩ | ⟨t, e, h1, h2, h3, h4⟩
      · refine Or.inl ⟨e, fun u u1 u2 => ?_⟩
        by_cases q : u = max a c + k
        · subst q; exact hn
        · exact h u (by omega) u2
      · refine Or.inr ⟨t, e, by omega, h2, h3, fun u u1 u2 u3 => ?_⟩
        by_cases q : u = max a c + k
        · subst q; exact absurd u3 hn
        · exact h4 u (by omega) u2 u3
    by_cases c1 : (max a c + k - a) % b = 0
    · rw [c1, if_pos (show nI 0 = (0 : Int32) from rfl)]
      by_cases c2 : (max a c + k - c) % d = 0
      · rw [c2, if_pos (show nI 0 = (0 : Int32) from rfl)]
        refine ih m _ (by omega) (by omega) (Or.inr ⟨_, rfl, by omega, by omega, ⟨by omega, by omega, c1, c2⟩, fun u u1 _ _ => u1⟩)
      · rw [if_neg (show ¬ nI ((max a c + k - c) % d) = (0 : Int32) from nI_ne0 (by omega) (by omega))]
        exact skip (fun h => c2 h.2.2.2)
    · rw [if_neg (show ¬ nI ((max a c + k - a) % b) = (0 : Int32) from nI_ne0 (by omega) (by omega))]
      exact skip (fun h => c1 h.2.2.1)
theorem s_atOnce (F : Nat) (hF : 66000 ≤ F) : S_atOnce F Inv := by
  intro σ τ x1 x2 hI
  unfold mX11_atOnce mX12_atOnce
  rw [isW, isI, isW, isI]
  rcases inr_c x1 0 65535 with e | ⟨e, h1, h2⟩
  · rw [e]; exact ⟨-1, σ, τ, rfl, rfl, hI⟩
  rcases inr_c x2 0 1 with e2 | ⟨e2, -, -⟩
  · rw [e, e2]; exact ⟨-1, σ, τ, rfl, rfl, hI⟩
  obtain ⟨n, -, hn, rfl⟩ := inr_nat (a := 0) (b := 65535) (by omega) (by omega) h1 h2
  simp only [e, e2, Option.bind_some, if_neg (show ¬ (1 : Int32) = 0 by decide)]
  have e4 : (4 : Int32) = nI 4 := rfl
  rcases tape_cases F hI (show 4 ≤ 260 by omega) with ⟨a1, a2⟩ | ⟨a1, a2, σ1, a3, hI2, -⟩
  · rw [e4, a1, if_pos a2]; exact ⟨-1, σ, τ, rfl, rfl, hI⟩
  rw [e4, a1, if_neg a2, a3]
  simp only [Option.bind_some, if_neg (show ¬ (1 : Int32) = 0 by decide)]
  rw [ltE]
  generalize js τ 0 6 0 = τ1 at hI2 ⊢
  obtain ⟨⟨-, t4⟩, -⟩ := id hI2
  have ba := (bb_n τ1 0).1
  have bb1 := (bb_n τ1 1).1
  have bc := (bb_n τ1 2).1
  have bd := (bb_n τ1 3).1
  unfold mX9_firstTogether mX9_timesTogether
  simp only [show mX10_byteAt F (0 : Int32) σ1 = some (nI (bb τ1 0)) from x_byte F t4 (i := 0) (by omega), show mX10_byteAt F (1 : Int32) σ1 = some (nI (bb τ1 1)) from x_byte F t4 (i := 1) (by omega), show mX10_byteAt F (2 : Int32) σ1 = some (nI (bb τ1 2)) from x_byte F t4 (i := 2) (by omega), show mX10_byteAt F (3 : Int32) σ1 = some (nI (bb τ1 3)) from x_byte F t4 (i := 3) (by omega), show mX12_octet F (0 : Int32) τ1 = some (nI (bb τ1 0)) from m_oct F τ1 (i := 0) (by omega), show mX12_octet F (1 : Int32) τ1 = some (nI (bb τ1 1)) from m_oct F τ1 (i := 1) (by omega), show mX12_octet F (2 : Int32) τ1 = some (nI (bb τ1 2)) from m_oct F τ1 (i := 2) (by omega), show mX12_octet F (3 : Int32) τ1 = some (nI (bb τ1 3)) from m_oct F τ1 (i := 3) (by omega), Option.bind_some]
  by_cases c1 : bb τ1 1 = 0
  · rw [c1, if_pos (show nI 0 = (0 : Int32) from rfl), if_pos (show nI 0 = (0 : Int32) from rfl)]; exact ⟨-3, σ1, τ1, rfl, rfl, hI2⟩
  rw [if_neg (show ¬ nI (bb τ1 1) = (0 : Int32) from nI_ne0 (by omega) (by omega)), if_neg (show ¬ nI (bb τ1 1) = (0 : Int32) from nI_ne0 (by omega) (by omega))]
  by_cases c3 : bb τ1 3 = 0
  · rw [c3, if_pos (show nI 0 = (0 : Int32) from rfl), if_pos (show nI 0 = (0 : Int32) from rfl)]; exact ⟨-3, σ1, τ1, rfl, rfl, hI2⟩
  have n3 : ¬ nI (bb τ1 3) = (0 : Int32) := nI_ne0 (by omega) (by omega)
  have hg : 0 < Nat.gcd (bb τ1 1) (bb τ1 3) := Nat.gcd_pos_of_pos_left _ (by omega)
  have hg2 : Nat.gcd (bb τ1 1) (bb τ1 3) ≤ bb τ1 1 := Nat.gcd_le_left _ (by omega)
  have ng : ¬ nI (Nat.gcd (bb τ1 1) (bb τ1 3)) = (0 : Int32) := nI_ne0 hg (by omega)
  have eL : nI (bb τ1 1) / nI (Nat.gcd (bb τ1 1) (bb τ1 3)) * nI (bb τ1 3) = nI (evr (bb τ1 1) (bb τ1 3)) := by
    rw [pk_div (by omega) hg (by omega), pk_mul]; rfl
  have hLp := evr_pos (show 0 < bb τ1 1 by omega) (show 0 < bb τ1 3 by omega)
  have hL : evr (bb τ1 1) (bb τ1 3) ≤ 65025 := by
    have h1 := @evr_le (bb τ1 1) (bb τ1 3)
    have h2 : bb τ1 1 * bb τ1 3 ≤ 255 * 255 := Nat.mul_le_mul (by omega) (by omega)
    omega
  have nL : ¬ nI (evr (bb τ1 1) (bb τ1 3)) = (0 : Int32) := nI_ne0 hLp (by omega)
  simp only [if_neg n3, x9_gcd (F := F) (by omega) (show bb τ1 1 < 2 ^ 31 by omega) (show bb τ1 3 < 65536 by omega), m_gcd (F := F) (by omega) (show bb τ1 1 < 2 ^ 31 by omega) (show bb τ1 3 < 65536 by omega), Option.bind_some, if_neg ng, ltE, eL, m_max F τ1 (show bb τ1 0 < 2 ^ 31 by omega) (show bb τ1 2 < 2 ^ 31 by omega), if_neg nL]
  obtain ⟨r, r1, r2⟩ := x9_first (F := F) (by omega) (σ := σ1) ba (show 0 < bb τ1 1 by omega) bb1 bc (show 0 < bb τ1 3 by omega) bd
  have hm2 : max (bb τ1 0) (bb τ1 2) ≤ 255 := Nat.max_le.mpr ⟨by omega, by omega⟩
  obtain ⟨s, s1, s2⟩ := m_first (F := F) (τ := τ1) rfl rfl (show 0 < bb τ1 1 by omega) rfl rfl (show 0 < bb τ1 3 by omega) (fun x1_22 x2_22 x3_22 x5_22 σ22 => (if x2_22 = 0 then some (x5_22, σ22) else (if x5_22 = (-2 : Int32) then some ((0 : Int32), σ22) else (if x1_22 < x5_22 then some ((0 : Int32), σ22) else (if x3_22 = 0 then none else some ((((x1_22 - x5_22) / x3_22) + (1 : Int32)), σ22)))))) (nI n) x2 (nI (evr (bb τ1 1) (bb τ1 3))) (evr (bb τ1 1) (bb τ1 3)) F (-2) (Nat.le_refl _) (by omega) (Or.inl ⟨rfl, fun u a b => absurd b (by omega)⟩)
  have es : s = r := fstT_one s1 r2
  subst es
  rw [← nI_add, m1_sub] at s2
  have s2 : lp_X12_atOnce_107 F _ F (nI n) x2 (nI (evr (bb τ1 1) (bb τ1 3))) (nI (max (bb τ1 0) (bb τ1 2))) (-2) (nI (max (bb τ1 0) (bb τ1 2)) + nI (evr (bb τ1 1) (bb τ1 3)) - (1 : Int32)) τ1 = _ := s2
  rw [s2, r1]
  simp only [Option.bind_some, ltE, if_neg nL]
  by_cases c4 : x2 = 0
  · rw [if_pos c4, if_pos c4]; exact ⟨_, σ1, τ1, rfl, rfl, hI2⟩
  rw [if_neg c4, if_neg c4]
  rcases r2 with ⟨t, -, -, t3, rfl⟩ | ⟨rfl, -⟩
  · rw [if_neg (show ¬ nI t < 0 from nI_pos (by omega)), if_neg (show ¬ nI t = (-2 : Int32) by rw [fa_eq, nI_toInt (by omega)]; show ¬ (t : Int) = -2; omega)]
    by_cases c5 : nI n < nI t
    · rw [if_pos c5, if_pos c5]; exact ⟨_, σ1, τ1, rfl, rfl, hI2⟩
    · rw [if_neg c5, if_neg c5]; exact ⟨_, σ1, τ1, rfl, rfl, hI2⟩
  · rw [if_pos (show (-2 : Int32) < 0 by decide), if_pos rfl]; exact ⟨_, σ1, τ1, rfl, rfl, hI2⟩
