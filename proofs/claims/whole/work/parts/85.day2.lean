/-- a lot is drawn -/
theorem s_draw {F c e B : Nat} {σ0 τ0 σ τ : jS} (h : dy c e B σ0 τ0 σ τ) : ∃ dr σ' , mX0_draw F c σ = some (dr, σ') ∧ dr = irm (js τ 1 211 (irm (((25173 : Int32) * (τ 1 211)) + (13849 : Int32)) (65536 : Int32)) 1 211) (10 : Int32) ∧ dy c e B σ0 τ0 σ' (js τ 1 211 (irm (((25173 : Int32) * (τ 1 211)) + (13849 : Int32)) (65536 : Int32))) := by
  have hW := h.1.2.2.1
  have hR := h.1.2.2.2.1
  obtain ⟨v, hv, ev⟩ := lot_n hW.1
  have el : irm (((25173 : Int32) * (τ 1 211)) + (13849 : Int32)) (65536 : Int32) = nI ((25173 * v + 13849) % 65536) := by
    rw [ev]
    show irm (nI 25173 * nI v + nI 13849) (nI 65536) = _
    rw [pk_mul, nI_add]
    exact irm_n (by omega) (by omega) (by omega)
  have hm : (25173 * v + 13849) % 65536 < 65536 := Nat.mod_lt _ (by omega)
  unfold mX0_draw
  simp only [ltE, cityR_lot_at hR]
  rw [el]
  generalize (25173 * v + 13849) % 65536 = u at hm
  refine ⟨_, _, rfl, by rw [js_at, js_at], dy_row h (onlyX_js _ _ _ (by omega)) (js_k _ _ (by omega)) (fun d hd => js_c _ _ _ hd) ?_ (by rw [js_row]; exact cityR_lot hR _) ⟨js_k _ _ (by omega), js_k _ _ (by omega)⟩⟩
  rw [js_row]
  exact ⟨cityW0_upd hW.1 (rk_n (by simp; omega)), fun q hq h1 => by
    rw [pk_un (by omega)] at h1
    rw [pk_un (by omega), pk_un (by omega)]
    exact hW.2 q hq h1⟩
/-- an hour of one who lives -/
theorem s_hour {F c e B : Nat} (hF : 300 ≤ F) {σ0 τ0 σ τ : jS} (h : dy c e B σ0 τ0 σ τ) {p hr : Nat} (hp : p < 16) (hh : hr < 24) (hl : τ 1 (48 + p) = 1) (k : jS → Option jS) : ∃ σ' τ', (Option.bind (mX0_draw F c σ) fun q2 => (Option.bind (mX2_turnTo F (nI p) (nI hr) q2.1 (1 : Int32) q2.2) fun q3 => (Option.bind (mX2_worth F (120 : Int32) (0 : Int32) (1 : Int32) (1 : Int32) q3) fun q4 => (if q4.1 = (1 : Int32) then (Option.bind (mX0_bury F c (nI p) q4.2) fun q5 => (k q5)) else (Option.bind (mX2_worth F (112 : Int32) (60 : Int32) (1 : Int32) (255 : Int32) q4.2) fun q6 => (Option.bind (mX0_spend F c (nI p) (((60 : Int32) * q6.1)) q6.2) fun q7 => (k q7))))))) = k σ' ∧ mX12_hourOf F (nI p) (nI hr) τ = some τ' ∧ dy c e B σ0 τ0 σ' τ' := by
  obtain ⟨dr, σ1, a1, a2, a3⟩ := s_draw (F := F) h
  unfold mX12_hourOf
  rw [ltE, a1]
  simp only [Option.bind_some]
  rw [← a2]
  generalize hτ1 : js τ 1 211 (irm (((25173 : Int32) * (τ 1 211)) + (13849 : Int32)) (65536 : Int32)) = τ1 at a3 ⊢
  have l1 : τ1 1 (48 + p) = 1 := by rw [← hτ1, js_k _ _ (show 48 + p ≠ 211 by omega)]; exact hl
  have hW1 := a3.1.2.2.1
  rw [m_others (F := F) (by omega) hW1 hp hh]
  simp only [Option.bind_some]
  obtain ⟨σ2, τ2, b1, b2, b3, b4, b5, b6, b7⟩ := s_ask hF a3.1 a3.2.1 hp (show hr ≤ 24 by omega) (am := 1) (Or.inr rfl) dr (oth (τ1 1) τ1 p hr) (by rw [if_neg (show ¬ (1 : Int32) = 0 by decide), Nat.min_eq_right (by omega)])
  rw [b1, b2]
  simp only [Option.bind_some]
  obtain ⟨w0, σx, τ3, -, -, -, c4, -, c6⟩ := s_pace hF b3
  obtain ⟨r, σ3, τ4, d1, d2, d3, d4, d5⟩ := s_dies0 hF (evC_tr b3 (evX_rf _) c6)
  obtain ⟨w, σ4, τ3', w1, w2, f3, f4, f5, f6⟩ := s_pace hF (evC_tr b3 d3 (evM_rf _))
  have ew : (nI (60 * w0), τ3) = (nI (60 * w), τ3') := by
    have := c4.symm.trans f4
    exact Option.some.inj this
  have e1 : nI (60 * w0) = nI (60 * w) := congrArg Prod.fst ew
  rw [c4, e1]
  simp only [Option.bind_some]
  rw [d1, d2]
  simp only [Option.bind_some]
  have g3 : dy c e B σ0 τ0 σ3 τ4 := dy_ev a3 (sX_tr b4 (sX_ev d3)) (sat_ev b5 d3) (sM_tr b6 (sM_tr (sM_ev c6) (sM_ev d4)))
  have t4 : τ4 1 = τ1 1 := (sM_tr b6 (sM_tr (sM_ev c6) (sM_ev d4))) 1 (by omega) (by omega)
  have l4 : τ4 1 (48 + p) = 1 := by rw [t4]; exact l1
  rcases d5 with rfl | rfl
  · rw [if_neg (show ¬ (0 : Int32) = 1 by decide), if_pos rfl, f3]
    simp only [Option.bind_some]
    have g4 : dy c e B σ0 τ0 σ4 τ4 := dy_ev g3 (sX_ev f5) (sat_ev g3.2.1 f5) (sM_rf _)
    rw [x60]
    obtain ⟨σ5, τ5, u1, u2, u3⟩ := s_spend (F := F) g4 hp l4 (w := 60 * w) (by omega)
    rw [u1]
    exact ⟨σ5, τ5, rfl, u2, u3⟩
  · rw [if_pos rfl, if_neg (show ¬ (1 : Int32) = 0 by decide)]
    obtain ⟨σ5, τ5, u1, u2, u3⟩ := s_bury (F := F) g3 hp l4
    rw [u1, u2]
    exact ⟨σ5, τ5, rfl, rfl, u3⟩
/-- an hour of all -/
theorem s_hours {F c e B : Nat} (hF : 300 ≤ F) {σ0 τ0 σ τ : jS} (h : dy c e B σ0 τ0 σ τ) {hr : Nat} (hh : hr < 24) (k : Int32 → jS → Option jS) : ∃ σ' τ', mX11_passHour F c (nI hr) σ = some σ' ∧ lp_X12_dayGoes_10 F k F (nI hr) 0 τ = k (nI hr) τ' ∧ dy c e B σ0 τ0 σ' τ' := by
  unfold mX11_passHour
  refine loop_q (fun m y (a : jS) => lp_X11_passHour_2 F c m (nI hr) y a) (fun m y (b : jS) => lp_X12_dayGoes_10 F k m (nI hr) y b) 16 (fun i a b => dy c e B σ0 τ0 a b) (fun r s => ∃ σ' τ', r = some σ' ∧ s = k (nI hr) τ' ∧ dy c e B σ0 τ0 σ' τ') ?_ ?_ F 0 σ τ (by omega) (by omega) h
  · intro m i a b hi hP
    right
    show ∃ a' b', _ ∧ lp_X11_passHour_2 F c (m + 1) (nI hr) (nI i) a = lp_X11_passHour_2 F c m (nI hr) (nI (i + 1)) a' ∧ lp_X12_dayGoes_10 F k (m + 1) (nI hr) (nI i) b = lp_X12_dayGoes_10 F k m (nI hr) (nI (i + 1)) b'
    have hW := hP.1.2.2.1
    have hR := hP.1.2.2.2.1
    rw [lp_X11_passHour_2, lp_X12_dayGoes_10, if_pos (lt16 hi), if_pos (lt16 hi), x0_live hR, m_live hW, tl_in _ hi, nI1]
    simp only [Option.bind_some]
    by_cases c1 : b 1 (48 + i) = 0
    · rw [if_pos c1, if_pos c1]
      exact ⟨a, b, hP, rfl, rfl⟩
    · rw [if_neg c1, if_neg c1]
      obtain ⟨σ', τ', u1, u2, u3⟩ := s_hour hF hP hi hh (live1 hW.1 hi c1) (lp_X11_passHour_2 F c m (nI hr) (nI (i + 1)))
      rw [u1, u2]
      exact ⟨σ', τ', u3, rfl, rfl⟩
  · intro m a b hP
    show ∃ σ' τ', lp_X11_passHour_2 F c (m + 1) (nI hr) (nI 16) a = some σ' ∧ lp_X12_dayGoes_10 F k (m + 1) (nI hr) (nI 16) b = _ ∧ _
    rw [lp_X11_passHour_2, lp_X12_dayGoes_10, if_neg nlt16, if_neg nlt16]
    exact ⟨a, b, rfl, rfl, hP⟩
theorem cityW_beats {t : Nat → Int32} (h : cityW t) {p v : Nat} (hp : p < 16) (hv : v ≤ 999999999) (h0 : v ≠ 0) : cityW (upd t (16 + p) (nI v)) := by
  refine ⟨cityW0_upd h.1 (rk_n (by rw [if_neg (by omega), if_pos (by omega)]; exact hv)), fun q hq h1 => ?_⟩
  rw [pk_un (by omega)] at h1
  by_cases e : q = p
  · subst e
    rw [pk_un (by omega), pk_us]
    exact ⟨(h.2 q hq h1).1, nI_ne0 (by omega) (by omega)⟩
  · rw [pk_un (by omega), pk_un (by omega)]
    exact h.2 q hq h1
theorem cityW_due {t : Nat → Int32} (h : cityW t) {l v : Nat} (hl : l < 24) (hv : v ≤ 9999999) : cityW (upd t (184 + l) (nI v)) := by
  refine ⟨cityW0_upd h.1 (rk_n (by rw [if_neg (by omega), if_neg (by omega), if_neg (by omega), if_neg (by omega), if_neg (by omega), if_neg (by omega), if_neg (by omega), if_neg (by omega), if_pos (by omega)]; exact hv)), fun q hq h1 => ?_⟩
  rw [pk_un (by omega)] at h1
  rw [pk_un (by omega), pk_un (by omega)]
  exact h.2 q hq h1
theorem cityW_age {t : Nat → Int32} (h : cityW t) {p v : Nat} (hp : p < 16) (hv : v ≤ 99999) : cityW (upd t (32 + p) (nI v)) := by
  refine ⟨cityW0_upd h.1 (rk_n (by rw [if_neg (by omega), if_neg (by omega), if_pos (by omega)]; exact hv)), fun q hq h1 => ?_⟩
  rw [pk_un (by omega)] at h1
  rw [pk_un (by omega), pk_un (by omega)]
  exact h.2 q hq h1
theorem cityW_parish {t : Nat → Int32} (h : cityW t) {v : Nat} (hv : v ≤ 999999999) : cityW (upd t 209 (nI v)) := by
  refine ⟨cityW0_upd h.1 (rk_n (by simpa using hv)), fun q hq h1 => ?_⟩
  rw [pk_un (by omega)] at h1
  rw [pk_un (by omega), pk_un (by omega)]
  exact h.2 q hq h1
theorem cityW_day {t : Nat → Int32} (h : cityW t) {v : Nat} (hv : v ≤ 9999) : cityW (upd t 210 (nI v)) := by
  refine ⟨cityW0_upd h.1 (rk_n (by simpa using hv)), fun q hq h1 => ?_⟩
  rw [pk_un (by omega)] at h1
  rw [pk_un (by omega), pk_un (by omega)]
  exact h.2 q hq h1
theorem nz {b : Nat} (h : nI b ≠ (0 : Int32)) : 1 ≤ b := by
  rcases Nat.eq_zero_or_pos b with e | e
  · subst e; exact absurd rfl h
  · exact e
/-- a loan goes on for a day -/
theorem s_loan {F c e B : Nat} {σ0 τ0 σ τ : jS} (h : dy c e B σ0 τ0 σ τ) {l : Nat} (hl : l < 24) (hn : nI l < τ 1 208) (m : Nat) : ∃ σ' τ', lp_X0_payLoans_2 F c (m + 1) (nI l) σ = lp_X0_payLoans_2 F c m (nI (l + 1)) σ' ∧ mX12_loanGoes F (nI l) τ = some τ' ∧ dy c e B σ0 τ0 σ' τ' ∧ τ' 1 208 = τ 1 208 := by
  have hW := h.1.2.2.1
  have hR := h.1.2.2.2.1
  obtain ⟨x, hx, ex⟩ := who_n hW.1 (i := 64 + l) (by omega) (by omega)
  obtain ⟨y, hy, ey⟩ := who_n hW.1 (i := 88 + l) (by omega) (by omega)
  have hx : x < 16 := by omega
  have hy : y < 16 := by omega
  obtain ⟨u, hu, eu⟩ := due_n hW.1 hl
  obtain ⟨r, hr, er⟩ := rate_n hW.1 hl
  obtain ⟨d, hd, ed⟩ := paid_n hW.1 hl
  obtain ⟨bx, hbx, ebx⟩ := beats_n hW.1 hx
  obtain ⟨b, hb, eb⟩ := beats_n hW.1 hy
  rw [lp_X0_payLoans_2, cityR_many_at hR, if_pos hn, if_pos (show nI l < (24 : Int32) from nI_lt (b := 24) hl (by omega))]
  unfold mX12_loanGoes
  simp only [ltE, jin_nI hl (show 24 < 2 ^ 31 by omega), if_true, nI_clamp (show l < 2 ^ 31 by omega), show σ (c + 3 + 1) l = τ 1 (64 + l) from cityR_from_at hR hl hn, show σ (c + 3 + 2) l = τ 1 (88 + l) from cityR_to_at hR hl hn, show σ (c + 3 + 5) l = τ 1 (160 + l) from cityR_paid_at hR hl hn, show σ (c + 3 + 6) l = τ 1 (184 + l) from cityR_due_at hR hl hn, show (64 : Int32) + nI l = nI (64 + l) from nI_add 64 l, show (88 : Int32) + nI l = nI (88 + l) from nI_add 88 l, show (136 : Int32) + nI l = nI (136 + l) from nI_add 136 l, show (160 : Int32) + nI l = nI (160 + l) from nI_add 160 l, show (184 : Int32) + nI l = nI (184 + l) from nI_add 184 l, jin_nI (show 64 + l < 212 by omega) (show 212 < 2 ^ 31 by omega), jin_nI (show 88 + l < 212 by omega) (show 212 < 2 ^ 31 by omega), jin_nI (show 136 + l < 212 by omega) (show 212 < 2 ^ 31 by omega), jin_nI (show 160 + l < 212 by omega) (show 212 < 2 ^ 31 by omega), jin_nI (show 184 + l < 212 by omega) (show 212 < 2 ^ 31 by omega), nI_clamp (show 64 + l < 2 ^ 31 by omega), nI_clamp (show 88 + l < 2 ^ 31 by omega), nI_clamp (show 136 + l < 2 ^ 31 by omega), nI_clamp (show 160 + l < 2 ^ 31 by omega), nI_clamp (show 184 + l < 2 ^ 31 by omega), ex, ey, eu, er, ed, nI1, x0_live hR, m_live hW, tl_in _ hx, tl_in _ hy, Option.bind_some]
  by_cases c1 : τ 1 (48 + x) = 0
  · rw [if_pos c1, if_pos c1]
    exact ⟨σ, τ, rfl, rfl, h, rfl⟩
  rw [if_neg c1, if_neg c1]
  by_cases c2 : τ 1 (48 + y) = 0
  · rw [if_pos c2, if_pos c2]
    exact ⟨σ, τ, rfl, rfl, h, rfl⟩
  rw [if_neg c2, if_neg c2]
  have b1 : 1 ≤ b := nz (by rw [← eb]; exact (hW.2 y hy (live1 hW.1 hy c2)).2)
  have bx1 : 1 ≤ bx := nz (by rw [← ebx]; exact (hW.2 x hx (live1 hW.1 hx c1)).2)
  have hg := gw_le u r
  rw [x6_grown F hW.1 hR hl hn hu hr er, m_grown F τ hu hr]
  simp only [Option.bind_some, jin_nI hx (show 16 < 2 ^ 31 by omega), jin_nI hy (show 16 < 2 ^ 31 by omega), if_true, nI_clamp (show x < 2 ^ 31 by omega), nI_clamp (show y < 2 ^ 31 by omega), show (16 : Int32) + nI x = nI (16 + x) from nI_add 16 x, show (16 : Int32) + nI y = nI (16 + y) from nI_add 16 y, jin_nI (show 16 + x < 212 by omega) (show 212 < 2 ^ 31 by omega), jin_nI (show 16 + y < 212 by omega) (show 212 < 2 ^ 31 by omega), nI_clamp (show 16 + x < 2 ^ 31 by omega), nI_clamp (show 16 + y < 2 ^ 31 by omega), cityR_beats_at hR hy, js_at, js_k τ _ (show 160 + l ≠ 184 + l by omega), js_k τ _ (show 16 + y ≠ 184 + l by omega), ed, eb]
  have es : nI b - (1 : Int32) = nI (b - 1) := pk_sub b1
  rw [es, imin_nI (by omega) (by omega), imin_nI (by omega) (by omega), m_min F _ (show gw u r < 2 ^ 31 by omega) (show b - 1 < 2 ^ 31 by omega)]
  simp only [Option.bind_some]
  rw [m_min F _ (show d < 2 ^ 31 by omega) (show min (gw u r) (b - 1) < 2 ^ 31 by omega)]
  have emin : min (min d (gw u r)) (b - 1) = min d (min (gw u r) (b - 1)) := Nat.min_assoc _ _ _
  rw [emin]
  have hz1 : min d (min (gw u r) (b - 1)) ≤ gw u r := Nat.le_trans (Nat.min_le_right _ _) (Nat.min_le_left _ _)
  have hz2 : min d (min (gw u r) (b - 1)) ≤ b - 1 := Nat.le_trans (Nat.min_le_right _ _) (Nat.min_le_right _ _)
  generalize min d (min (gw u r) (b - 1)) = z at hz1 hz2
  generalize gw u r = g at hg hz1
  simp only [Option.bind_some, pk_sub hz1]
  -- the class's three writes
  have s1 : js σ (c + 3 + 6) l (nI (g - z)) (c + 1) y = nI b := by rw [js_c _ _ _ (show c + 1 ≠ c + 3 + 6 by omega), cityR_beats_at hR hy, eb]
  rw [s1]
  have m1 : js (js τ 1 (184 + l) (nI g)) 1 (184 + l) (nI (g - z)) 1 (16 + y) = nI b := by rw [js_k _ _ (show 16 + y ≠ 184 + l by omega), js_k _ _ (show 16 + y ≠ 184 + l by omega), eb]
  rw [m1, pk_sub (show z ≤ b by omega)]
  have hc1 : cityR c (js σ (c + 3 + 6) l (nI (g - z))) (upd (τ 1) (184 + l) (nI (g - z))) := cityR_due hR hl hn _
  have hc2 := cityR_beats hc1 hy (nI (b - z))
  have hW1 := cityW_due hW hl (v := g - z) (by omega)
  have hW2 := cityW_beats hW1 hy (v := b - z) (by omega) (by omega)
  have t1 : js (js (js τ 1 (184 + l) (nI g)) 1 (184 + l) (nI (g - z))) 1 (16 + y) (nI (b - z)) 1 = upd (upd (τ 1) (184 + l) (nI (g - z))) (16 + y) (nI (b - z)) := by
    rw [js_row, js_row, js_row, fa_upd_twice]
  obtain ⟨q, hq, eq⟩ := beats_n hW2.1 hx
  have s2 : js (js σ (c + 3 + 6) l (nI (g - z))) (c + 1) y (nI (b - z)) (c + 1) x = nI q := by rw [cityR_beats_at hc2 hx, eq]
  have m2 : js (js (js τ 1 (184 + l) (nI g)) 1 (184 + l) (nI (g - z))) 1 (16 + y) (nI (b - z)) 1 (16 + x) = nI q := by rw [t1, eq]
  have q1 : 1 ≤ q := by
    by_cases e : x = y
    · subst e
      rw [pk_us] at eq
      have := nI_inj (by omega) (by omega) eq
      omega
    · rw [pk_un (by omega), pk_un (by omega), ebx] at eq
      have := nI_inj (by omega) (by omega) eq
      omega
  rw [s2, m2, nI_add, show imin (999999999 : Int32) (nI (q + z)) = nI (min 999999999 (q + z)) from imin_nI (a := 999999999) (by omega) (by omega), show ∀ ρ, mX12_min F (999999999 : Int32) (nI (q + z)) ρ = some (nI (min 999999999 (q + z))) from fun ρ => m_min F ρ (a := 999999999) (by omega) (by omega)]
  simp only [Option.bind_some]
  have hm1 : min 999999999 (q + z) ≤ 999999999 := Nat.min_le_left _ _
  have hm2 : min 999999999 (q + z) ≠ 0 := by omega
  generalize min 999999999 (q + z) = w at hm1 hm2
  have t2 : js (js (js (js τ 1 (184 + l) (nI g)) 1 (184 + l) (nI (g - z))) 1 (16 + y) (nI (b - z))) 1 (16 + x) (nI w) 1 = upd (upd (upd (τ 1) (184 + l) (nI (g - z))) (16 + y) (nI (b - z))) (16 + x) (nI w) := by
    rw [js_row _ 1 (16 + x), t1]
  refine ⟨_, _, rfl, rfl, dy_row h (onlyX_tr (onlyX_tr (onlyX_js _ _ _ (by omega)) (onlyX_js _ _ _ (by omega))) (onlyX_js _ _ _ (by omega))) ?_ (fun d hd => by rw [js_c _ _ _ hd, js_c _ _ _ hd, js_c _ _ _ hd, js_c _ _ _ hd]) (by rw [t2]; exact cityW_beats hW2 hx hm1 hm2) (by rw [t2]; exact cityR_beats hc2 hx _) ⟨by rw [t2, pk_un (by omega), pk_un (by omega), pk_un (by omega)], by rw [t2, pk_un (by omega), pk_un (by omega), pk_un (by omega)]⟩, ?_⟩
  · rw [js_c _ _ _ (show c ≠ c + 1 by omega), js_c _ _ _ (show c ≠ c + 1 by omega), js_c _ _ _ (show c ≠ c + 3 + 6 by omega)]
  · rw [t2, pk_un (by omega), pk_un (by omega), pk_un (by omega)]
theorem s_loans {F c e B : Nat} (hF : 300 ≤ F) {σ0 τ0 σ τ : jS} (h : dy c e B σ0 τ0 σ τ) (k : jS → Option jS) : ∃ σ' τ', mX0_payLoans F c σ = some σ' ∧ lp_X12_dayGoes_44 F k F 0 τ = k τ' ∧ dy c e B σ0 τ0 σ' τ' := by
  obtain ⟨n, hn, en⟩ := many_n h.1.2.2.1.1
  unfold mX0_payLoans
  refine loop_q (fun m y (a : jS) => lp_X0_payLoans_2 F c m y a) (fun m y (b : jS) => lp_X12_dayGoes_44 F k m y b) n (fun i a b => dy c e B σ0 τ0 a b ∧ b 1 208 = nI n) (fun r s => ∃ σ' τ', r = some σ' ∧ s = k τ' ∧ dy c e B σ0 τ0 σ' τ') ?_ ?_ F 0 σ τ (by omega) (by omega) ⟨h, en⟩
  · intro m l a b hl hP
    obtain ⟨hP, eb⟩ := hP
    right
    show ∃ a' b', _ ∧ lp_X0_payLoans_2 F c (m + 1) (nI l) a = lp_X0_payLoans_2 F c m (nI (l + 1)) a' ∧ lp_X12_dayGoes_44 F k (m + 1) (nI l) b = lp_X12_dayGoes_44 F k m (nI (l + 1)) b'
    have hln : nI l < b 1 208 := by rw [eb]; exact nI_lt hl (by omega)
    obtain ⟨σ', τ', u1, u2, u3, u4⟩ := s_loan (F := F) hP (show l < 24 by omega) hln m
    rw [u1, lp_X12_dayGoes_44, if_pos hln, u2, nI1]
    exact ⟨σ', τ', ⟨u3, by rw [u4]; exact eb⟩, rfl, rfl⟩
  · intro m a b hP
    obtain ⟨hP, eb⟩ := hP
    show ∃ σ' τ', lp_X0_payLoans_2 F c (m + 1) (nI n) a = some σ' ∧ lp_X12_dayGoes_44 F k (m + 1) (nI n) b = k τ' ∧ _
    rw [lp_X0_payLoans_2, lp_X12_dayGoes_44, cityR_many_at hP.1.2.2.2.1, eb, if_neg (nI_nlt (Nat.le_refl n) (by omega)), if_neg (nI_nlt (Nat.le_refl n) (by omega))]
    exact ⟨a, b, rfl, rfl, hP⟩
