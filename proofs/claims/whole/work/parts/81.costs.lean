/-! ===== what an hour costs, in both ===== -/
def sX (σ σ' : jS) : Prop := ∀ d, d ≠ 58 → d ≠ 59 → σ' d = σ d
def sM (τ τ' : jS) : Prop := ∀ d, d ≠ 18 → d ≠ 19 → τ' d = τ d
theorem sX_rf (σ : jS) : sX σ σ := fun _ _ _ => rfl
theorem sM_rf (τ : jS) : sM τ τ := fun _ _ _ => rfl
theorem sX_tr {a b c : jS} (h : sX a b) (g : sX b c) : sX a c := fun d h1 h2 => (g d h1 h2).trans (h d h1 h2)
theorem sM_tr {a b c : jS} (h : sM a b) (g : sM b c) : sM a c := fun d h1 h2 => (g d h1 h2).trans (h d h1 h2)
theorem sX_ev {σ σ' : jS} (h : evX σ σ') : sX σ σ' := h.1
theorem sM_ev {τ τ' : jS} (h : evM τ τ') : sM τ τ' := fun d h1 _ => h d h1
theorem sX_58 (σ : jS) (k : Nat) (v : Int32) : sX σ (js σ 58 k v) := fun d h _ => js_c _ _ _ h
def cy (c e : Nat) (σ τ : jS) : Prop := (c = 3 ∨ c = 23) ∧ (e = 46 ∨ e = 52) ∧ cityW (τ 1) ∧ cityR c σ (τ 1) ∧ routX σ τ ∧ lawR e σ τ
def sat (c e : Nat) (σ : jS) : Prop := σ 58 2 = nI c ∧ σ 58 3 = nI e
theorem cy_tr {c e : Nat} {σ τ σ' τ' : jS} (h : cy c e σ τ) (hX : sX σ σ') (hM : sM τ τ') : cy c e σ' τ' := by
  obtain ⟨h1, h2, h3, h4, h5, h6⟩ := h
  have e1 : τ' 1 = τ 1 := hM 1 (by omega) (by omega)
  refine ⟨h1, h2, by rw [e1]; exact h3, by rw [e1]; exact cityR_congr h4 (fun j hj => hX _ (by omega) (by omega)), ?_, lawR_congr h6 (fun j hj => hX _ (by omega) (by omega)) (fun c a b => by
    rcases Nat.lt_or_ge c 18 with q | q
    · exact hM c (by omega) (by omega)
    · omega) (by rw [hM 0 (by omega) (by omega)])⟩
  unfold routX at h5 ⊢
  rw [hX 34 (by omega) (by omega), hM 4 (by omega) (by omega)]
  exact h5
theorem sat_ev {c e : Nat} {σ σ' : jS} (h : sat c e σ) (g : evX σ σ') : sat c e σ' := ⟨by rw [g.2 2 (by omega) (by omega)]; exact h.1, by rw [g.2 3 (by omega) (by omega)]; exact h.2⟩
/-- one is asked of at an hour -/
theorem s_ask {F c e : Nat} (hF : 300 ≤ F) {σ τ : jS} (hc : cy c e σ τ) (hs : sat c e σ) {p h : Nat} (hp : p < 16) (hh : h ≤ 24) {am : Int32} (ham : am = 0 ∨ am = 1) (dr o : Int32) (ho : o = if am = 0 then 0 else oth (τ 1) τ p (min 23 h)) : ∃ σ1 τ1, mX2_turnTo F (nI p) (nI h) dr am σ = some σ1 ∧ mX12_feels F (nI p) (nI h) o dr τ = some τ1 ∧ evC F e σ1 τ1 ∧ sX σ σ1 ∧ sat c e σ1 ∧ sM τ τ1 ∧ (∀ d, d ≠ 19 → τ1 d = τ d) := by
  obtain ⟨h1, h2, h3, h4, h5, h6⟩ := id hc
  obtain ⟨τ1, a1, a2, a3⟩ := m_feels (F := F) (by omega) h3.1 hp hh o dr
  have hM : sM τ τ1 := fun d _ q => a2 d q
  refine ⟨js (js (js (js σ 58 4 (nI p)) 58 5 (nI h)) 58 6 dr) 58 7 am, τ1, ?_, a1, ?_, ?_, ?_, hM, a2⟩
  · unfold mX2_turnTo
    simp only [ltE]
    rw [if_pos (by rcases ham with rfl | rfl <;> rfl)]
  · have hX : sX σ (js (js (js (js σ 58 4 (nI p)) 58 5 (nI h)) 58 6 dr) 58 7 am) := sX_tr (sX_tr (sX_tr (sX_58 _ _ _) (sX_58 _ _ _)) (sX_58 _ _ _)) (sX_58 _ _ _)
    obtain ⟨g1, g2, g3, g4, g5, g6⟩ := cy_tr hc hX hM
    refine ⟨g2, ?_, g6, fun a σ' ha hev => ?_⟩
    · rw [js_k _ _ (show (3 : Nat) ≠ 7 by omega), js_k _ _ (show (3 : Nat) ≠ 6 by omega), js_k _ _ (show (3 : Nat) ≠ 5 by omega), js_k _ _ (show (3 : Nat) ≠ 4 by omega)]
      exact hs.2
    · have e1 : τ1 1 = τ 1 := a2 1 (by omega)
      have hc2 := cy_tr (cy_tr hc hX (sM_rf τ)) (sX_ev hev) (sM_rf τ)
      have hk : kX c = 0 := by rcases h1 with rfl | rfl <;> rfl
      have z := x2_letter (F := F) (c := c) (σ := σ') (τ := τ) (t := τ 1) (by omega) h3.1 hc2.2.2.2.1 hc2.2.2.2.2.1 (by omega) hk hp hh (am := am) (dr := dr)
        (by rw [hev.2 2 (by omega) (by omega), js_k _ _ (show (2 : Nat) ≠ 7 by omega), js_k _ _ (show (2 : Nat) ≠ 6 by omega), js_k _ _ (show (2 : Nat) ≠ 5 by omega), js_k _ _ (show (2 : Nat) ≠ 4 by omega)]; exact hs.1)
        (by rw [hev.2 4 (by omega) (by omega), js_k _ _ (show (4 : Nat) ≠ 7 by omega), js_k _ _ (show (4 : Nat) ≠ 6 by omega), js_k _ _ (show (4 : Nat) ≠ 5 by omega), js_at])
        (by rw [hev.2 5 (by omega) (by omega), js_k _ _ (show (5 : Nat) ≠ 7 by omega), js_k _ _ (show (5 : Nat) ≠ 6 by omega), js_at])
        (by rw [hev.2 6 (by omega) (by omega), js_k _ _ (show (6 : Nat) ≠ 7 by omega), js_at])
        (by rw [hev.2 7 (by omega) (by omega), js_at]) ha
      rw [z, a3 a ha, ho]
  · exact sX_tr (sX_tr (sX_tr (sX_58 _ _ _) (sX_58 _ _ _)) (sX_58 _ _ _)) (sX_58 _ _ _)
  · exact ⟨by rw [js_k _ _ (show (2 : Nat) ≠ 7 by omega), js_k _ _ (show (2 : Nat) ≠ 6 by omega), js_k _ _ (show (2 : Nat) ≠ 5 by omega), js_k _ _ (show (2 : Nat) ≠ 4 by omega)]; exact hs.1, by rw [js_k _ _ (show (3 : Nat) ≠ 7 by omega), js_k _ _ (show (3 : Nat) ≠ 6 by omega), js_k _ _ (show (3 : Nat) ≠ 5 by omega), js_k _ _ (show (3 : Nat) ≠ 4 by omega)]; exact hs.2⟩
/-- how fast a heart goes -/
theorem s_pace {F e : Nat} (hF : 300 ≤ F) {σ τ : jS} (hC : evC F e σ τ) : ∃ w σ' τ', 1 ≤ w ∧ w ≤ 255 ∧ mX2_worth F (112 : Int32) 60 1 255 σ = some (nI w, σ') ∧ mX12_paceNow F τ = some (nI (60 * w), τ') ∧ evX σ σ' ∧ evM τ τ' := by
  obtain ⟨r, σ', τ', a1, a2, a3, a4, a5⟩ := s_worth hF hC (kd := 112) (Or.inl rfl) 60 1 255 (by decide)
  have a1 : mX2_worth F (112 : Int32) 60 1 255 σ = some (r, σ') := a1
  have a2 : mX12_byLaw F (112 : Int32) 1 255 60 τ = some (r, τ') := a2
  have hr : ∃ w, 1 ≤ w ∧ w ≤ 255 ∧ r = nI w := by
    rcases a5 with rfl | ⟨b1, b2⟩
    · exact ⟨60, by omega, by omega, rfl⟩
    · obtain ⟨w, w1, w2, w3⟩ := inr_nat (a := 1) (b := 255) (by omega) (by omega) b1 b2
      exact ⟨w, w1, w2, w3⟩
  obtain ⟨w, w1, w2, rfl⟩ := hr
  refine ⟨w, σ', τ', w1, w2, a1, ?_, a3, a4⟩
  unfold mX12_paceNow
  rw [a2]
  show some (nI 60 * nI w, τ') = _
  rw [pk_mul]
theorem s_hourC {F c e : Nat} (hF : 300 ≤ F) {σ τ : jS} (hc : cy c e σ τ) (hs : sat c e σ) {p h : Nat} (hp : p < 16) (hh : h < 24) : ∃ w σ1 σ' τ', 1 ≤ w ∧ w ≤ 255 ∧ mX2_turnTo F (nI p) (nI h) 0 0 σ = some σ1 ∧ mX2_worth F (112 : Int32) 60 1 255 σ1 = some (nI w, σ') ∧ mX12_costsIn F (nI p) (nI h) τ = some (nI (60 * w), τ') ∧ sX σ σ' ∧ sat c e σ' ∧ sM τ τ' := by
  obtain ⟨σ1, τ1, a1, a2, a3, a4, a5, a6, -⟩ := s_ask hF hc hs hp (show h ≤ 24 by omega) (am := 0) (Or.inl rfl) 0 0 (by rw [if_pos rfl])
  obtain ⟨w, σ', τ', b1, b2, b3, b4, b5, b6⟩ := s_pace hF a3
  refine ⟨w, σ1, σ', τ', b1, b2, a1, b3, ?_, sX_tr a4 (sX_ev b5), sat_ev a5 b5, sM_tr a6 (sM_ev b6)⟩
  unfold mX12_costsIn
  rw [a2]
  simp only [Option.bind_some]
  rw [b4]
  rfl
theorem s_sit {F c e : Nat} (σ : jS) : ∃ σ1, mX2_sit F c e σ = some σ1 ∧ sX σ σ1 ∧ sat c e σ1 := by
  unfold mX2_sit
  simp only [ltE]
  exact ⟨_, rfl, sX_tr (sX_58 _ _ _) (sX_58 _ _ _), by rw [js_k _ _ (show (2 : Nat) ≠ 3 by omega), js_at], js_at _ _ _ _⟩
theorem x60 (w : Nat) : (60 : Int32) * nI w = nI (60 * w) := pk_mul 60 w
/-- an hour's cost asked on its own -/
theorem s_one {F e : Nat} (hF : 300 ≤ F) {σ τ : jS} (hc : cy 3 e σ τ) (h11 : σ 0 11 = nI e) {p h : Nat} (hp : p < 16) (hh : h < 24) : ∃ v σ' τ', v ≤ 15300 ∧ mX11_costOf F (nI p) (nI h) (nI h + 1) σ = some (nI v, σ') ∧ mX12_costsIn F (nI p) (nI h) τ = some (nI v, τ') ∧ sX σ σ' ∧ sM τ τ' := by
  have he := hc.2.1
  have hk : kX e = 3 := by rcases he with rfl | rfl <;> rfl
  unfold mX11_costOf
  simp only [ltE, h11, nI_clamp (show e < 2 ^ 31 by omega), hk, if_true]
  obtain ⟨σ1, a1, a2, a3⟩ := s_sit (F := F) (c := 3) (e := e) σ
  rw [a1]
  simp only [Option.bind_some]
  obtain ⟨w, σ2, σ3, τ3, b1, b2, b3, b4, b5, b6, b7, b8⟩ := s_hourC hF (cy_tr hc a2 (sM_rf τ)) a3 hp hh
  obtain ⟨G, rfl⟩ : ∃ G, F = G + 2 := ⟨F - 2, by omega⟩
  rw [lp_X11_costOf_21, nI1, if_pos (nI_lt (by omega) (by omega)), b3]
  simp only [Option.bind_some]
  rw [b4]
  simp only [Option.bind_some, ltE, x60]
  rw [show (0 : Int32) + nI (60 * w) = nI (60 * w) by rw [show (0 : Int32) = nI 0 from rfl, nI_add, Nat.zero_add], lp_X11_costOf_21, if_neg (nI_nlt (Nat.le_refl _) (by omega))]
  exact ⟨60 * w, σ3, τ3, by omega, rfl, b5, sX_tr a2 b6, b8⟩
/-- a day's cost -/
theorem s_day {F e : Nat} (hF : 300 ≤ F) {σ τ : jS} (hc : cy 3 e σ τ) (h11 : σ 0 11 = nI e) {p : Nat} (hp : p < 16) : ∃ v σ' τ', 0 < v ∧ v ≤ 367200 ∧ mX11_costOf F (nI p) 0 24 σ = some (nI v, σ') ∧ mX12_costsOfDay F (nI p) τ = some (nI v, τ') ∧ sX σ σ' ∧ sM τ τ' := by
  have he := hc.2.1
  have hk : kX e = 3 := by rcases he with rfl | rfl <;> rfl
  unfold mX11_costOf mX12_costsOfDay
  simp only [ltE, h11, nI_clamp (show e < 2 ^ 31 by omega), hk, if_true]
  obtain ⟨σ1, a1, a2, a3⟩ := s_sit (F := F) (c := 3) (e := e) σ
  rw [a1]
  simp only [Option.bind_some]
  refine loop_q (fun m y (a : Int32 × jS) => lp_X11_costOf_21 F m (nI p) 24 a.1 y a.2) (fun m y (b : Int32 × jS) => lp_X12_costsOfDay_4 F m (nI p) b.1 y b.2) 24 (fun i a b => ∃ v, i ≤ v ∧ v ≤ 15300 * i ∧ a.1 = nI v ∧ b.1 = nI v ∧ sX σ a.2 ∧ sat 3 e a.2 ∧ sM τ b.2) (fun r s => ∃ v σ' τ', 0 < v ∧ v ≤ 367200 ∧ r = some (nI v, σ') ∧ s = some (nI v, τ') ∧ sX σ σ' ∧ sM τ τ') ?_ ?_ F 0 (0, σ1) (0, τ) (by omega) (by omega) ⟨0, by omega, by omega, rfl, rfl, a2, a3, sM_rf _⟩
  · intro m i a b hi hP
    obtain ⟨a0, σa⟩ := a
    obtain ⟨b0, τb⟩ := b
    obtain ⟨v, v1, v2, e1, e2, g1, g2, g3⟩ := hP
    have e1 : a0 = nI v := e1
    have e2 : b0 = nI v := e2
    have g1 : sX σ σa := g1
    have g2 : sat 3 e σa := g2
    have g3 : sM τ τb := g3
    subst e1
    subst e2
    right
    show ∃ (a' b' : Int32 × jS), _ ∧ lp_X11_costOf_21 F (m + 1) (nI p) 24 (nI v) (nI i) σa = lp_X11_costOf_21 F m (nI p) 24 a'.1 (nI (i + 1)) a'.2 ∧ lp_X12_costsOfDay_4 F (m + 1) (nI p) (nI v) (nI i) τb = lp_X12_costsOfDay_4 F m (nI p) b'.1 (nI (i + 1)) b'.2
    obtain ⟨w, σ2, σ3, τ3, b1, b2, b3, b4, b5, b6, b7, b8⟩ := s_hourC hF (cy_tr hc g1 g3) g2 hp hi
    rw [lp_X11_costOf_21, lp_X12_costsOfDay_4, if_pos (lt24 hi), if_pos (lt24 hi), b3, b5]
    simp only [Option.bind_some]
    rw [b4]
    simp only [Option.bind_some, ltE, x60, nI_add, nI1]
    exact ⟨(nI (v + 60 * w), σ3), (nI (v + 60 * w), τ3), ⟨v + 60 * w, by omega, by omega, rfl, rfl, sX_tr g1 b6, b7, sM_tr g3 b8⟩, rfl, rfl⟩
  · intro m a b hP
    obtain ⟨a0, σa⟩ := a
    obtain ⟨b0, τb⟩ := b
    obtain ⟨v, v1, v2, e1, e2, g1, g2, g3⟩ := hP
    have e1 : a0 = nI v := e1
    have e2 : b0 = nI v := e2
    subst e1
    subst e2
    show ∃ v σ' τ', _ ∧ _ ∧ lp_X11_costOf_21 F (m + 1) (nI p) 24 _ (nI 24) σa = some (nI v, σ') ∧ lp_X12_costsOfDay_4 F (m + 1) (nI p) _ (nI 24) τb = some (nI v, τ') ∧ _
    rw [lp_X11_costOf_21, lp_X12_costsOfDay_4, if_neg nlt24, if_neg nlt24]
    exact ⟨v, σa, τb, by omega, by omega, rfl, rfl, g1, g3⟩
theorem Inv_sc {σ τ σ' τ' : jS} (h : Inv σ τ) (hX : sX σ σ') (hM : sM τ τ') : Inv σ' τ' := Inv_keep h ⟨fun k _ => by rw [hX 0 (by omega) (by omega)], hX 2 (by omega) (by omega), fun c a b => hX c (by omega) (by omega), hX 34 (by omega) (by omega), hX 35 (by omega) (by omega), fun c a b => hX c (by omega) (by omega)⟩ (by rw [hX 1 (by omega) (by omega)]) ⟨hM 1 (by omega) (by omega), hM 3 (by omega) (by omega), hM 4 (by omega) (by omega), hM 5 (by omega) (by omega), hM 6 (by omega) (by omega), fun c a b => hM c (by omega) (by omega), by rw [hM 0 (by omega) (by omega)], by rw [hM 0 (by omega) (by omega)]⟩ (by rw [hM 0 (by omega) (by omega)])
theorem cy_Inv {σ τ : jS} (h : Inv σ τ) : ∃ e, cy 3 e σ τ ∧ σ 0 11 = nI e := by
  obtain ⟨-, hW, hR, -, hT, ⟨e, he, h1, h2, h3⟩⟩ := h
  exact ⟨e, ⟨Or.inl rfl, he, hW, hR, fun i hi => (hT.1 i hi).1, h3⟩, h1⟩
theorem tl_out {t : Nat → Int32} {x : Int32} (h : x < 0 ∨ ¬ x < 16) : tl t x = 0 := by
  unfold tl
  rcases h with h | h
  · rw [if_pos h]
  · rw [if_neg h, ite_self]
theorem s_costs (F : Nat) (hF : 300 ≤ F) : S_costs F Inv := by
  intro σ τ x1 x2 hI
  obtain ⟨-, hW, hR, -, -, -⟩ := id hI
  obtain ⟨e, hc, h11⟩ := cy_Inv hI
  unfold mX11_costs mX12_costs
  rw [x0_live hR, m_live hW, isW, isI]
  rcases tl_cases (τ 1) x1 with ⟨-, ho⟩ | ⟨p, hp, rfl⟩
  · rw [tl_out ho]; exact ⟨-1, σ, τ, rfl, rfl, hI⟩
  rw [tl_in _ hp]
  simp only [Option.bind_some]
  by_cases c1 : τ 1 (48 + p) = 0
  · rw [if_pos c1, if_pos c1]; exact ⟨-1, σ, τ, rfl, rfl, hI⟩
  rw [if_neg c1, if_neg c1]
  rcases inr_c x2 0 24 with e2 | ⟨e2, h1, h2⟩
  · rw [e2]; exact ⟨-1, σ, τ, rfl, rfl, hI⟩
  rw [e2, if_neg (show ¬ (1 : Int32) = 0 by decide), if_neg (show ¬ (1 : Int32) = 0 by decide)]
  obtain ⟨h, -, hh, rfl⟩ := inr_nat (a := 0) (b := 24) (by omega) (by omega) h1 h2
  by_cases c2 : h = 24
  · subst c2
    obtain ⟨v, σ', τ', -, -, a1, a2, a3, a4⟩ := s_day hF hc h11 hp
    rw [if_pos (show nI 24 = (24 : Int32) from rfl), if_pos (show nI 24 = (24 : Int32) from rfl), a1, a2]
    exact ⟨_, σ', τ', rfl, rfl, Inv_sc hI a3 a4⟩
  · obtain ⟨v, σ', τ', -, a1, a2, a3, a4⟩ := s_one hF hc h11 hp (show h < 24 by omega)
    rw [if_neg (show ¬ nI h = (24 : Int32) from fun z => c2 (nI_inj (a := h) (b := 24) (by omega) (by omega) z)), if_neg (show ¬ nI h = (24 : Int32) from fun z => c2 (nI_inj (a := h) (b := 24) (by omega) (by omega) z)), a1, a2]
    exact ⟨_, σ', τ', rfl, rfl, Inv_sc hI a3 a4⟩
/-- how many days are left to one who lives, however often asked -/
theorem s_lf {F e : Nat} (hF : 300 ≤ F) {σ τ : jS} (hc : cy 3 e σ τ) (h11 : σ 0 11 = nI e) {p : Nat} (hp : p < 16) (hl : ¬ τ 1 (48 + p) = 0) : ∃ v, v ≤ 999999999 ∧ (∀ σ', sX σ σ' → ∃ σ'', mX11_daysLeft F (nI p) σ' = some (nI v, σ'') ∧ sX σ σ'') ∧ ∀ τ', sM τ τ' → ∃ τ'', mX12_left F (nI p) τ' = some (nI v, τ'') ∧ sM τ τ'' := by
  obtain ⟨b, hb, eb⟩ := beats_n hc.2.2.1.1 hp
  have run : ∀ σ' τ', sX σ σ' → sM τ τ' → ∃ v σ'' τ'', v ≤ 999999999 ∧ mX11_daysLeft F (nI p) σ' = some (nI v, σ'') ∧ mX12_left F (nI p) τ' = some (nI v, τ'') ∧ sX σ σ'' ∧ sM τ τ'' := by
    intro σ' τ' hX hM
    have hc2 := cy_tr hc hX hM
    obtain ⟨v, σ'', τ'', v0, v1, a1, a2, a3, a4⟩ := s_day hF hc2 (by rw [hX 0 (by omega) (by omega)]; exact h11) hp
    have e1 : τ' 1 = τ 1 := hM 1 (by omega) (by omega)
    unfold mX11_daysLeft mX12_left
    rw [a1, a2, m_live hc2.2.2.1, tl_in _ hp, e1]
    simp only [Option.bind_some, ltE, if_neg hl, show (16 : Int32) + nI p = nI (16 + p) from nI_add 16 p, jin_nI (show 16 + p < 212 by omega) (show 212 < 2 ^ 31 by omega), if_true, nI_clamp (show 16 + p < 2 ^ 31 by omega), if_pos (show 0 < nI v from nI_lt (a := 0) v0 (by omega)), if_neg (show ¬ nI v = (0 : Int32) from nI_ne0 v0 (by omega)), eb]
    have hR2 : cityR 3 σ'' (τ 1) := cityR_congr hc.2.2.2.1 (fun j hj => (sX_tr hX a3) _ (by omega) (by omega))
    rw [x0_beats hR2 hp, eb]
    simp only [Option.bind_some]
    rw [pk_div (by omega) v0 (by omega)]
    exact ⟨b / v, σ'', τ'', Nat.le_trans (Nat.div_le_self _ _) hb, rfl, rfl, sX_tr hX a3, sM_tr hM a4⟩
  obtain ⟨v, σ1, τ1, v1, r1, r2, -, -⟩ := run σ τ (sX_rf _) (sM_rf _)
  refine ⟨v, v1, fun σ' hX => ?_, fun τ' hM => ?_⟩
  · obtain ⟨w, σ2, τ2, -, q1, q2, q3, -⟩ := run σ' τ hX (sM_rf _)
    rw [r2] at q2
    have q2 := Option.some.inj q2
    have ew : nI v = nI w := congrArg Prod.fst q2
    exact ⟨σ2, by rw [ew]; exact q1, q3⟩
  · obtain ⟨w, σ2, τ2, -, q1, q2, -, q3⟩ := run σ τ' (sX_rf _) hM
    rw [r1] at q1
    have q1 := Option.some.inj q1
    have ew : nI v = nI w := congrArg Prod.fst q1
    exact ⟨τ2, by rw [ew]; exact q2, q3⟩
theorem s_left (F : Nat) (hF : 300 ≤ F) : S_left F Inv := by
  intro σ τ x1 hI
  obtain ⟨-, hW, hR, -, -, -⟩ := id hI
  obtain ⟨e, hc, h11⟩ := cy_Inv hI
  rcases tl_cases (τ 1) x1 with ⟨-, ho⟩ | ⟨p, hp, rfl⟩
  · unfold mX11_left mX12_left
    rw [x0_live hR, m_live hW, tl_out ho]; exact ⟨-1, σ, τ, rfl, rfl, hI⟩
  by_cases c1 : τ 1 (48 + p) = 0
  · unfold mX11_left mX12_left
    rw [x0_live hR, m_live hW, tl_in _ hp]
    simp only [Option.bind_some, if_pos c1]
    exact ⟨-1, σ, τ, rfl, rfl, hI⟩
  obtain ⟨v, -, a1, a2⟩ := s_lf hF hc h11 hp c1
  obtain ⟨σ', b1, b2⟩ := a1 σ (sX_rf _)
  obtain ⟨τ', b3, b4⟩ := a2 τ (sM_rf _)
  refine ⟨nI v, σ', τ', ?_, b3, Inv_sc hI b2 b4⟩
  unfold mX11_left
  rw [x0_live hR, tl_in _ hp]
  simp only [Option.bind_some, if_neg c1]
  rw [b1]
  rfl
theorem s_longest (F : Nat) (hF : 300 ≤ F) : S_longest F Inv := by
  intro σ τ hI
  obtain ⟨-, hW, hR, -, -, -⟩ := id hI
  obtain ⟨e, hc, h11⟩ := cy_Inv hI
  have ex : ∀ p, ∃ v, p < 16 → ¬ τ 1 (48 + p) = 0 → v ≤ 999999999 ∧ (∀ σ', sX σ σ' → ∃ σ'', mX11_daysLeft F (nI p) σ' = some (nI v, σ'') ∧ sX σ σ'') ∧ ∀ τ', sM τ τ' → ∃ τ'', mX12_left F (nI p) τ' = some (nI v, τ'') ∧ sM τ τ'' := by
    intro p
    by_cases c : p < 16 ∧ ¬ τ 1 (48 + p) = 0
    · obtain ⟨v, h⟩ := s_lf hF hc h11 c.1 c.2
      exact ⟨v, fun _ _ => h⟩
    · exact ⟨0, fun a b => absurd ⟨a, b⟩ c⟩
  obtain ⟨f, hf⟩ := Classical.skolem.mp ex
  unfold mX11_longest mX12_longest
  refine loop_q (fun m y (a : (Int32 × Int32) × jS) => lp_X11_longest_7 F m a.1.1 a.1.2 y a.2) (fun m y (b : Int32 × jS) => lp_X12_longest_5 F m b.1 y b.2) 16 (fun i a b => a.1.1 = b.1 ∧ sX σ a.2 ∧ sM τ b.2 ∧ ((b.1 = -2 ∧ a.1.2 = -1) ∨ ∃ q, q < 16 ∧ ¬ τ 1 (48 + q) = 0 ∧ b.1 = nI q ∧ a.1.2 = nI (f q))) (fun r s => ∃ z σ' τ', r = some (z, σ') ∧ s = some (z, τ') ∧ Inv σ' τ') ?_ ?_ F 0 ((-2, -1), σ) (-2, τ) (by omega) (by omega) ⟨rfl, sX_rf _, sM_rf _, Or.inl ⟨rfl, rfl⟩⟩
  · intro m i a b hi hP
    obtain ⟨⟨a1, a2⟩, σa⟩ := a
    obtain ⟨b1, τb⟩ := b
    obtain ⟨e1, g1, g2, hP⟩ := hP
    have e1 : a1 = b1 := e1
    subst e1
    have g1 : sX σ σa := g1
    have g2 : sM τ τb := g2
    right
    show ∃ (a' : (Int32 × Int32) × jS) (b' : Int32 × jS), _ ∧ lp_X11_longest_7 F (m + 1) a1 a2 (nI i) σa = lp_X11_longest_7 F m a'.1.1 a'.1.2 (nI (i + 1)) a'.2 ∧ lp_X12_longest_5 F (m + 1) a1 (nI i) τb = lp_X12_longest_5 F m b'.1 (nI (i + 1)) b'.2
    have hc2 := cy_tr hc g1 g2
    have t1 : τb 1 = τ 1 := g2 1 (by omega) (by omega)
    rw [lp_X11_longest_7, lp_X12_longest_5, if_pos (lt16 hi), if_pos (lt16 hi), x0_live hc2.2.2.2.1, m_live hc2.2.2.1, tl_in _ hi, t1]
    simp only [Option.bind_some, nI1]
    by_cases c1 : τ 1 (48 + i) = 0
    · rw [if_pos c1, if_pos c1]
      exact ⟨((a1, a2), σa), (a1, τb), ⟨rfl, g1, g2, hP⟩, rfl, rfl⟩
    rw [if_neg c1, if_neg c1]
    obtain ⟨fi, cX, cM⟩ := hf i hi c1
    obtain ⟨σ1, u1, u2⟩ := cX σa g1
    rw [u1]
    simp only [Option.bind_some]
    rcases hP with ⟨q1, q2⟩ | ⟨q, q0, q1, q2, q3⟩
    · have q1 : a1 = -2 := q1
      have q2 : a2 = -1 := q2
      subst q1
      subst q2
      rw [if_pos (show (-1 : Int32) < nI (f i) by rw [fa_lt, nI_toInt (by omega)]; show (-1 : Int) < _; omega), if_pos rfl]
      exact ⟨((nI i, nI (f i)), σ1), (nI i, τb), ⟨rfl, u2, g2, Or.inr ⟨i, hi, c1, rfl, rfl⟩⟩, rfl, rfl⟩
    · have q2 : a1 = nI q := q2
      have q3 : a2 = nI (f q) := q3
      subst q2
      subst q3
      obtain ⟨fq, -, cMq⟩ := hf q q0 q1
      obtain ⟨τ1, w1, w2⟩ := cM τb g2
      obtain ⟨τ2, w3, w4⟩ := cMq τ1 w2
      rw [if_neg (show ¬ nI q = (-2 : Int32) by rw [fa_eq, nI_toInt (by omega)]; show ¬ (q : Int) = -2; omega), w1]
      simp only [Option.bind_some]
      rw [w3]
      simp only [Option.bind_some]
      by_cases c2 : nI (f q) < nI (f i)
      · rw [if_pos c2, if_pos c2]
        exact ⟨((nI i, nI (f i)), σ1), (nI i, τ2), ⟨rfl, u2, w4, Or.inr ⟨i, hi, c1, rfl, rfl⟩⟩, rfl, rfl⟩
      · rw [if_neg c2, if_neg c2]
        exact ⟨((nI q, nI (f q)), σ1), (nI q, τ2), ⟨rfl, u2, w4, Or.inr ⟨q, q0, q1, rfl, rfl⟩⟩, rfl, rfl⟩
  · intro m a b hP
    obtain ⟨⟨a1, a2⟩, σa⟩ := a
    obtain ⟨b1, τb⟩ := b
    obtain ⟨e1, g1, g2, hP⟩ := hP
    have e1 : a1 = b1 := e1
    subst e1
    show ∃ z σ' τ', lp_X11_longest_7 F (m + 1) a1 a2 (nI 16) σa = some (z, σ') ∧ lp_X12_longest_5 F (m + 1) a1 (nI 16) τb = some (z, τ') ∧ Inv σ' τ'
    rw [lp_X11_longest_7, lp_X12_longest_5, if_neg nlt16, if_neg nlt16]
    exact ⟨a1, σa, τb, rfl, rfl, Inv_sc hI g1 g2⟩
