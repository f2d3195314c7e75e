/-! ===== a day goes by, in both ===== -/
def dyF (c : Nat) (σ0 τ0 σ τ : jS) : Prop := (∀ d, (d < c ∨ c + 10 ≤ d) → d ≠ 58 → d ≠ 59 → σ d = σ0 d) ∧ (∀ d, d ≠ 0 → d ≠ 1 → d ≠ 18 → d ≠ 19 → τ d = τ0 d) ∧ (∀ k, k ≠ 39 → τ 0 k = τ0 0 k) ∧ τ 1 210 = τ0 1 210 ∧ τ 1 208 = τ0 1 208
def dy (c e B : Nat) (σ0 τ0 σ τ : jS) : Prop := cy c e σ τ ∧ sat c e σ ∧ dyF c σ0 τ0 σ τ ∧ ∃ k, τ 0 39 = nI k ∧ k + fa_cnt (bt (σ c 4)) 16 = B
theorem dy_ev {c e B : Nat} {σ0 τ0 σ τ σ' τ' : jS} (h : dy c e B σ0 τ0 σ τ) (hX : sX σ σ') (hs : sat c e σ') (hM : sM τ τ') : dy c e B σ0 τ0 σ' τ' := by
  obtain ⟨h1, h2, ⟨f1, f2, f3, f4⟩, k, h4, h5⟩ := h
  have hc := h1.1
  refine ⟨cy_tr h1 hX hM, hs, ⟨fun d a b q => by rw [hX d b q]; exact f1 d a b q, fun d a b q r => by rw [hM d q r]; exact f2 d a b q r, fun k hk => by rw [hM 0 (by omega) (by omega)]; exact f3 k hk, by rw [hM 1 (by omega) (by omega)]; exact f4⟩, k, by rw [hM 0 (by omega) (by omega)]; exact h4, by rw [hX c (by omega) (by omega)]; exact h5⟩
theorem cy_new {c e : Nat} {σ τ σ' τ' : jS} (h : cy c e σ τ) (hX : onlyX c σ σ') (hM : ∀ d, d ≠ 0 → d ≠ 1 → τ' d = τ d) (h0 : τ' 0 15 = τ 0 15) (hW : cityW (τ' 1)) (hR : cityR c σ' (τ' 1)) : cy c e σ' τ' := by
  obtain ⟨h1, h2, h3, h4, h5, h6⟩ := h
  refine ⟨h1, h2, hW, hR, ?_, lawR_congr h6 (fun j hj => hX _ (by omega)) (fun d a b => hM d (by omega) (by omega)) h0⟩
  unfold routX at h5 ⊢
  rw [hX 34 (by omega), hM 4 (by omega) (by omega)]
  exact h5
theorem dy_new {c e B : Nat} {σ0 τ0 σ τ σ' τ' : jS} (h : dy c e B σ0 τ0 σ τ) (hX : onlyX c σ σ') (hM : ∀ d, d ≠ 0 → d ≠ 1 → τ' d = τ d) (h0 : ∀ k, k ≠ 39 → τ' 0 k = τ 0 k) (hW : cityW (τ' 1)) (hR : cityR c σ' (τ' 1)) (h210 : τ' 1 210 = τ 1 210 ∧ τ' 1 208 = τ 1 208) (hk : ∃ k, τ' 0 39 = nI k ∧ k + fa_cnt (bt (σ' c 4)) 16 = B) : dy c e B σ0 τ0 σ' τ' := by
  obtain ⟨h1, h2, ⟨f1, f2, f3, f4⟩, -⟩ := h
  have hc := h1.1
  refine ⟨cy_new h1 hX hM (h0 15 (by omega)) hW hR, ⟨by rw [hX 58 (by omega)]; exact h2.1, by rw [hX 58 (by omega)]; exact h2.2⟩, ⟨fun d a b q => by rw [hX d a]; exact f1 d a b q, fun d a b q r => by rw [hM d a b]; exact f2 d a b q r, fun k hk => by rw [h0 k hk]; exact f3 k hk, by rw [h210.1, h210.2]; exact f4⟩, hk⟩
/-- a city's row changed but for who lives -/
theorem dy_row {c e B : Nat} {σ0 τ0 σ τ σ' τ' : jS} (h : dy c e B σ0 τ0 σ τ) (hX : onlyX c σ σ') (h4 : σ' c 4 = σ c 4) (hM : ∀ d, d ≠ 1 → τ' d = τ d) (hW : cityW (τ' 1)) (hR : cityR c σ' (τ' 1)) (h210 : τ' 1 210 = τ 1 210 ∧ τ' 1 208 = τ 1 208) : dy c e B σ0 τ0 σ' τ' := by
  obtain ⟨k, k1, k2⟩ := h.2.2.2
  exact dy_new h hX (fun d _ b => hM d b) (fun k _ => by rw [hM 0 (by omega)]) hW hR h210 ⟨k, by rw [hM 0 (by omega)]; exact k1, by rw [h4]; exact k2⟩
theorem cityW_dead {t : Nat → Int32} (h : cityW t) {p : Nat} (hp : p < 16) {v : Nat} (hv : v ≤ 999999999) : cityW (upd (upd (upd t 209 (nI v)) (16 + p) 0) (48 + p) 0) := by
  refine ⟨cityW0_upd (cityW0_upd (cityW0_upd h.1 (rk_n (by simpa using hv))) (rk_n (n := 0) (Nat.zero_le _))) (rk_n (n := 0) (Nat.zero_le _)), fun q hq h1 => ?_⟩
  by_cases e : q = p
  · subst e
    rw [pk_us] at h1
    exact absurd h1 (by decide)
  · rw [pk_un (by omega), pk_un (by omega), pk_un (by omega)] at h1
    rw [pk_un (by omega), pk_un (by omega), pk_un (by omega), pk_un (by omega), pk_un (by omega), pk_un (by omega)]
    exact h.2 q hq h1
theorem parish_n {t : Nat → Int32} (h : cityW0 t) : ∃ n, n ≤ 999999999 ∧ t 209 = nI n := rk_le h (by omega) (by simp)
theorem day_n {t : Nat → Int32} (h : cityW0 t) : ∃ n, n ≤ 9999 ∧ t 210 = nI n := rk_le h (by omega) (by simp)
theorem lot_n {t : Nat → Int32} (h : cityW0 t) : ∃ n, n ≤ 65535 ∧ t 211 = nI n := rk_le h (by omega) (by simp)
/-- one dies, in both -/
theorem s_bury {F c e B : Nat} {σ0 τ0 σ τ : jS} (h : dy c e B σ0 τ0 σ τ) {p : Nat} (hp : p < 16) (hl : τ 1 (48 + p) = 1) : ∃ σ' τ', mX0_bury F c (nI p) σ = some σ' ∧ mX12_diesNow F (nI p) τ = some τ' ∧ dy c e B σ0 τ0 σ' τ' := by
  obtain ⟨h1, h2, h3, k, k1, k2⟩ := id h
  have hW := h1.2.2.1
  have hR := h1.2.2.2.1
  obtain ⟨b, hb, eb⟩ := beats_n hW.1 hp
  obtain ⟨v, hv, ev⟩ := parish_n hW.1
  unfold mX0_bury mX12_diesNow
  rw [x0_live hR, tl_in _ hp]
  simp only [Option.bind_some, if_neg (show ¬ τ 1 (48 + p) = 0 by rw [hl]; decide), jin_nI hp (show 16 < 2 ^ 31 by omega), if_true, ltE, nI_clamp (show p < 2 ^ 31 by omega), cityR_parish_at hR, cityR_beats_at hR hp, show (16 : Int32) + nI p = nI (16 + p) from nI_add 16 p, show (48 : Int32) + nI p = nI (48 + p) from nI_add 48 p, jin_nI (show 16 + p < 212 by omega) (show 212 < 2 ^ 31 by omega), jin_nI (show 48 + p < 212 by omega) (show 212 < 2 ^ 31 by omega), nI_clamp (show 16 + p < 2 ^ 31 by omega), nI_clamp (show 48 + p < 2 ^ 31 by omega), eb, ev, nI_add]
  rw [show imin (999999999 : Int32) (nI (v + b)) = nI (min 999999999 (v + b)) from imin_nI (a := 999999999) (by omega) (by omega), show mX12_min F (999999999 : Int32) (nI (v + b)) τ = some (nI (min 999999999 (v + b))) from m_min F τ (a := 999999999) (by omega) (by omega)]
  simp only [Option.bind_some]
  refine ⟨_, _, rfl, rfl, ?_⟩
  have hm : min 999999999 (v + b) ≤ 999999999 := Nat.min_le_left _ _
  generalize min 999999999 (v + b) = w at hm
  have t0 : js (js (js (js τ 1 209 (nI w)) 1 (16 + p) 0) 1 (48 + p) 0) 0 39 (js (js (js τ 1 209 (nI w)) 1 (16 + p) 0) 1 (48 + p) 0 0 39 + 1) 1 = upd (upd (upd (τ 1) 209 (nI w)) (16 + p) 0) (48 + p) 0 := by
    rw [js_c _ _ _ (show (1 : Nat) ≠ 0 by omega), js_row, js_row, js_row]
  have c1 := cityR_off (cityR_beats (cityR_parish hR (nI w)) hp 0) hp
  have e4 : js (js σ c 5 (nI w)) (c + 1) p 0 c 4 = σ c 4 := by rw [js_c _ _ _ (show c ≠ c + 1 by omega), js_k _ _ (show (4 : Nat) ≠ 5 by omega)]
  refine dy_new h ?_ ?_ ?_ (by rw [t0]; exact cityW_dead hW hp hm) (by rw [t0]; exact c1) ⟨by rw [t0, pk_un (by omega), pk_un (by omega), pk_un (by omega)], by rw [t0, pk_un (by omega), pk_un (by omega), pk_un (by omega)]⟩ ?_
  · exact onlyX_tr (onlyX_tr (onlyX_js _ _ _ (by omega)) (onlyX_js _ _ _ (by omega))) (onlyX_js _ _ _ (by omega))
  · intro d a b
    rw [js_c _ _ _ a, js_c _ _ _ b, js_c _ _ _ b, js_c _ _ _ b]
  · intro k hk
    rw [js_k _ _ hk, js_c _ _ _ (show (0 : Nat) ≠ 1 by omega), js_c _ _ _ (show (0 : Nat) ≠ 1 by omega), js_c _ _ _ (show (0 : Nat) ≠ 1 by omega)]
  · refine ⟨k + 1, ?_, ?_⟩
    · rw [js_at, js_c _ _ _ (show (0 : Nat) ≠ 1 by omega), js_c _ _ _ (show (0 : Nat) ≠ 1 by omega), js_c _ _ _ (show (0 : Nat) ≠ 1 by omega), k1, nI1]
    · rw [js_at, e4]
      have hbt : bt (σ c 4) p = true := by
        rw [(hR.2.1.1 p hp).2]
        simpa using hl
      have := cnt_off hp hbt
      omega
theorem live1 {t : Nat → Int32} (h : cityW0 t) {p : Nat} (hp : p < 16) (hl : ¬ t (48 + p) = 0) : t (48 + p) = 1 := by
  rcases rk01 (h (48 + p) (by omega)) (Or.inr ⟨by omega, by omega⟩) with e | e
  · exact absurd e hl
  · exact e
/-- beats spent, perhaps the last of them -/
theorem s_spend {F c e B : Nat} {σ0 τ0 σ τ : jS} (h : dy c e B σ0 τ0 σ τ) {p : Nat} (hp : p < 16) (hl : τ 1 (48 + p) = 1) {w : Nat} (hw : w ≤ 15300) : ∃ σ' τ', mX0_spend F c (nI p) (nI w) σ = some σ' ∧ (lt ((16 : Int32) + nI p) fun y8 => (if jin y8 212 = true then (Option.bind (mX12_max F (0 : Int32) (((τ 1 y8.toNatClampNeg) - nI w)) τ) fun q10 => (if jin ((16 : Int32) + nI p) 212 = true then (lt (js τ 1 ((16 : Int32) + nI p).toNatClampNeg q10) fun σ11 => (lt ((16 : Int32) + nI p) fun y13 => (if jin y13 212 = true then (if 0 < (σ11 1 y13.toNatClampNeg) then some σ11 else (Option.bind (mX12_diesNow F (nI p) σ11) fun q15 => some q15)) else none))) else none)) else none)) = some τ' ∧ dy c e B σ0 τ0 σ' τ' := by
  have hW := h.1.2.2.1
  have hR := h.1.2.2.2.1
  obtain ⟨b, hb, eb⟩ := beats_n hW.1 hp
  unfold mX0_spend
  rw [x0_live hR, tl_in _ hp]
  simp only [Option.bind_some, if_neg (show ¬ τ 1 (48 + p) = 0 by rw [hl]; decide), jin_nI hp (show 16 < 2 ^ 31 by omega), if_true, ltE, nI_clamp (show p < 2 ^ 31 by omega), cityR_beats_at hR hp, show (16 : Int32) + nI p = nI (16 + p) from nI_add 16 p, jin_nI (show 16 + p < 212 by omega) (show 212 < 2 ^ 31 by omega), nI_clamp (show 16 + p < 2 ^ 31 by omega), eb, js_at]
  have em : imax (0 : Int32) (nI b - nI w) = nI (b - w) := by
    unfold imax
    by_cases q : w < b
    · rw [pk_sub (show w ≤ b by omega), if_pos (show (0 : Int32) < nI (b - w) from nI_lt (a := 0) (by omega) (by omega))]
    · rw [if_neg (show ¬ (0 : Int32) < nI b - nI w by rw [fa_lt, pk_sub_toInt (by omega) (by omega)]; show ¬ (0 : Int) < _; omega), show b - w = 0 by omega]
      rfl
  have ex : mX12_max F (0 : Int32) (nI b - nI w) τ = some (nI (b - w)) := by
    unfold mX12_max
    by_cases q : b < w
    · rw [if_pos (show nI b - nI w < 0 from pk_sneg (by omega) q), show b - w = 0 by omega]
      rfl
    · rw [pk_sub (show w ≤ b by omega), if_neg (show ¬ nI (b - w) < 0 from nI_pos (by omega))]
  rw [em, ex]
  simp only [Option.bind_some]
  have oX : onlyX c σ (js σ (c + 1) p (nI (b - w))) := onlyX_js _ _ _ (by omega)
  have o4 : js σ (c + 1) p (nI (b - w)) c 4 = σ c 4 := by rw [js_c _ _ _ (show c ≠ c + 1 by omega)]
  have oM : ∀ d, d ≠ 1 → js τ 1 (16 + p) (nI (b - w)) d = τ d := fun d hd => js_c _ _ _ hd
  have hR2 : cityR c (js σ (c + 1) p (nI (b - w))) (js τ 1 (16 + p) (nI (b - w)) 1) := by rw [js_row]; exact cityR_beats hR hp _
  have hW0 : cityW0 (js τ 1 (16 + p) (nI (b - w)) 1) := by rw [js_row]; exact cityW0_upd hW.1 (rk_n (by rw [if_neg (by omega), if_pos (by omega)]; omega))
  by_cases c0 : b - w = 0
  · -- the last ones: dead at once; first with the beats as they were taken
    rw [c0, if_pos (show nI 0 = (0 : Int32) from rfl), if_neg (show ¬ (0 : Int32) < nI 0 by decide)]
    rw [c0] at oX o4 oM hR2 hW0
    -- burying by hand: the row in between holds one who lives with no beats
    obtain ⟨h1, h2, -, k, k1, k2⟩ := id h
    obtain ⟨v, hv, ev⟩ := parish_n hW.1
    have lv : js τ 1 (16 + p) (nI 0) 1 (48 + p) = 1 := by rw [js_k _ _ (show 48 + p ≠ 16 + p by omega)]; exact hl
    have bz : js τ 1 (16 + p) (nI 0) 1 (16 + p) = nI 0 := js_at _ _ _ _
    have pz : js τ 1 (16 + p) (nI 0) 1 209 = nI v := by rw [js_k _ _ (show 209 ≠ 16 + p by omega)]; exact ev
    unfold mX0_bury mX12_diesNow
    rw [x0_live hR2, tl_in _ hp]
    simp only [Option.bind_some, if_neg (show ¬ js τ 1 (16 + p) (nI 0) 1 (48 + p) = 0 by rw [lv]; decide), jin_nI hp (show 16 < 2 ^ 31 by omega), if_true, ltE, nI_clamp (show p < 2 ^ 31 by omega), cityR_parish_at hR2, cityR_beats_at hR2 hp, show (16 : Int32) + nI p = nI (16 + p) from nI_add 16 p, show (48 : Int32) + nI p = nI (48 + p) from nI_add 48 p, jin_nI (show 16 + p < 212 by omega) (show 212 < 2 ^ 31 by omega), jin_nI (show 48 + p < 212 by omega) (show 212 < 2 ^ 31 by omega), nI_clamp (show 16 + p < 2 ^ 31 by omega), nI_clamp (show 48 + p < 2 ^ 31 by omega), bz, pz, nI_add, Nat.add_zero]
    rw [show imin (999999999 : Int32) (nI v) = nI (min 999999999 v) from imin_nI (a := 999999999) (by omega) (by omega), show mX12_min F (999999999 : Int32) (nI v) (js τ 1 (16 + p) (nI 0)) = some (nI (min 999999999 v)) from m_min F _ (a := 999999999) (by omega) (by omega)]
    simp only [Option.bind_some]
    refine ⟨_, _, rfl, rfl, ?_⟩
    have hm : min 999999999 v ≤ 999999999 := Nat.min_le_left _ _
    generalize min 999999999 v = u at hm
    have t0 : js (js (js (js (js τ 1 (16 + p) (nI 0)) 1 209 (nI u)) 1 (16 + p) 0) 1 (48 + p) 0) 0 39 (js (js (js (js τ 1 (16 + p) (nI 0)) 1 209 (nI u)) 1 (16 + p) 0) 1 (48 + p) 0 0 39 + 1) 1 = upd (upd (upd (js τ 1 (16 + p) (nI 0) 1) 209 (nI u)) (16 + p) 0) (48 + p) 0 := by
      rw [js_c _ _ _ (show (1 : Nat) ≠ 0 by omega), js_row _ 1 (48 + p), js_row _ 1 (16 + p) 0, js_row _ 1 209]
    have c1 := cityR_off (cityR_beats (cityR_parish hR2 (nI u)) hp 0) hp
    have e4 : js (js (js σ (c + 1) p (nI 0)) c 5 (nI u)) (c + 1) p 0 c 4 = σ c 4 := by rw [js_c _ _ _ (show c ≠ c + 1 by omega), js_k _ _ (show (4 : Nat) ≠ 5 by omega)]; exact o4
    have hWd : cityW (upd (upd (upd (js τ 1 (16 + p) (nI 0) 1) 209 (nI u)) (16 + p) 0) (48 + p) 0) := by
      refine ⟨cityW0_upd (cityW0_upd (cityW0_upd hW0 (rk_n (by simpa using hm))) (rk_n (n := 0) (Nat.zero_le _))) (rk_n (n := 0) (Nat.zero_le _)), fun q hq hq1 => ?_⟩
      by_cases eq : q = p
      · subst eq
        rw [pk_us] at hq1
        exact absurd hq1 (by decide)
      · rw [pk_un (by omega), pk_un (by omega), pk_un (by omega), js_k _ _ (by omega)] at hq1
        rw [pk_un (by omega), pk_un (by omega), pk_un (by omega), js_k _ _ (by omega), pk_un (by omega), pk_un (by omega), pk_un (by omega), js_k _ _ (by omega)]
        exact hW.2 q hq hq1
    refine dy_new h ?_ ?_ ?_ (by rw [t0]; exact hWd) (by rw [t0]; exact c1) ⟨by rw [t0, pk_un (by omega), pk_un (by omega), pk_un (by omega), js_k _ _ (by omega)], by rw [t0, pk_un (by omega), pk_un (by omega), pk_un (by omega), js_k _ _ (by omega)]⟩ ?_
    · exact onlyX_tr oX (onlyX_tr (onlyX_tr (onlyX_js _ _ _ (by omega)) (onlyX_js _ _ _ (by omega))) (onlyX_js _ _ _ (by omega)))
    · intro d a b
      rw [js_c _ _ _ a, js_c _ _ _ b, js_c _ _ _ b, js_c _ _ _ b, js_c _ _ _ b]
    · intro k hk
      rw [js_k _ _ hk, js_c _ _ _ (show (0 : Nat) ≠ 1 by omega), js_c _ _ _ (show (0 : Nat) ≠ 1 by omega), js_c _ _ _ (show (0 : Nat) ≠ 1 by omega), js_c _ _ _ (show (0 : Nat) ≠ 1 by omega)]
    · refine ⟨k + 1, ?_, ?_⟩
      · rw [js_at, js_c _ _ _ (show (0 : Nat) ≠ 1 by omega), js_c _ _ _ (show (0 : Nat) ≠ 1 by omega), js_c _ _ _ (show (0 : Nat) ≠ 1 by omega), js_c _ _ _ (show (0 : Nat) ≠ 1 by omega), k1, nI1]
      · rw [js_at, e4]
        have hbt : bt (σ c 4) p = true := by
          rw [(hR.2.1.1 p hp).2]
          simpa using hl
        have := cnt_off hp hbt
        omega
  · rw [if_neg (show ¬ nI (b - w) = (0 : Int32) from nI_ne0 (by omega) (by omega)), if_pos (show (0 : Int32) < nI (b - w) from nI_lt (a := 0) (by omega) (by omega))]
    refine ⟨_, _, rfl, rfl, dy_row h oX o4 oM ⟨hW0, fun q hq h1 => ?_⟩ hR2 ⟨js_k _ _ (by omega), js_k _ _ (by omega)⟩⟩
    rw [js_row] at h1 ⊢
    rw [pk_un (by omega)] at h1
    by_cases eq : q = p
    · subst eq
      rw [pk_un (by omega), pk_us]
      exact ⟨(hW.2 q hq h1).1, nI_ne0 (by omega) (by omega)⟩
    · rw [pk_un (by omega), pk_un (by omega)]
      exact hW.2 q hq h1
