theorem rowL_fr {σ σ' τ τ' : jS} {l : Nat} (h : rowL σ τ l) (h1 : ∀ c, 39 ≤ c → c ≤ 44 → σ' c l = σ c l) (h2 : ∀ j, j < 5 → τ' 24 (5 * l + j) = τ 24 (5 * l + j)) : rowL σ' τ' l := by
  obtain ⟨a, b, v, r, d, q1, q2, q3, q4, q5, p1, p2, p3, p4, p5, p6, r1, r2, r3, r4, r5⟩ := h
  have h20 := h2 0 (by omega)
  refine ⟨a, b, v, r, d, q1, q2, q3, q4, q5, ?_, ?_, ?_, ?_, ?_, ?_, ?_, ?_, ?_, ?_, ?_⟩
  · rw [h1 39 (by omega) (by omega)]; exact p1
  · rw [h1 40 (by omega) (by omega)]; exact p2
  · rw [h1 41 (by omega) (by omega)]; exact p3
  · rw [h1 42 (by omega) (by omega)]; exact p4
  · rw [h1 43 (by omega) (by omega)]; exact p5
  · rw [h1 44 (by omega) (by omega)]; exact p6
  · rw [Nat.add_zero] at h20; rw [h20]; exact r1
  · rw [h2 1 (by omega)]; exact r2
  · rw [h2 2 (by omega)]; exact r3
  · rw [h2 3 (by omega)]; exact r4
  · rw [h2 4 (by omega)]; exact r5
def rows (k : Nat) (σ τ : jS) : Prop := ∀ l, l < k → rowL σ τ l
theorem rows_fr {k : Nat} {σ σ' τ τ' : jS} (h : rows k σ τ) (h1 : frm σ σ') (h2 : frM sN τ τ') : rows k σ' τ' := fun l hl => rowL_fr (h l hl) (fun c _ _ => by rw [h1 c (by omega)]) (fun j _ => by rw [h2.1 24 (by omega)])
theorem rows_24 {k : Nat} {σ τ : jS} (h : rows k σ τ) {j : Nat} (hj : 5 * k ≤ j) (v : Int32) : rows k σ (js τ 24 j v) := fun l hl => rowL_fr (h l hl) (fun c _ _ => rfl) (fun j _ => js_k _ _ (by omega))
theorem rows_0 {k : Nat} {σ τ : jS} (h : rows k σ τ) (j : Nat) (v : Int32) : rows k σ (js τ 0 j v) := fun l hl => rowL_fr (h l hl) (fun c _ _ => rfl) (fun j _ => by rw [js_c _ _ _ (by omega)])
def ml5 (F : Nat) (y6 : Int32) (σ34 : jS) : Option (Int32 × jS) := (Option.bind (mX12_readsPerhaps F (64 : Int32) (2 : Int32) σ34) fun q36 => (if q36.1 = 0 then some ((0 : Int32), q36.2) else (if jin (y6 + (3 : Int32)) 120 = true then (lt (js q36.2 24 (y6 + (3 : Int32)).toNatClampNeg (q36.2 0 10)) fun σ37 => (Option.bind (mX12_readsPerhaps F (47 : Int32) (4 : Int32) σ37) fun q39 => (if q39.1 = 0 then some ((0 : Int32), q39.2) else (if jin (y6 + (4 : Int32)) 120 = true then (lt (js q39.2 24 (y6 + (4 : Int32)).toNatClampNeg (q39.2 0 10)) fun σ40 => some ((1 : Int32), σ40)) else none)))) else none)))
def ml4 (F : Nat) (y6 y9 y19 : Int32) (σ25 : jS) : Option (Int32 × jS) := (lt (σ25 0 7) fun y26 => (Option.bind (mX12_readsAmount F (6 : Int32) σ25) fun q27 => (if q27.1 = 0 then some ((0 : Int32), q27.2) else (if (q27.2 0 10) = 0 then (Option.bind (mX12_wrongAt F (3 : Int32) y26 q27.2) fun q28 => (if jbo q28.1 = true then some (q28.1, q28.2) else none)) else (if jin y6 120 = true then (lt (js q27.2 24 y6.toNatClampNeg y9) fun σ30 => (if jin (y6 + (1 : Int32)) 120 = true then (lt (js σ30 24 (y6 + (1 : Int32)).toNatClampNeg y19) fun σ32 => (if jin (y6 + (2 : Int32)) 120 = true then (lt (js σ32 24 (y6 + (2 : Int32)).toNatClampNeg (σ32 0 10)) fun σ34 => ml5 F y6 σ34) else none)) else none)) else none)))))
def ml2 (F : Nat) (y6 y9 : Int32) (ρ : jS) : Option (Int32 × jS) := (Option.bind (mX12_isLetter F ρ) fun q15 => (if q15 = 0 then (Option.bind (mX12_wrongAt F (1 : Int32) ((ρ 0 7)) ρ) fun q16 => (if jbo q16.1 = true then some (q16.1, q16.2) else none)) else (Option.bind (mX12_here F ρ) fun q18 => (lt (q18 - (97 : Int32)) fun y19 => (if y19 = y9 then (Option.bind (mX12_wrongAt F (6 : Int32) ((ρ 0 7)) ρ) fun q20 => (if jbo q20.1 = true then some (q20.1, q20.2) else none)) else (Option.bind (mX12_isTold F y19 ρ) fun q22 => (if q22 = 0 then (Option.bind (mX12_wrongAt F (7 : Int32) ((ρ 0 7)) ρ) fun q23 => (if jbo q23.1 = true then some (q23.1, q23.2) else none)) else (lt (js ρ 0 7 ((ρ 0 7) + (1 : Int32))) fun σ25 => ml4 F y6 y9 y19 σ25))))))))
def ml1 (F : Nat) (y6 y9 : Int32) (σ13 : jS) : Option (Int32 × jS) := (Option.bind (mX12_takes F (62 : Int32) σ13) fun q14 => (if q14.1 = 0 then some ((0 : Int32), q14.2) else ml2 F y6 y9 q14.2))
theorem ml_eq (F : Nat) (σ : jS) : mX12_readsLoan F σ = (Option.bind (mX12_isLetter F σ) fun q1 => (if q1 = 0 then (Option.bind (mX12_wrongAt F (1 : Int32) ((σ 0 7)) σ) fun q2 => (if jbo q2.1 = true then some (q2.1, q2.2) else none)) else (if (σ 0 38) = (24 : Int32) then (Option.bind (mX12_wrongAt F (4 : Int32) ((σ 0 7)) σ) fun q4 => (if jbo q4.1 = true then some (q4.1, q4.2) else none)) else (lt ((5 : Int32) * (σ 0 38)) fun y6 => (lt (js σ 0 38 ((σ 0 38) + (1 : Int32))) fun σ7 => (Option.bind (mX12_here F σ7) fun q8 => (lt (q8 - (97 : Int32)) fun y9 => (Option.bind (mX12_isTold F y9 σ7) fun q10 => (if q10 = 0 then (Option.bind (mX12_wrongAt F (7 : Int32) ((σ7 0 7)) σ7) fun q11 => (if jbo q11.1 = true then some (q11.1, q11.2) else none)) else (lt (js σ7 0 7 ((σ7 0 7) + (1 : Int32))) fun σ13 => ml1 F y6 y9 σ13)))))))))) := rfl
def oL (B : Nat → Nat) (n i k : Nat) (σ τ : jS) (rx : Option jS) (rm : Option (Int32 × jS)) : Prop := ∃ σ' b τ', rx = some σ' ∧ rm = some (b, τ') ∧ frL σ σ' ∧ frK τ τ' ∧ ((b = 0 ∧ ∃ i' f, f ≠ 0 ∧ tpX B n i' f σ' ∧ τ' 0 9 = f) ∨ (b = 1 ∧ ∃ i', i ≤ i' ∧ tpX B n i' 0 σ' ∧ tpM B n i' τ' ∧ loR (k + 1) σ' τ'))
theorem oL_mono {B : Nat → Nat} {n i j k : Nat} {σ σ0 τ τ0 : jS} {rx : Option jS} {rm : Option (Int32 × jS)} (h : oL B n i k σ τ rx rm) (hj : j ≤ i) (h1 : frL σ0 σ) (h2 : frK τ0 τ) : oL B n j k σ0 τ0 rx rm := by
  obtain ⟨σ', b, τ', a1, a2, a3, a4, a5⟩ := h
  refine ⟨σ', b, τ', a1, a2, frL_tr h1 a3, frK_tr h2 a4, ?_⟩
  rcases a5 with a5 | ⟨a5, i', q1, q2⟩
  · exact Or.inl a5
  · exact Or.inr ⟨a5, i', by omega, q2⟩
theorem s_lg5 (F : Nat) (hF : 10 ≤ F) {B : Nat → Nat} {n i k a b v : Nat} {σ τ : jS} (hX : tpX B n i 0 σ) (hM : tpM B n i τ) (hk : k < 24) (h38 : σ 38 6 = nI k) (h38m : τ 0 38 = nI (k + 1)) (hr : rows k σ τ) (ha : a < 16) (hb : b < 16) (hv : v ≤ 999999) (e0 : τ 24 (5 * k) = nI a) (e1 : τ 24 (5 * k + 1) = nI b) (e2 : τ 24 (5 * k + 2) = nI v) :
    oL B n i k σ τ (jn_X5_readLoan_58 F (nI a) (nI b) (nI v) σ) (ml5 F (nI (5 * k)) τ) := by
  obtain ⟨r, σ1, b1, τ1, a1, a2, a3, a4, a5, a6⟩ := s_part F hF hX hM (c := 64) (k := 2) (by omega) (by omega) (by omega)
  have a1' : mX5_readPart F (64 : Int32) (2 : Int32) σ = some (nI r, σ1) := a1
  have a3' : mX12_readsPerhaps F (64 : Int32) (2 : Int32) τ = some (b1, τ1) := a3
  unfold jn_X5_readLoan_58 ml5
  rw [a1', a3']
  simp only [Option.bind_some]
  rcases a6 with ⟨rfl, i1, f, hf, c1, c2⟩ | ⟨rfl, i1, hi1, c1, c2, c3⟩
  · simp only [if_true]
    have e2 : mX5_readPart F (47 : Int32) (4 : Int32) σ1 = some (0, σ1) := by
      unfold mX5_readPart
      rw [show (47 : Int32) = nI 47 from rfl, x_stands F c1 (by omega), if_neg (fun k => hf k.1)]
      rfl
    simp only [e2, Option.bind_some, c1.2.2.2.2.1, if_neg hf]
    exact ⟨σ1, 0, τ1, rfl, rfl, frL_of a2, frK_of a4, Or.inl ⟨rfl, i1, f, hf, c1, c2⟩⟩
  · have e3 : nI (5 * k) + (3 : Int32) = nI (5 * k + 3) := nI_add _ 3
    have e4 : nI (5 * k) + (4 : Int32) = nI (5 * k + 4) := nI_add _ 4
    simp only [if_neg (show ¬ (1 : Int32) = 0 by decide), e3, e4, jin_nI (show 5 * k + 3 < 120 by omega) (show 120 < 2 ^ 31 by omega), jin_nI (show 5 * k + 4 < 120 by omega) (show 120 < 2 ^ 31 by omega), if_true, nI_clamp (show 5 * k + 3 < 2 ^ 31 by omega), nI_clamp (show 5 * k + 4 < 2 ^ 31 by omega), ltE, c3]
    have hM1 : tpM B n i1 (js τ1 24 (5 * k + 3) (nI r)) := tpM_cell c2 _ _ (by omega) (by omega)
    obtain ⟨d, σ2, b2, τ2, d1, d2, d3, d4, d5, d6⟩ := s_part F hF c1 hM1 (c := 47) (k := 4) (by omega) (by omega) (by omega)
    have d1' : mX5_readPart F (47 : Int32) (4 : Int32) σ1 = some (nI d, σ2) := d1
    have d3' : mX12_readsPerhaps F (47 : Int32) (4 : Int32) (js τ1 24 (5 * k + 3) (nI r)) = some (b2, τ2) := d3
    rw [d1', d3']
    simp only [Option.bind_some]
    have fX := frm_tr a2 d2
    have fM := frK_tr (frK_tr (frK_of a4) (frK_24 _ (5 * k + 3) (nI r))) (frK_of d4)
    rcases d6 with ⟨rfl, i2, f, hf, c4, c5⟩ | ⟨rfl, i2, hi2, c4, c5, c6⟩
    · simp only [if_true, c4.2.2.2.2.1, if_neg hf]
      exact ⟨σ2, 0, τ2, rfl, rfl, frL_of fX, fM, Or.inl ⟨rfl, i2, f, hf, c4, c5⟩⟩
    · simp only [if_neg (show ¬ (1 : Int32) = 0 by decide), c4.2.2.2.2.1, if_true, c6]
      have h38' : σ2 38 6 = nI k := by rw [fX 38 (by omega)]; exact h38
      obtain ⟨σ3, g1, g2, g3, g4, g5, g6, g7, g8, g9, g10, g11⟩ := x_add F c4 h38' hk (nI a) (nI b) (nI v) (nI r) (nI d)
      rw [g1]
      have q24 : ∀ j, j ≠ 5 * k + 3 → τ2 24 j = τ 24 j := fun j hj => by rw [d4.1 24 (by omega), js_k _ _ hj, a4.1 24 (by omega)]
      refine ⟨σ3, 1, _, rfl, rfl, frL_tr (frL_of fX) g3, frK_tr fM (frK_24 _ _ _), Or.inr ⟨rfl, i2, by omega, g2, tpM_cell c5 _ _ (by omega) (by omega), by omega, g4, ?_, ?_⟩⟩
      · rw [js_c _ _ _ (by omega), d4.2 38 (by unfold sN; omega), js_c _ _ _ (by omega), a4.2 38 (by unfold sN; omega)]
        exact h38m
      · intro l hl
        by_cases e : l = k
        · subst e
          refine ⟨a, b, v, r, d, ha, hb, hv, by omega, by omega, g5, g6, g7, g8, g9, g10, ?_, ?_, ?_, ?_, js_at _ _ _ _⟩
          · rw [js_k _ _ (by omega), q24 _ (by omega)]; exact e0
          · rw [js_k _ _ (by omega), q24 _ (by omega)]; exact e1
          · rw [js_k _ _ (by omega), q24 _ (by omega)]; exact e2
          · rw [js_k _ _ (by omega), d4.1 24 (by omega), js_at]
        · refine rowL_fr (hr l (by omega)) (fun c h1 h2 => ?_) (fun j hj => ?_)
          · rw [g11 c l h1 h2 (by omega), fX c (by omega)]
          · rw [js_k _ _ (by omega), q24 _ (by omega)]
theorem s_lg4 (F : Nat) (hF : 10 ≤ F) {B : Nat → Nat} {n i k a b : Nat} {σ τ : jS} (hX : tpX B n i 0 σ) (hM : tpM B n i τ) (hk : k < 24) (h38 : σ 38 6 = nI k) (h38m : τ 0 38 = nI (k + 1)) (hr : rows k σ τ) (ha : a < 16) (hb : b < 16) :
    oL B n i k σ τ (lg3 F (nI a) (nI b) σ) (ml4 F (nI (5 * k)) (nI a) (nI b) τ) := by
  obtain ⟨v, σ1, b1, τ1, a1, a2, a3, a4, a5, a6⟩ := s_amount F hF hX hM (k := 6) (by omega) (by omega)
  have a1' : mX10_number F (6 : Int32) σ = some (nI v, σ1) := a1
  have a3' : mX12_readsAmount F (6 : Int32) τ = some (b1, τ1) := a3
  have hin := hM.2.2.1
  have hn := hM.2.2.2.1
  unfold lg3 ml4
  rw [a1', a3', hX.2.2.1, hM.1]
  simp only [Option.bind_some, ltE]
  rcases a6 with ⟨rfl, i1, f, hf, c1, c2⟩ | ⟨rfl, i1, hi1, c1, c2, c3⟩
  · simp only [if_true, x_failD F c1 hf, Option.bind_some, xD_tail F c1 hf, ite_self]
    exact ⟨σ1, 0, τ1, rfl, rfl, frL_of a2, frK_of a4, Or.inl ⟨rfl, i1, f, hf, c1, c2⟩⟩
  · simp only [if_neg (show ¬ (1 : Int32) = 0 by decide), c3]
    by_cases hv0 : v = 0
    · subst hv0
      obtain ⟨σ2, b1, b2, b3⟩ := x_fail0 F c1 3 i
      have b1' : mX10_fail F (3 : Int32) (nI i) σ1 = some σ2 := b1
      rw [if_pos (show nI 0 = 0 from rfl), if_pos (show nI 0 = 0 from rfl), b1']
      have hf : flt 3 i ≠ 0 := flt_ne (by omega) (by omega) (by omega)
      simp only [Option.bind_some, xD_tail F b2 hf]
      exact ⟨σ2, 0, js τ1 0 9 (flt 3 i), rfl, rfl, frL_of (frm_tr a2 b3), frK_tr (frK_of a4) (frK_js _ _ (Or.inr (Or.inl rfl))), Or.inl ⟨rfl, i1, _, hf, b2, js_at _ _ _ _⟩⟩
    · have hv0' : ¬ nI v = 0 := nI_ne0 (by omega) (by omega)
      have e1 : nI (5 * k) + (1 : Int32) = nI (5 * k + 1) := nI_add _ 1
      have e2 : nI (5 * k) + (2 : Int32) = nI (5 * k + 2) := nI_add _ 2
      rw [if_neg hv0', if_neg hv0']
      simp only [e1, e2, jin_nI (show 5 * k < 120 by omega) (show 120 < 2 ^ 31 by omega), jin_nI (show 5 * k + 1 < 120 by omega) (show 120 < 2 ^ 31 by omega), jin_nI (show 5 * k + 2 < 120 by omega) (show 120 < 2 ^ 31 by omega), if_true, nI_clamp (show 5 * k < 2 ^ 31 by omega), nI_clamp (show 5 * k + 1 < 2 ^ 31 by omega), nI_clamp (show 5 * k + 2 < 2 ^ 31 by omega), js_c _ _ _ (show (0 : Nat) ≠ 24 by omega), c3]
      have key := s_lg5 F hF (σ := σ1) (τ := js (js (js τ1 24 (5 * k) (nI a)) 24 (5 * k + 1) (nI b)) 24 (5 * k + 2) (nI v)) (k := k) (a := a) (b := b) (v := v) c1 (tpM_cell (tpM_cell (tpM_cell c2 _ _ (by omega) (by omega)) _ _ (by omega) (by omega)) _ _ (by omega) (by omega)) hk (by rw [a2 38 (by omega)]; exact h38) (by rw [js_c _ _ _ (by omega), js_c _ _ _ (by omega), js_c _ _ _ (by omega), a4.2 38 (by unfold sN; omega)]; exact h38m) (rows_24 (rows_24 (rows_24 (rows_fr hr a2 a4) (by omega) _) (by omega) _) (by omega) _) ha hb (by omega) (by rw [js_k _ _ (by omega), js_k _ _ (by omega), js_at]) (by rw [js_k _ _ (by omega), js_at]) (js_at _ _ _ _)
      exact oL_mono key (by omega) (frL_of a2) (frK_tr (frK_tr (frK_tr (frK_of a4) (frK_24 _ _ _)) (frK_24 _ _ _)) (frK_24 _ _ _))
theorem s_lg2 (F : Nat) (hF : 10 ≤ F) {B : Nat → Nat} {n i k a : Nat} {σ τ : jS} (hX : tpX B n i 0 σ) (hM : tpM B n i τ) (hk : k < 24) (h38 : σ 38 6 = nI k) (h38m : τ 0 38 = nI (k + 1)) (hr : rows k σ τ) (ha : a < 16) {x1 : Int32} (hW : cityW (τ 1)) (hb : bitsR x1 (τ 1)) :
    oL B n i k σ τ (lg2 F x1 (nI a) σ) (ml2 F (nI (5 * k)) (nI a) τ) := by
  have hin := hM.2.2.1
  have hn := hM.2.2.2.1
  obtain ⟨r, σ1, a1, a2, a3⟩ := x_person F hX h38 (by omega) hb (nI a)
  unfold lg2 ml2
  rw [a1, hM.1, m_here F hM]
  simp only [Option.bind_some, ltE]
  have bad : ∀ (w i' : Nat), 1 ≤ w → w ≤ 7 → tpX B n i' (flt w i) σ1 → oL B n i k σ τ (lg3 F (nI a) r σ1) (some (0, js τ 0 9 (flt w i))) := by
    intro w i' h1 h2 h3
    have hf : flt w i ≠ 0 := flt_ne h1 h2 (by omega)
    obtain ⟨σ2, i2, b1, b2, b3⟩ := xD_lg3 F hF h3 hf (nI a) r
    exact ⟨σ2, 0, _, b1, rfl, frL_of (frm_tr a2 b3), frK_js _ _ (Or.inr (Or.inl rfl)), Or.inl ⟨rfl, i2, _, hf, b2, js_at _ _ _ _⟩⟩
  rcases a3 with ⟨h1, i', h2⟩ | ⟨p, hp, h2⟩
  · rcases m_isLetter F hX.1 hM with ⟨p, hp, e⟩ | ⟨_, e⟩
    · exact absurd hp (h1 p)
    · rw [e]
      exact bad 1 i' (by omega) (by omega) h2
  · rcases m_isLetter F hX.1 hM with ⟨_, _, e⟩ | ⟨h1, _⟩
    rotate_left
    · exact absurd hp (h1 p)
    rw [e]
    simp only [Option.bind_some, if_neg (show ¬ (1 : Int32) = 0 by decide)]
    have hs : sg B n i - 97 = nI p := by
      rcases sg97 hX.1 n i with ⟨p', hp', e⟩ | ⟨h1, _⟩
      · have : p' = p := by unfold isL at hp hp'; omega
        rw [e, this]
      · exact absurd hp (h1 p)
    rw [hs, m_told hW, tl_in _ hp.1]
    simp only [Option.bind_some]
    rcases h2 with ⟨h24, _⟩ | ⟨_, h3, i', h4⟩ | ⟨_, h3, h4, i', h5⟩ | ⟨_, h3, h4, h5, h6⟩
    · omega
    · rw [if_pos h3]
      exact bad 6 i' (by omega) (by omega) h4
    · rw [if_neg h3, h4, if_pos rfl]
      exact bad 7 i' (by omega) (by omega) h5
    · rw [if_neg h3, h4, if_neg (show ¬ (1 : Int32) = 0 by decide), h5]
      have key := s_lg4 F hF (k := k) (a := a) (b := p) h6 (tpM_step hM hp.2.1) hk (by rw [a2 38 (by omega)]; exact h38) (by rw [js_k _ _ (by omega)]; exact h38m) (rows_0 (rows_fr hr a2 (frM_rf τ)) 7 _) ha hp.1
      rw [hM.1] at key
      exact oL_mono key (by omega) (frL_of a2) (frK_js _ _ (Or.inl rfl))
theorem s_loanR (F : Nat) (hF : 10 ≤ F) {B : Nat → Nat} {n i k : Nat} {σ τ : jS} (hX : tpX B n i 0 σ) (hM : tpM B n i τ) (hL : loR k σ τ) {x1 : Int32} (hW : cityW (τ 1)) (hb : bitsR x1 (τ 1)) :
    oL B n (i + 1) k σ τ (mX5_readLoan F x1 σ) (mX12_readsLoan F τ) := by
  have hin := hM.2.2.1
  have hn := hM.2.2.2.1
  obtain ⟨hk, h38, h38m, hr⟩ := hL
  obtain ⟨r, σ1, a1, a2, a3⟩ := x_person F hX h38 hk hb (-1)
  rw [lg_eq, ml_eq, a1, hM.1, h38m]
  simp only [Option.bind_some, ltE]
  have bad : ∀ (w i' : Nat) (τ1 : jS), 1 ≤ w → w ≤ 7 → tpX B n i' (flt w i) σ1 → frK τ τ1 → oL B n (i + 1) k σ τ (lg1 F x1 r σ1) (some (0, js τ1 0 9 (flt w i))) := by
    intro w i' τ1 h1 h2 h3 h4
    have hf : flt w i ≠ 0 := flt_ne h1 h2 (by omega)
    obtain ⟨σ2, i2, b1, b2, b3⟩ := xD_lg1 F hF h3 hf x1 r
    exact ⟨σ2, 0, _, b1, rfl, frL_of (frm_tr a2 b3), frK_tr h4 (frK_js _ _ (Or.inr (Or.inl rfl))), Or.inl ⟨rfl, i2, _, hf, b2, js_at _ _ _ _⟩⟩
  rcases a3 with ⟨h1, i', h2⟩ | ⟨p, hp, h2⟩
  · rcases m_isLetter F hX.1 hM with ⟨p, hp, e⟩ | ⟨_, e⟩
    · exact absurd hp (h1 p)
    · rw [e]
      exact bad 1 i' τ (by omega) (by omega) h2 (frK_rf τ)
  · rcases m_isLetter F hX.1 hM with ⟨_, _, e⟩ | ⟨h1, _⟩
    rotate_left
    · exact absurd hp (h1 p)
    rw [e]
    simp only [Option.bind_some, if_neg (show ¬ (1 : Int32) = 0 by decide)]
    have hs : sg B n i - 97 = nI p := by
      rcases sg97 hX.1 n i with ⟨p', hp', e⟩ | ⟨h1, _⟩
      · have : p' = p := by unfold isL at hp hp'; omega
        rw [e, this]
      · exact absurd hp (h1 p)
    have hpm : nI p ≠ -1 := m1_ne p (by have := hp.1; omega)
    have hM7 : tpM B n i (js τ 0 38 (nI (k + 1))) := tpM_js hM _ (by omega) (by omega)
    have hW7 : cityW (js τ 0 38 (nI (k + 1)) 1) := by rw [js_c _ _ _ (by omega)]; exact hW
    rw [nI1, m_here F hM7]
    simp only [Option.bind_some]
    rw [hs, m_told hW7, js_c _ _ _ (show (1 : Nat) ≠ 0 by omega), tl_in _ hp.1, hM7.1, show (5 : Int32) * nI k = nI (5 * k) from pk_mul 5 k]
    simp only [Option.bind_some]
    have f7 : frK τ (js τ 0 38 (nI (k + 1))) := frK_js _ _ (Or.inr (Or.inr (Or.inr rfl)))
    rcases h2 with ⟨h24, i', h3⟩ | ⟨_, h3, _⟩ | ⟨h24, h3, h4, i', h5⟩ | ⟨h24, h3, h4, h5, h6⟩
    · rw [if_pos (show nI k = 24 by rw [h24]; rfl)]
      exact bad 4 i' τ (by omega) (by omega) h3 (frK_rf τ)
    · exact absurd h3 hpm
    · rw [if_neg (show ¬ nI k = (24 : Int32) from fun e => by
        have := nI_inj (b := 24) (by omega) (by omega) e
        omega), h4, if_pos rfl]
      exact bad 7 i' _ (by omega) (by omega) h5 f7
    · rw [if_neg (show ¬ nI k = (24 : Int32) from fun e => by
        have := nI_inj (b := 24) (by omega) (by omega) e
        omega), h4, if_neg (show ¬ (1 : Int32) = 0 by decide), h5]
      have hM8 : tpM B n (i + 1) (js (js τ 0 38 (nI (k + 1))) 0 7 (nI i + 1)) := by
        have := tpM_step hM7 hp.2.1
        rw [hM7.1] at this
        exact this
      have f8 : frK τ (js (js τ 0 38 (nI (k + 1))) 0 7 (nI i + 1)) := frK_tr f7 (frK_js _ _ (Or.inl rfl))
      obtain ⟨σ2, b1, b2, b3⟩ := x_take F h6 (c := 62) (by omega)
      have b1' : mX10_take F (62 : Int32) σ1 = some σ2 := b1
      have b4 := m_takes F hX.1 hM8 (c := 62) (by omega)
      have b4' : mX12_takes F (62 : Int32) (js (js τ 0 38 (nI (k + 1))) 0 7 (nI i + 1)) = _ := b4
      unfold lg1 ml1
      rw [b1', b4']
      by_cases g : i + 1 < n ∧ B (i + 1) = 62
      · rw [if_pos g] at b2 ⊢
        simp only [Option.bind_some, if_neg (show ¬ (1 : Int32) = 0 by decide)]
        have hM9 := tpM_step hM8 g.1
        have fX : frm σ σ2 := frm_tr a2 b3
        have key := s_lg2 F hF (k := k) (a := p) (x1 := x1) b2 hM9 h24 (by rw [fX 38 (by omega)]; exact h38) (by rw [js_k _ _ (by omega), js_k _ _ (by omega), js_at]) (rows_0 (rows_0 (rows_0 (rows_fr hr fX (frM_rf τ)) _ _) _ _) _ _) hp.1 (by rw [js_c _ _ _ (by omega), js_c _ _ _ (by omega)]; exact hW7) (by rw [js_c _ _ _ (by omega), js_c _ _ _ (by omega), js_c _ _ _ (by omega)]; exact hb)
        exact oL_mono key (by omega) (frL_of fX) (frK_tr f8 (frK_js _ _ (Or.inl rfl)))
      · rw [if_neg g] at b2 ⊢
        rw [if_pos rfl] at b2
        simp only [Option.bind_some, if_true]
        have hf : flt 1 (i + 1) ≠ 0 := flt_ne (by omega) (by omega) (by have := hp.2.1; omega)
        obtain ⟨σ3, i3, c1, c2, c3⟩ := xD_lg2 F hF b2 hf x1 (nI p)
        exact ⟨σ3, 0, _, c1, rfl, frL_of (frm_tr (frm_tr a2 b3) c3), frK_tr f8 (frK_js _ _ (Or.inr (Or.inl rfl))), Or.inl ⟨rfl, i3, _, hf, c2, js_at _ _ _ _⟩⟩
