theorem rng {x : Int32} {n : Nat} (hn : n < 2 ^ 31) (h1 : ¬ x < 0) (h2 : x < nI n) : ∃ p, p < n ∧ x = nI p := by
  rw [fa_lt, nI_toInt hn] at h2
  rw [fa_lt] at h1
  have e0 : (0 : Int32).toInt = 0 := rfl
  refine ⟨x.toInt.toNat, by omega, ?_⟩
  rw [fa_eq, nI_toInt (by omega)]
  omega
def tl (t : Nat → Int32) (x : Int32) : Int32 := if x < 0 then 0 else if x < 16 then t x.toNatClampNeg else 0
theorem tl_in (t : Nat → Int32) {p : Nat} (hp : p < 16) : tl t (nI p) = t p := by
  unfold tl
  rw [if_neg (nI_pos (by omega)), if_pos (show nI p < 16 from nI_lt (b := 16) hp (by omega)), nI_clamp (by omega)]
theorem tl_cases (t : Nat → Int32) (x : Int32) : (tl t x = 0 ∧ (x < 0 ∨ ¬ x < 16)) ∨ ∃ p, p < 16 ∧ x = nI p := by
  unfold tl
  by_cases h1 : x < 0
  · left; simp [h1]
  · by_cases h2 : x < 16
    · exact Or.inr (rng (n := 16) (by omega) h1 h2)
    · left; simp [h1, h2]
theorem x0_told {F c : Nat} {σ : jS} {t : Nat → Int32} (h : cityR c σ t) (x : Int32) : mX0_isTold F c x σ = some (tl t x) := by
  unfold mX0_isTold tl
  by_cases h1 : x < 0
  · simp [h1]
  · by_cases h2 : x < 16
    · obtain ⟨p, hp, rfl⟩ := rng (n := 16) (by omega) h1 h2
      rw [if_neg h1, if_pos h2, if_neg h1, if_pos h2, nI_clamp (by omega)]
      rcases (h.1.1 p hp).1 with e | e
      · rw [if_pos ((bitsR_z h.1 hp).mpr e), e]
      · rw [if_neg (fun z => absurd ((bitsR_z h.1 hp).mp z) (by rw [e]; decide)), e]
    · simp [h1, h2]
theorem x0_live {F c : Nat} {σ : jS} {t : Nat → Int32} (h : cityR c σ t) (x : Int32) : mX0_isLiving F c x σ = some (tl (fun p => t (48 + p)) x) := by
  unfold mX0_isLiving tl
  by_cases h1 : x < 0
  · simp [h1]
  · by_cases h2 : x < 16
    · obtain ⟨p, hp, rfl⟩ := rng (n := 16) (by omega) h1 h2
      rw [if_neg h1, if_pos h2, if_neg h1, if_pos h2, nI_clamp (by omega)]
      rcases (h.2.1.1 p hp).1 with e | e
      · rw [if_pos ((bitsR_z h.2.1 hp).mpr e), e]
      · have e : t (48 + p) = 1 := e
        rw [if_neg (fun z => absurd ((bitsR_z h.2.1 hp).mp z) (by rw [e]; decide))]
        show some 1 = some (t (48 + p))
        rw [e]
    · simp [h1, h2]
theorem inr15 (x : Int32) : inr x 0 15 = if x < 0 then 0 else if x < 16 then 1 else 0 := by
  unfold inr
  by_cases h : x < 0
  · simp [h]
  · have e : (15 : Int32) < x ↔ ¬ x < 16 := by
      rw [fa_lt, fa_lt, show (15 : Int32).toInt = 15 from rfl, show (16 : Int32).toInt = 16 from rfl]
      omega
    by_cases h2 : x < 16
    · simp [h, h2, e]
    · simp [h, h2, e]
theorem rk01 {i : Nat} {v : Int32} (h : rk i v) (hi : i < 16 ∨ (48 ≤ i ∧ i < 64)) : v = 0 ∨ v = 1 := by
  obtain ⟨n, rfl, hn⟩ := h
  have h1 : n ≤ 1 := by
    rcases hi with h | h
    · rw [if_pos h] at hn; exact hn
    · rw [if_neg (by omega), if_neg (by omega), if_neg (by omega), if_pos (by omega)] at hn; exact hn
  rcases (show n = 0 ∨ n = 1 by omega) with rfl | rfl
  · exact Or.inl rfl
  · exact Or.inr rfl
theorem m_told {F : Nat} {τ : jS} (h : cityW (τ 1)) (x : Int32) : mX12_isTold F x τ = some (tl (τ 1) x) := by
  unfold mX12_isTold tl
  rw [isI, inr15]
  by_cases h1 : x < 0
  · simp [h1]
  · by_cases h2 : x < 16
    · obtain ⟨p, hp, rfl⟩ := rng (n := 16) (by omega) h1 h2
      have e : (0 : Int32) + nI p = nI p := by rw [q0, nI_add]; simp
      simp only [h1, h2, if_true, if_false, Option.bind_some, lt, e, jin_nI (show p < 212 by omega) (by omega), nI_clamp (show p < 2 ^ 31 by omega)]
      rcases rk01 (h.1 p (by omega)) (Or.inl hp) with e | e <;> simp [e]
    · simp [h1, h2]
theorem m_live {F : Nat} {τ : jS} (h : cityW (τ 1)) (x : Int32) : mX12_isLiving F x τ = some (tl (fun p => τ 1 (48 + p)) x) := by
  unfold mX12_isLiving
  rw [m_told h]
  rcases tl_cases (τ 1) x with ⟨e, h1⟩ | ⟨p, hp, rfl⟩
  · rw [e]
    have e2 : tl (fun p => τ 1 (48 + p)) x = 0 := by
      unfold tl
      rcases h1 with h1 | h1
      · simp [h1]
      · by_cases h2 : x < 0 <;> simp [h1, h2]
    rw [e2]
    rfl
  · rw [tl_in _ hp, tl_in _ hp]
    have e : (48 : Int32) + nI p = nI (48 + p) := nI_add 48 p
    simp only [Option.bind_some, lt, e, jin_nI (show 48 + p < 212 by omega) (by omega), nI_clamp (show 48 + p < 2 ^ 31 by omega), if_true]
    rcases rk01 (h.1 (48 + p) (by omega)) (Or.inr ⟨by omega, by omega⟩) with e2 | e2
    · rw [e2]
      rcases rk01 (h.1 p (by omega)) (Or.inl hp) with e1 | e1 <;> simp [e1]
    · rw [e2, (h.2 p hp e2).1]
      simp
/-- a state that differs in the city now alone -/
def onlyX (c : Nat) (σ σ' : jS) : Prop := ∀ d, (d < c ∨ c + 10 ≤ d) → σ' d = σ d
theorem onlyX_js {c d : Nat} (σ : jS) (k : Nat) (v : Int32) (h : c ≤ d ∧ d < c + 10) : onlyX c σ (js σ d k v) := fun e he => js_c σ k v (by omega)
theorem onlyX_tr {c : Nat} {a b d : jS} (h : onlyX c a b) (g : onlyX c b d) : onlyX c a d := fun e he => (g e he).trans (h e he)
theorem onlyX_rf {c : Nat} (a : jS) : onlyX c a a := fun _ _ => rfl
theorem offX_of {σ σ' : jS} (h : onlyX 3 σ σ') : offX σ σ' ∧ σ' 1 1 = σ 1 1 :=
  ⟨⟨fun k _ => by rw [h 0 (by omega)], h 2 (by omega), fun c _ _ => h c (by omega), h 34 (by omega), h 35 (by omega), fun c _ _ => h c (by omega)⟩, by rw [h 1 (by omega)]⟩
theorem offM_js {τ : jS} (k : Nat) (v : Int32) : offM τ (js τ 1 k v) ∧ js τ 1 k v 0 6 = τ 0 6 := by
  have e : ∀ d, d ≠ 1 → js τ 1 k v d = τ d := fun d hd => js_c τ k v hd
  exact ⟨⟨e 3 (by omega), e 4 (by omega), e 5 (by omega), e 6 (by omega), fun c _ _ => e c (by omega), by rw [e 0 (by omega)], by rw [e 0 (by omega)]⟩, by rw [e 0 (by omega)]⟩
theorem offM_tr {a b c : jS} (h : offM a b ∧ b 0 6 = a 0 6) (g : offM b c ∧ c 0 6 = b 0 6) : offM a c ∧ c 0 6 = a 0 6 := by
  obtain ⟨⟨h1, h2, h3, h4, h5, h6, h7⟩, h8⟩ := h
  obtain ⟨⟨g1, g2, g3, g4, g5, g6, g7⟩, g8⟩ := g
  exact ⟨⟨g1.trans h1, g2.trans h2, g3.trans h3, g4.trans h4, fun c a b => (g5 c a b).trans (h5 c a b), g6.trans h6, g7.trans h7⟩, g8.trans h8⟩
/-! ===== seed ===== -/
theorem s_seed (F : Nat) : S_seed F Inv := by
  intro σ τ x hI
  unfold mX11_seed mX12_seed
  rw [isW, isI]
  rcases inr_c x 0 65535 with e | ⟨e, h1, h2⟩
  · rw [e]
    exact ⟨0, σ, τ, rfl, rfl, hI⟩
  · rw [e]
    obtain ⟨p, -, hp, rfl⟩ := inr_nat (a := 0) (b := 65535) (by omega) (by omega) h1 h2
    refine ⟨1, js σ 3 7 (nI p), js τ 1 211 (nI p), rfl, rfl, ?_⟩
    obtain ⟨-, a2, a3, -, -, -⟩ := id hI
    have o1 := offX_of (onlyX_js (c := 3) (d := 3) σ 7 (nI p) (by omega))
    have o2 := offM_js (τ := τ) 211 (nI p)
    refine Inv_city hI o1.1 o2.1 o1.2 o2.2 ?_ ?_
    · rw [js_row]
      exact ⟨cityW0_upd a2.1 (rk_n (by simpa using hp)), fun q hq h => by
        rw [pk_un (by omega)] at h
        rw [pk_un (by omega), pk_un (by omega)]
        exact a2.2 q hq h⟩
    · rw [js_row]
      exact cityR_lot a3 _
/-! ===== person ===== -/
theorem s_person (F : Nat) : S_person F Inv := by
  intro σ τ x1 x2 x3 hI
  unfold mX11_person mX12_person
  simp only [isW, isI, Option.bind_some]
  rcases inr_c x1 0 15 with e1 | ⟨e1, h1, h2⟩
  · exact ⟨0, σ, τ, by simp [e1], by simp [e1], hI⟩
  rcases inr_c x2 1 999999999 with e2 | ⟨e2, h3, h4⟩
  · exact ⟨0, σ, τ, by simp [e1, e2], by simp [e1, e2], hI⟩
  rcases inr_c x3 0 99999 with e3 | ⟨e3, h5, h6⟩
  · exact ⟨0, σ, τ, by simp [e1, e2, e3], by simp [e1, e2, e3], hI⟩
  obtain ⟨p, -, hp, rfl⟩ := inr_nat (a := 0) (b := 15) (by omega) (by omega) h1 h2
  obtain ⟨b, hb1, hb, rfl⟩ := inr_nat (a := 1) (b := 999999999) (by omega) (by omega) h3 h4
  obtain ⟨g, -, hg, rfl⟩ := inr_nat (a := 0) (b := 99999) (by omega) (by omega) h5 h6
  have ea : (0 : Int32) + nI p = nI p := by rw [q0, nI_add]; simp
  have eb : (16 : Int32) + nI p = nI (16 + p) := nI_add 16 p
  have ec : (32 : Int32) + nI p = nI (32 + p) := nI_add 32 p
  have ed : (48 : Int32) + nI p = nI (48 + p) := nI_add 48 p
  simp only [e1, e2, e3, lt, ea, eb, ec, ed, jin_nI (show p < 16 by omega) (by omega), jin_nI (show p < 212 by omega) (by omega), jin_nI (show 16 + p < 212 by omega) (by omega), jin_nI (show 32 + p < 212 by omega) (by omega), jin_nI (show 48 + p < 212 by omega) (by omega), nI_clamp (show p < 2 ^ 31 by omega), nI_clamp (show 16 + p < 2 ^ 31 by omega), nI_clamp (show 32 + p < 2 ^ 31 by omega), nI_clamp (show 48 + p < 2 ^ 31 by omega), if_true, if_neg (show ¬ (1 : Int32) = 0 by decide)]
  refine ⟨1, _, _, rfl, rfl, ?_⟩
  obtain ⟨-, a2, a3, -, -, -⟩ := id hI
  have o1 : onlyX 3 σ (js (js (js (js σ 4 p (nI b)) 5 p (nI g)) 3 3 (js (js σ 4 p (nI b)) 5 p (nI g) 3 3 ||| (1 : Int32) <<< (nI p &&& 31))) 3 4 (js (js (js σ 4 p (nI b)) 5 p (nI g)) 3 3 (js (js σ 4 p (nI b)) 5 p (nI g) 3 3 ||| (1 : Int32) <<< (nI p &&& 31)) 3 4 ||| (1 : Int32) <<< (nI p &&& 31))) := onlyX_tr (onlyX_tr (onlyX_tr (onlyX_js _ _ _ (by omega)) (onlyX_js _ _ _ (by omega))) (onlyX_js _ _ _ (by omega))) (onlyX_js _ _ _ (by omega))
  have o2 := offM_tr (offM_tr (offM_tr (offM_js (τ := τ) p 1) (offM_js (16 + p) (nI b))) (offM_js (32 + p) (nI g))) (offM_js (48 + p) 1)
  refine Inv_city hI (offX_of o1).1 o2.1 (offX_of o1).2 o2.2 ?_ ?_
  · simp only [js_row]
    refine ⟨cityW0_upd (cityW0_upd (cityW0_upd (cityW0_upd a2.1 (rk_n (n := 1) (by simp [show p < 16 by omega]))) (rk_n (by rw [if_neg (by omega), if_pos (by omega)]; omega))) (rk_n (by rw [if_neg (by omega), if_neg (by omega), if_pos (by omega)]; omega))) (rk_n (n := 1) (by rw [if_neg (by omega), if_neg (by omega), if_neg (by omega), if_pos (by omega)]; omega)), fun q hq h => ?_⟩
    by_cases e : q = p
    · subst e
      rw [pk_un (by omega), pk_un (by omega), pk_un (by omega), pk_us, pk_un (by omega), pk_un (by omega), pk_us]
      exact ⟨rfl, nI_ne0 (by omega) (by omega)⟩
    · rw [pk_un (by omega), pk_un (by omega), pk_un (by omega), pk_un (by omega)] at h
      rw [pk_un (by omega), pk_un (by omega), pk_un (by omega), pk_un (by omega), pk_un (by omega), pk_un (by omega), pk_un (by omega), pk_un (by omega)]
      exact a2.2 q hq h
  · simp only [js_row]
    have c1 := cityR_told (cityR_age (cityR_beats a3 (p := p) (by omega) (nI b)) (p := p) (by omega) (nI g)) (p := p) (by omega)
    have e9 : upd (upd (upd (upd (τ 1) p 1) (16 + p) (nI b)) (32 + p) (nI g)) (48 + p) 1 = upd (upd (upd (upd (τ 1) (16 + p) (nI b)) (32 + p) (nI g)) p 1) (48 + p) 1 := by
      rw [fa_upd_swap (τ 1) (show p ≠ 16 + p by omega), fa_upd_swap _ (show p ≠ 32 + p by omega)]
    rw [e9]
    rw [pk_un (show (4 : Nat) ≠ 3 by omega)]
    exact c1
