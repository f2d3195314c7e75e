/-! ### the class's search -/
def Eg (t : Nat → Int32) (m p q : Nat) : Prop := ∃ l, l < m ∧ t (184 + l) ≠ 0 ∧ t (64 + l) = nI p ∧ t (88 + l) = nI q
theorem x_s13 (F : Nat) (hF : 30 ≤ F) (σ : jS) (k32 : jS → Option jS) : ∃ ρ, lp_X7_search_13 F 6 k32 F 0 σ = k32 ρ ∧ (∀ d, d ≠ 61 → ρ d = σ d) ∧ ∀ p, p < 16 → ρ 61 p = 0 := by
  refine loop_p (fun N x (ρ : jS) => lp_X7_search_13 F 6 k32 N x ρ) 16 (fun x ρ => (∀ d, d ≠ 61 → ρ d = σ d) ∧ ∀ p, p < x → ρ 61 p = 0) (fun r => ∃ ρ, r = k32 ρ ∧ (∀ d, d ≠ 61 → ρ d = σ d) ∧ ∀ p, p < 16 → ρ 61 p = 0) ?_ ?_ F 0 σ (by omega) (by omega) ⟨fun _ _ => rfl, fun p hp => absurd hp (by omega)⟩
  · intro N x ρ hx ⟨g1, g2⟩
    right
    show ∃ a', _ ∧ lp_X7_search_13 F 6 k32 (N + 1) (nI x) ρ = lp_X7_search_13 F 6 k32 N (nI (x + 1)) a'
    rw [lp_X7_search_13, if_pos (lt16 hx), jin_nI (show x < 16 by omega) (by omega), if_pos rfl, nI_clamp (by omega), nI1, ltE]
    refine ⟨_, ⟨fun d hd => by rw [js_c _ _ _ hd]; exact g1 d hd, fun p hp => ?_⟩, rfl⟩
    by_cases e : p = x
    · rw [e, js_at]
    · rw [js_k _ _ e]; exact g2 p (by omega)
  · intro N ρ ⟨g1, g2⟩
    show ∃ ρ', lp_X7_search_13 F 6 k32 (N + 1) (nI 16) ρ = k32 ρ' ∧ _
    rw [lp_X7_search_13, if_neg (show ¬ nI 16 < (16 : Int32) by decide)]
    exact ⟨ρ, rfl, g1, g2⟩
theorem x_s34 (F : Nat) (hF : 30 ≤ F) {σ : jS} {t : Nat → Int32} (hW : cityW0 t) (hR : cityR 3 σ t) {m : Nat} (hm : m ≤ 24) (em : t 208 = nI m) {ρ0 : jS} (h1 : ∀ d, d ≠ 60 → d ≠ 61 → ρ0 d = σ d) (h2 : ∀ p, p < 16 → ρ0 61 p = 0) (k97 : jS → Option jS) :
    ∃ ρ, lp_X7_search_34 F 6 k97 F 0 ρ0 = k97 ρ ∧ (∀ d, d ≠ 61 → ρ d = ρ0 d) ∧ ∀ p q, p < 16 → q < 16 → (bt (ρ 61 p) q = true ↔ Eg t m p q) := by
  have hlt : ∀ l, l < m → nI l < t 208 := fun l hl => by rw [em]; exact nI_lt hl (by omega)
  refine loop_p (fun N x (ρ : jS) => lp_X7_search_34 F 6 k97 N x ρ) m (fun x ρ => (∀ d, d ≠ 61 → ρ d = ρ0 d) ∧ ∀ p q, p < 16 → q < 16 → (bt (ρ 61 p) q = true ↔ Eg t x p q)) (fun r => ∃ ρ, r = k97 ρ ∧ (∀ d, d ≠ 61 → ρ d = ρ0 d) ∧ ∀ p q, p < 16 → q < 16 → (bt (ρ 61 p) q = true ↔ Eg t m p q)) ?_ ?_ F 0 ρ0 (by omega) (by omega) ⟨fun _ _ => rfl, fun p q hp _ => by
    rw [h2 p hp, b_0]
    constructor
    · intro h; cases h
    · rintro ⟨l, hl, _⟩; omega⟩
  · intro N x ρ hx ⟨g1, g2⟩
    right
    show ∃ a', _ ∧ lp_X7_search_34 F 6 k97 (N + 1) (nI x) ρ = lp_X7_search_34 F 6 k97 N (nI (x + 1)) a'
    have gg : ∀ d, d ≠ 60 → d ≠ 61 → ρ d = σ d := fun d a b => by rw [g1 d b, h1 d a b]
    have e6 : ρ 6 6 = nI m := by rw [gg 6 (by omega) (by omega), ← em]; exact cityR_many_at hR
    have ef : ρ 7 x = t (64 + x) := by rw [gg 7 (by omega) (by omega)]; exact cityR_from_at hR (by omega) (hlt x hx)
    have et : ρ 8 x = t (88 + x) := by rw [gg 8 (by omega) (by omega)]; exact cityR_to_at hR (by omega) (hlt x hx)
    have ed : ρ 12 x = t (184 + x) := by rw [gg 12 (by omega) (by omega)]; exact cityR_due_at hR (by omega) (hlt x hx)
    obtain ⟨pf, hpf, eqf⟩ := who_n hW (i := 64 + x) (by omega) (by omega)
    obtain ⟨pt, hpt, eqt⟩ := who_n hW (i := 88 + x) (by omega) (by omega)
    obtain ⟨u, hu, equ⟩ := due_n hW (l := x) (by omega)
    rw [lp_X7_search_34, e6, if_pos (nI_lt hx (by omega)), if_pos (lt24 (by omega)), jin_nI (show x < 24 by omega) (by omega), if_pos rfl]
    simp only [ltE, if_true, nI_clamp (show x < 2 ^ 31 by omega), show (6 + 1 : Nat) = 7 from rfl, show (6 + 2 : Nat) = 8 from rfl, show (6 + 6 : Nat) = 12 from rfl, ef, et, ed, eqf, eqt, equ, nI1]
    have ext : ∀ p q, p < 16 → q < 16 → (Eg t (x + 1) p q ↔ (Eg t x p q ∨ (u ≠ 0 ∧ pf = p ∧ pt = q))) := by
      intro p q hp16 hq16
      constructor
      · rintro ⟨l, hl, a1, a2, a3⟩
        by_cases e : l = x
        · subst e
          rw [eqf] at a2
          rw [eqt] at a3
          rw [equ] at a1
          exact Or.inr ⟨fun e => a1 (by rw [e]; rfl), nI_inj (by omega) (by omega) a2, nI_inj (by omega) (by omega) a3⟩
        · exact Or.inl ⟨l, by omega, a1, a2, a3⟩
      · rintro (⟨l, hl, a1, a2, a3⟩ | ⟨a1, a2, a3⟩)
        · exact ⟨l, by omega, a1, a2, a3⟩
        · exact ⟨x, by omega, by rw [equ]; exact nI_ne0 (by omega) (by omega), by rw [eqf, a2], by rw [eqt, a3]⟩
    by_cases hu0 : u = 0
    · subst hu0
      rw [if_neg (show ¬ (0 : Int32) < nI 0 by decide)]
      refine ⟨ρ, ⟨g1, fun p q hp hq => ?_⟩, rfl⟩
      rw [g2 p q hp hq, ext p q hp hq]
      constructor
      · exact Or.inl
      · rintro (h | ⟨h, _⟩)
        · exact h
        · exact absurd rfl h
    · rw [if_pos (show (0 : Int32) < nI u from nI_lt (a := 0) (by omega) (by omega)), if_neg (nI_pos (by omega)), if_pos (lt16 (by omega)), jin_nI (show pf < 16 by omega) (by omega), if_pos rfl, if_pos rfl, nI_clamp (by omega)]
      refine ⟨_, ⟨fun d hd => by rw [js_c _ _ _ hd]; exact g1 d hd, fun p q hp hq => ?_⟩, rfl⟩
      rw [ext p q hp hq]
      by_cases e : p = pf
      · subst e
        rw [js_at, show (1 : Int32) <<< (nI pt &&& 31) = b1 pt from rfl, bt_b1 (by omega), Bool.or_eq_true, g2 p q hp hq, decide_eq_true_eq]
        constructor
        · rintro (h | h)
          · exact Or.inl h
          · exact Or.inr ⟨hu0, rfl, h.symm⟩
        · rintro (h | ⟨_, _, h⟩)
          · exact Or.inl h
          · exact Or.inr h.symm
      · rw [js_k _ _ e, g2 p q hp hq]
        constructor
        · exact Or.inl
        · rintro (h | ⟨_, h, _⟩)
          · exact h
          · exact absurd h.symm e
  · intro N ρ ⟨g1, g2⟩
    show ∃ ρ', lp_X7_search_34 F 6 k97 (N + 1) (nI m) ρ = k97 ρ' ∧ _
    have e6 : ρ 6 6 = nI m := by rw [g1 6 (by omega), h1 6 (by omega) (by omega), ← em]; exact cityR_many_at hR
    rw [lp_X7_search_34, e6, if_neg (nI_nlt (Nat.le_refl m) (by omega))]
    exact ⟨ρ, rfl, g1, g2⟩
def allR (E : Nat → Nat → Prop) (n : Nat) (r : rN) : Prop := ∃ s, s < n ∧ Rg E s 15 s (b1 s) 1 r
theorem cB_one {s : Nat} (hs : s < 16) : cB (bt (b1 s)) 16 = 1 := by
  have h := cB_set (f := fun _ => false) (g := bt (b1 s)) (y := s) rfl (fun q => by
    unfold b1
    rw [bt_one s q (by omega)]
    simp) 16
  rw [h, if_pos hs]
  rfl
theorem b1_ne {s : Nat} (hs : s < 16) : b1 s ≠ 0 := fun e => by
  have := cB_one hs
  rw [e] at this
  have h0 : cB (bt 0) 16 = 0 := by
    rw [cB_congr (g := fun _ => false) 16 (fun q _ => b_0 q)]
    rfl
  omega
theorem x_search (F : Nat) (hF : 30 ≤ F) {σ : jS} {t : Nat → Int32} (hW : cityW0 t) (hR : cityR 3 σ t) {m : Nat} (hm : m ≤ 24) (em : t 208 = nI m) :
    ∃ σ' a, mX7_search F 6 σ = some σ' ∧ aX σ' a ∧ MN none (allR (Eg t m) 16) a ∧ ∀ d, d ≠ 60 → d ≠ 61 → σ' d = σ d := by
  unfold mX7_search
  simp only [ltE]
  obtain ⟨ρ1, b1', b2, b3⟩ := x_s13 F hF (js (js σ 60 1 17) 60 2 0) (fun σ5 => (lp_X7_search_34 F 6 (fun σ13 => (jn_X7_search_97 F 6 σ13)) F (0 : Int32) σ5))
  rw [b1']
  obtain ⟨ρ2, c1, c2, c3⟩ := x_s34 F hF hW hR hm em (ρ0 := ρ1) (fun d h1 h2 => by rw [b2 d h2, js_c _ _ _ h1, js_c _ _ _ h1]) b3 (fun σ13 => (jn_X7_search_97 F 6 σ13))
  rw [c1]
  unfold jn_X7_search_97
  have hs0 : ∀ d, d ≠ 60 → d ≠ 61 → ρ2 d = σ d := fun d h1 h2 => by rw [c2 d h2, b2 d h2, js_c _ _ _ h1, js_c _ _ _ h1]
  refine loop_p (fun N x (ρ : jS) => lp_X7_search_99 F 6 N x ρ) 16 (fun s ρ => ∃ a, aX ρ a ∧ MN none (allR (Eg t m) s) a ∧ ∀ d, d ≠ 60 → ρ d = ρ2 d) (fun r => ∃ σ' a, r = some σ' ∧ aX σ' a ∧ MN none (allR (Eg t m) 16) a ∧ ∀ d, d ≠ 60 → d ≠ 61 → σ' d = σ d) ?_ ?_ F 0 ρ2 (by omega) (by omega) ⟨none, ⟨fun r e => (by cases e), fun _ => ⟨by rw [c2 60 (by omega), b2 60 (by omega), js_k _ _ (by omega), js_at], by rw [c2 60 (by omega), b2 60 (by omega), js_at]⟩, fun r e => (by cases e)⟩, MN_none none (fun r ⟨s, hs, _⟩ => by omega), fun _ _ => rfl⟩
  · intro N s ρ hs ⟨a, g1, g2, g3⟩
    right
    show ∃ a', _ ∧ lp_X7_search_99 F 6 (N + 1) (nI s) ρ = lp_X7_search_99 F 6 N (nI (s + 1)) a'
    rw [lp_X7_search_99, if_pos (lt16 hs), nI1]
    unfold mX7_follow
    obtain ⟨ρ', a', d1, d2, d3, d4⟩ := x_follow F hF hs (E := Eg t m) (ed := ρ2 61) c3 15 s (b1 s) 1 20 a ρ (by omega) (by omega) (cB_one hs) hs (b1_ne hs) (by omega) g1 (fun p hp => by rw [g3 61 (by omega)])
    have d1' : rX7_follow F 20 (nI s) (nI s) ((1 : Int32) <<< (nI s &&& 31)) (1 : Int32) ρ = some ρ' := d1
    rw [d1']
    refine ⟨ρ', ⟨a', d2, MN_tr g2 d3 (fun r => ?_), fun d hd => by rw [d4 d hd]; exact g3 d hd⟩, rfl⟩
    constructor
    · rintro ⟨s', h1, h2⟩
      by_cases e : s' = s
      · rw [e] at h2; exact Or.inr h2
      · exact Or.inl ⟨s', by omega, h2⟩
    · rintro (⟨s', h1, h2⟩ | h)
      · exact ⟨s', by omega, h2⟩
      · exact ⟨s, by omega, h⟩
  · intro N ρ ⟨a, g1, g2, g3⟩
    show ∃ σ' a, lp_X7_search_99 F 6 (N + 1) (nI 16) ρ = some σ' ∧ _
    rw [lp_X7_search_99, if_neg (show ¬ nI 16 < (16 : Int32) by decide)]
    exact ⟨ρ, a, rfl, g1, g2, fun d h1 h2 => by rw [g3 d h1]; exact hs0 d h1 h2⟩
