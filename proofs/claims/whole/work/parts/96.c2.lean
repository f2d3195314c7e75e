theorem MN_far {a : Option rN} {r0 : rN} (ha : a = some r0) {R : rN → Prop} (h : ∀ r, R r → r0.1 < r.1) : MN a R a := MN_none a (fun r hr => ⟨r0, ha, Or.inl (h r hr)⟩)
theorem lenA_some {a : Option rN} (h : lenA a ≤ 16) : ∃ r, a = some r ∧ lenA a = r.1 := by
  cases a with
  | none => exact absurd h (by show ¬ (17 ≤ 16); omega)
  | some r => exact ⟨r, rfl, rfl⟩
def Sub (E : Nat → Nat → Prop) (s d x : Nat) (w : Int32) (k y : Nat) (r : rN) : Prop := ∃ d', d = d' + 1 ∧ s < y ∧ y < 16 ∧ E x y ∧ bt w y = false ∧ Rg E s d' y (w ||| b1 y) (k + 1) r
theorem Rg_iff {E : Nat → Nat → Prop} {s d x : Nat} {w : Int32} {k : Nat} {r : rN} : Rg E s d x w k r ↔ (E x s ∧ r = (k, w)) ∨ ∃ y, Sub E s d x w k y r := by
  cases d with
  | zero =>
    constructor
    · exact fun h => Or.inl h
    · intro h
      rcases h with h | ⟨y, d', e, _⟩
      · exact h
      · omega
  | succ d =>
    constructor
    · intro h
      rcases h with h | ⟨y, h1, h2, h3, h4, h5⟩
      · exact Or.inl h
      · exact Or.inr ⟨y, d, rfl, h1, h2, h3, h4, h5⟩
    · intro h
      rcases h with h | ⟨y, d', e, h1, h2, h3, h4, h5⟩
      · exact Or.inl h
      · have e2 : d' = d := by omega
        subst e2
        exact Or.inr ⟨y, h1, h2, h3, h4, h5⟩
theorem Sub_len {E : Nat → Nat → Prop} {s d x : Nat} {w : Int32} {k y : Nat} {r : rN} (h : Sub E s d x w k y r) : k + 1 ≤ r.1 := by
  obtain ⟨d', _, _, _, _, _, h⟩ := h
  exact Rg_len d' y _ (k + 1) r h
theorem w_ne {w : Int32} {y : Nat} (hy : y < 16) : w ||| b1 y ≠ 0 := by
  intro e
  have := bt_b1 (w := w) hy y
  rw [e, b_0] at this
  simp at this
theorem x_follow (F : Nat) (hF : 30 ≤ F) {E : Nat → Nat → Prop} {s : Nat} (hs : s < 16) {ed : Nat → Int32} (hE : ∀ p q, p < 16 → q < 16 → (bt (ed p) q = true ↔ E p q)) :
    ∀ (d x : Nat) (w : Int32) (k D : Nat) (a : Option rN) (σ : jS), k + d = 16 → 1 ≤ k → cB (bt w) 16 = k → x < 16 → w ≠ 0 → d < D → aX σ a → (∀ p, p < 16 → σ 61 p = ed p) →
      ∃ σ' a', rX7_follow F D (nI s) (nI x) w (nI k) σ = some σ' ∧ aX σ' a' ∧ MN a (Rg E s d x w k) a' ∧ ∀ c, c ≠ 60 → σ' c = σ c := by
  intro d
  induction d with
  | zero =>
    intro x w k D a σ hk hk1 hcb hx hw hD ha h61
    obtain ⟨D, rfl⟩ : ∃ D', D = D' + 1 := ⟨D - 1, by omega⟩
    have hfull := cB_full 16 (by omega : cB (bt w) 16 = 16)
    have hle := lenA_le ha.1
    show ∃ σ' a', bX7_follow F (rX7_follow F D) (nI s) (nI x) w (nI k) σ = some σ' ∧ _
    unfold bX7_follow
    rw [if_neg (nI_pos (by omega)), if_pos (lt16 hx), if_neg (show ¬ (16 : Int32) < nI k from nI_nlt (a := 16) (by omega) (by omega)), aX_len ha]
    by_cases c : lenA a < k
    · rw [if_pos (nI_lt c (by omega))]
      obtain ⟨r0, e0, e1⟩ := lenA_some (a := a) (by omega)
      exact ⟨σ, a, rfl, ha, MN_far e0 (fun r hr => by have := Rg_len 0 x w k r hr; omega), fun _ _ => rfl⟩
    · rw [if_neg (nI_nlt (by omega) (by omega)), jin_nI (show x < 16 by omega) (by omega), if_pos rfl, nI_clamp (by omega), h61 x hx]
      by_cases ce : E x s
      · rw [if_neg (fun h => by rw [bt_shr (ed x) s (by omega), (hE x s hx hs).mpr ce] at h; cases h)]
        obtain ⟨σ1, b1, b2, b3⟩ := x_noteR F ha hk1 (by omega) hw (by omega)
        rw [b1]
        refine ⟨σ1, _, rfl, b2, MN_nA ⟨ce, rfl⟩ (fun r' hr => Or.inl hr.2), b3⟩
      · rw [if_pos ((bt_shr (ed x) s (by omega)).mpr (by
          rcases hb : bt (ed x) s with _ | _
          · rfl
          · exact absurd ((hE x s hx hs).mp hb) ce)), ltE, nI1]
        refine ⟨σ, a, ?_, ha, MN_none a (fun r hr => absurd hr.1 ce), fun _ _ => rfl⟩
        refine loop_p (fun N y (ρ : jS) => lp_X7_follow_53 F (rX7_follow F D) N (nI s) (nI x) w (nI k) y ρ) 16 (fun y ρ => ρ = σ) (fun r => r = some σ) ?_ ?_ F (s + 1) σ (by omega) (by omega) rfl
        · intro N y ρ hy e
          subst e
          right
          show ∃ a', _ ∧ lp_X7_follow_53 F (rX7_follow F D) (N + 1) (nI s) (nI x) w (nI k) (nI y) ρ = lp_X7_follow_53 F (rX7_follow F D) N (nI s) (nI x) w (nI k) (nI (y + 1)) a'
          refine ⟨ρ, rfl, ?_⟩
          rw [lp_X7_follow_53, if_pos (lt16 hy), jin_nI (show x < 16 by omega) (by omega), if_pos rfl, nI1, if_neg (show ¬ (w >>> (nI y &&& 31)) &&& 1 = 0 from fun h => by rw [bt_shr w y (by omega), hfull y hy] at h; cases h), ite_self]
        · intro N ρ e
          subst e
          show lp_X7_follow_53 F (rX7_follow F D) (N + 1) (nI s) (nI x) w (nI k) (nI 16) ρ = some ρ
          rw [lp_X7_follow_53, if_neg (show ¬ nI 16 < (16 : Int32) by decide)]
  | succ d ih =>
    intro x w k D a σ hk hk1 hcb hx hw hD ha h61
    obtain ⟨D, rfl⟩ : ∃ D', D = D' + 1 := ⟨D - 1, by omega⟩
    have hle := lenA_le ha.1
    show ∃ σ' a', bX7_follow F (rX7_follow F D) (nI s) (nI x) w (nI k) σ = some σ' ∧ _
    unfold bX7_follow
    rw [if_neg (nI_pos (by omega)), if_pos (lt16 hx), if_neg (show ¬ (16 : Int32) < nI k from nI_nlt (a := 16) (by omega) (by omega)), aX_len ha]
    by_cases c : lenA a < k
    · rw [if_pos (nI_lt c (by omega))]
      obtain ⟨r0, e0, e1⟩ := lenA_some (a := a) (by omega)
      exact ⟨σ, a, rfl, ha, MN_far e0 (fun r hr => by have := Rg_len (d + 1) x w k r hr; omega), fun _ _ => rfl⟩
    · rw [if_neg (nI_nlt (by omega) (by omega)), jin_nI (show x < 16 by omega) (by omega), if_pos rfl, nI_clamp (by omega), h61 x hx]
      by_cases ce : E x s
      · rw [if_neg (fun h => by rw [bt_shr (ed x) s (by omega), (hE x s hx hs).mpr ce] at h; cases h)]
        obtain ⟨σ1, b1, b2, b3⟩ := x_noteR F ha hk1 (by omega) hw (by omega)
        rw [b1]
        refine ⟨σ1, _, rfl, b2, MN_nA (Or.inl ⟨ce, rfl⟩) (fun r' hr => ?_), b3⟩
        rcases Rg_iff.mp hr with ⟨_, e⟩ | ⟨y, h⟩
        · exact Or.inl e
        · have := Sub_len h
          exact Or.inr (by show k < r'.1; omega)
      · rw [if_pos ((bt_shr (ed x) s (by omega)).mpr (by
          rcases hb : bt (ed x) s with _ | _
          · rfl
          · exact absurd ((hE x s hx hs).mp hb) ce)), ltE, nI1]
        refine loop_p (fun N y (ρ : jS) => lp_X7_follow_53 F (rX7_follow F D) N (nI s) (nI x) w (nI k) y ρ) 16 (fun y ρ => s < y ∧ ∃ b, aX ρ b ∧ MN a (fun r => ∃ y', y' < y ∧ Sub E s (d + 1) x w k y' r) b ∧ ∀ c, c ≠ 60 → ρ c = σ c) (fun r => ∃ σ' a', r = some σ' ∧ aX σ' a' ∧ MN a (Rg E s (d + 1) x w k) a' ∧ ∀ c, c ≠ 60 → σ' c = σ c) ?_ ?_ F (s + 1) σ (by omega) (by omega) ⟨by omega, a, ha, MN_none a (fun r ⟨y', h1, d', _, h2, _⟩ => by omega), fun _ _ => rfl⟩
        · intro N y ρ hy ⟨hsy, b, g1, g2, g3⟩
          right
          show ∃ a', _ ∧ lp_X7_follow_53 F (rX7_follow F D) (N + 1) (nI s) (nI x) w (nI k) (nI y) ρ = lp_X7_follow_53 F (rX7_follow F D) N (nI s) (nI x) w (nI k) (nI (y + 1)) a'
          have hno : (¬ ∃ r, Sub E s (d + 1) x w k y r) → MN a (fun r => ∃ y', y' < y + 1 ∧ Sub E s (d + 1) x w k y' r) b := fun hn => MN_congr g2 (fun r => by
            constructor
            · rintro ⟨y', h1, h2⟩
              by_cases e : y' = y
              · rw [e] at h2; exact absurd ⟨r, h2⟩ hn
              · exact ⟨y', by omega, h2⟩
            · rintro ⟨y', h1, h2⟩
              exact ⟨y', by omega, h2⟩)
          rw [lp_X7_follow_53, if_pos (lt16 hy), jin_nI (show x < 16 by omega) (by omega), if_pos rfl, nI1, nI_clamp (by omega), g3 61 (by omega), h61 x hx]
          by_cases cy : E x y
          · rw [if_neg (fun h => by rw [bt_shr (ed x) y (by omega), (hE x y hx hy).mpr cy] at h; cases h)]
            rcases hb : bt w y with _ | _
            · rw [if_pos ((bt_shr w y (by omega)).mpr hb)]
              have hcb2 : cB (bt (w ||| (1 : Int32) <<< (nI y &&& 31))) 16 = k + 1 := by
                have h9 := cB_set (f := bt w) (g := bt (w ||| (1 : Int32) <<< (nI y &&& 31))) (y := y) hb (fun q => bt_b1 hy q) 16
                rw [h9, hcb, if_pos hy]
              obtain ⟨ρ', b', q1, q2, q3, q4⟩ := ih y (w ||| (1 : Int32) <<< (nI y &&& 31)) (k + 1) D b ρ (by omega) (by omega) hcb2 hy (w_ne hy) (by omega) g1 (fun p hp => by rw [g3 61 (by omega)]; exact h61 p hp)
              rw [nI1, q1]
              refine ⟨ρ', ⟨by omega, b', q2, ?_, fun c hc => by rw [q4 c hc]; exact g3 c hc⟩, rfl⟩
              refine MN_tr g2 q3 (fun r => ?_)
              constructor
              · rintro ⟨y', h1, h2⟩
                by_cases e : y' = y
                · rw [e] at h2
                  obtain ⟨d', e2, _, _, _, _, h3⟩ := h2
                  have e3 : d' = d := by omega
                  subst e3
                  exact Or.inr h3
                · exact Or.inl ⟨y', by omega, h2⟩
              · rintro (⟨y', h1, h2⟩ | h)
                · exact ⟨y', by omega, h2⟩
                · exact ⟨y, by omega, d, rfl, hsy, hy, cy, hb, h⟩
            · rw [if_neg (fun h => by rw [bt_shr w y (by omega), hb] at h; cases h)]
              exact ⟨ρ, ⟨by omega, b, g1, hno (fun ⟨r, d', _, _, _, _, h, _⟩ => by rw [hb] at h; cases h), g3⟩, rfl⟩
          · rw [if_pos ((bt_shr (ed x) y (by omega)).mpr (by
              rcases hb : bt (ed x) y with _ | _
              · rfl
              · exact absurd ((hE x y hx hy).mp hb) cy))]
            exact ⟨ρ, ⟨by omega, b, g1, hno (fun ⟨r, d', _, _, _, h, _⟩ => cy h), g3⟩, rfl⟩
        · intro N ρ ⟨_, b, g1, g2, g3⟩
          show ∃ σ' a', lp_X7_follow_53 F (rX7_follow F D) (N + 1) (nI s) (nI x) w (nI k) (nI 16) ρ = some σ' ∧ _
          rw [lp_X7_follow_53, if_neg (show ¬ nI 16 < (16 : Int32) by decide)]
          refine ⟨ρ, b, rfl, g1, MN_congr g2 (fun r => ?_), g3⟩
          rw [Rg_iff]
          constructor
          · rintro (⟨h, _⟩ | ⟨y, h⟩)
            · exact absurd h ce
            · exact ⟨y, by obtain ⟨_, _, _, h2, _⟩ := id h; exact h2, h⟩
          · rintro ⟨y, _, h⟩
            exact Or.inr ⟨y, h⟩
