/-! ### a person's letter -/
def isL (B : Nat → Nat) (n i p : Nat) : Prop := p < 16 ∧ i < n ∧ B i = 97 + p
theorem sg97 {B : Nat → Nat} (hB : ∀ j, B j < 256) (n i : Nat) : (∃ p, isL B n i p ∧ sg B n i - 97 = nI p) ∨ ((∀ p, ¬ isL B n i p) ∧ (sg B n i - 97 < 0 ∨ (¬ sg B n i - 97 < 0 ∧ ¬ sg B n i - 97 < 16))) := by
  have hb := hB i
  by_cases g : i < n ∧ 97 ≤ B i
  · have e : sg B n i - 97 = nI (B i - 97) := by
      unfold sg
      rw [if_pos g.1, show (97 : Int32) = nI 97 from rfl, pk_sub (a := B i) (b := 97) g.2]
    by_cases h : B i - 97 < 16
    · exact Or.inl ⟨B i - 97, ⟨h, g.1, by omega⟩, e⟩
    · refine Or.inr ⟨fun p hp => by unfold isL at hp; omega, Or.inr ?_⟩
      rw [e]
      exact ⟨nI_pos (by omega), show ¬ nI (B i - 97) < nI 16 from nI_nlt (by omega) (by omega)⟩
  · refine Or.inr ⟨fun p hp => by unfold isL at hp; omega, Or.inl ?_⟩
    have key : ∀ x : Int32, -1 ≤ x → x < 97 → x - 97 < 0 := by
      intro x h1 h2
      rw [Int32.le_iff_toInt_le, show (-1 : Int32).toInt = -1 from rfl] at h1
      rw [fa_lt, show (97 : Int32).toInt = 97 from rfl] at h2
      rw [fa_lt, Int32.toInt_sub, show (97 : Int32).toInt = 97 from rfl, show (0 : Int32).toInt = 0 from rfl]
      rw [Int.bmod_eq_of_le (by omega) (by omega)]
      omega
    apply key
    · unfold sg
      split
      · rw [Int32.le_iff_toInt_le, nI_toInt (by omega), show (-1 : Int32).toInt = -1 from rfl]
        omega
      · decide
    · exact (sg_lt hB n i (c := 97) (by omega)).mpr (fun h => by omega)
theorem m_isLetter (F : Nat) {B : Nat → Nat} (hB : ∀ j, B j < 256) {n i : Nat} {τ : jS} (h : tpM B n i τ) : (∃ p, isL B n i p ∧ mX12_isLetter F τ = some 1) ∨ ((∀ p, ¬ isL B n i p) ∧ mX12_isLetter F τ = some 0) := by
  unfold mX12_isLetter
  rw [m_here F h]
  simp only [Option.bind_some, isI, inr15]
  rcases sg97 hB n i with ⟨p, hp, e⟩ | ⟨hp, e⟩
  · left
    refine ⟨p, hp, ?_⟩
    rw [e, if_neg (nI_pos (by unfold isL at hp; omega)), if_pos (lt16 hp.1)]
    rfl
  · right
    refine ⟨hp, ?_⟩
    rcases e with e | ⟨e1, e2⟩
    · rw [if_pos e]; rfl
    · rw [if_neg e1, if_neg e2]; rfl
theorem x_person (F : Nat) {B : Nat → Nat} {n i k : Nat} {σ : jS} (h : tpX B n i 0 σ) (hk : σ 38 6 = nI k) (hk2 : k ≤ 24) {x1 : Int32} {t : Nat → Int32} (hb : bitsR x1 t) (x2 : Int32) :
    ∃ r σ', mX5_readPerson F x1 x2 σ = some (r, σ') ∧ frm σ σ' ∧ (((∀ p, ¬ isL B n i p) ∧ ∃ i', tpX B n i' (flt 1 i) σ') ∨ ∃ p, isL B n i p ∧ ((k = 24 ∧ ∃ i', tpX B n i' (flt 4 i) σ') ∨ (k < 24 ∧ nI p = x2 ∧ ∃ i', tpX B n i' (flt 6 i) σ') ∨ (k < 24 ∧ nI p ≠ x2 ∧ t p = 0 ∧ ∃ i', tpX B n i' (flt 7 i) σ') ∨ (k < 24 ∧ nI p ≠ x2 ∧ t p = 1 ∧ r = nI p ∧ tpX B n (i + 1) 0 σ'))) := by
  have hn := h.2.2.2.2.2.2.2.1
  have hi := h.2.2.2.2.2.2.1
  unfold mX5_readPerson
  simp only [ltE, h.2.2.1, h.2.2.2.1, hk]
  rcases sg97 h.1 n i with ⟨p, hp, e⟩ | ⟨hp, e⟩
  · have hp16 : p < 16 := hp.1
    rw [e, if_neg (nI_pos (by omega)), if_pos (lt16 hp16)]
    have hfs : ∀ w : Nat, ∃ σ', (Option.bind (mX10_fail F (nI w) (nI i) σ) fun q3 => (Option.bind (mX10_step F q3) fun q4 => some (nI p, q4))) = some (nI p, σ') ∧ frm σ σ' ∧ ∃ i', tpX B n i' (flt w i) σ' := by
      intro w
      obtain ⟨σ1, a1, a2, a3⟩ := x_fail0 F h w i
      obtain ⟨σ2, b1, b2, b3⟩ := x_step F a2
      rw [a1]
      simp only [Option.bind_some, b1]
      exact ⟨σ2, rfl, frm_tr a3 b3, _, b2⟩
    by_cases c : k < 24
    · rw [if_pos (show nI k < (24 : Int32) from nI_lt (b := 24) c (by omega))]
      by_cases c2 : nI p = x2
      · rw [if_pos c2]
        obtain ⟨σ', a, b, d⟩ := hfs 6
        exact ⟨nI p, σ', a, b, Or.inr ⟨p, hp, Or.inr (Or.inl ⟨c, c2, d⟩)⟩⟩
      · rw [if_neg c2]
        rcases (hb.1 p hp16).1 with e1 | e1
        · rw [if_pos ((bitsR_z hb hp16).mpr e1)]
          obtain ⟨σ', a, b, d⟩ := hfs 7
          exact ⟨nI p, σ', a, b, Or.inr ⟨p, hp, Or.inr (Or.inr (Or.inl ⟨c, c2, e1, d⟩))⟩⟩
        · rw [if_neg (fun k => absurd ((bitsR_z hb hp16).mp k) (by rw [e1]; decide))]
          obtain ⟨σ', a, b, d⟩ := x_step1 F h hp.2.1
          rw [a]
          exact ⟨nI p, σ', rfl, d, Or.inr ⟨p, hp, Or.inr (Or.inr (Or.inr ⟨c, c2, e1, rfl, b⟩))⟩⟩
    · rw [if_neg (show ¬ nI k < (24 : Int32) from nI_nlt (b := 24) (by omega) (by omega))]
      obtain ⟨σ', a, b, d⟩ := hfs 4
      exact ⟨nI p, σ', a, b, Or.inr ⟨p, hp, Or.inl ⟨by omega, d⟩⟩⟩
  · obtain ⟨σ1, a1, a2, a3⟩ := x_fail0 F h 1 i
    have a1' : mX10_fail F (1 : Int32) (nI i) σ = some σ1 := a1
    rw [a1']
    simp only [Option.bind_some]
    refine ⟨16, σ1, ?_, a3, Or.inl ⟨hp, i, a2⟩⟩
    rcases e with e | ⟨e1, e2⟩
    · rw [if_pos e]
    · rw [if_neg e1, if_neg e2]
/-! ### one loan -/
def rowL (σ τ : jS) (l : Nat) : Prop := ∃ a b v r d : Nat, a < 16 ∧ b < 16 ∧ v ≤ 999999 ∧ r ≤ 99 ∧ d ≤ 9999 ∧ σ 39 l = nI a ∧ σ 40 l = nI b ∧ σ 41 l = nI v ∧ σ 42 l = nI r ∧ σ 43 l = nI d ∧ σ 44 l = nI v ∧ τ 24 (5 * l) = nI a ∧ τ 24 (5 * l + 1) = nI b ∧ τ 24 (5 * l + 2) = nI v ∧ τ 24 (5 * l + 3) = nI r ∧ τ 24 (5 * l + 4) = nI d
def loR (k : Nat) (σ τ : jS) : Prop := k ≤ 24 ∧ σ 38 6 = nI k ∧ τ 0 38 = nI k ∧ ∀ l, l < k → rowL σ τ l
def frL (σ σ' : jS) : Prop := ∀ d, d ≠ 1 → (d < 38 ∨ 45 ≤ d) → σ' d = σ d
theorem frL_tr {a b c : jS} (h : frL a b) (g : frL b c) : frL a c := fun d hd h2 => (g d hd h2).trans (h d hd h2)
theorem frL_of {a b : jS} (h : frm a b) : frL a b := fun d hd _ => h d hd
def sL (k : Nat) : Prop := k = 7 ∨ k = 9 ∨ k = 10 ∨ k = 38
def frK (τ τ' : jS) : Prop := (∀ d, d ≠ 0 → d ≠ 24 → τ' d = τ d) ∧ ∀ k, ¬ sL k → τ' 0 k = τ 0 k
theorem frK_rf (τ : jS) : frK τ τ := ⟨fun _ _ _ => rfl, fun _ _ => rfl⟩
theorem frK_tr {a b c : jS} (h : frK a b) (g : frK b c) : frK a c := ⟨fun d hd h2 => (g.1 d hd h2).trans (h.1 d hd h2), fun d hd => (g.2 d hd).trans (h.2 d hd)⟩
theorem frK_of {a b : jS} (h : frM sN a b) : frK a b := ⟨fun d hd _ => h.1 d hd, fun k hk => h.2 k (fun g => hk (by unfold sL; unfold sN at g; omega))⟩
theorem frK_js (τ : jS) {k : Nat} (v : Int32) (hk : sL k) : frK τ (js τ 0 k v) := ⟨fun d hd _ => js_c _ _ _ hd, fun j hj => js_k _ _ (fun e => hj (by rw [e]; exact hk))⟩
theorem frK_24 (τ : jS) (k : Nat) (v : Int32) : frK τ (js τ 24 k v) := ⟨fun d _ hd => js_c _ _ _ hd, fun j _ => by rw [js_c _ _ _ (by omega)]⟩
theorem x_add (F : Nat) {B : Nat → Nat} {n i k : Nat} {σ : jS} (h : tpX B n i 0 σ) (hk : σ 38 6 = nI k) (hk2 : k < 24) (a b v r d : Int32) :
    ∃ σ', mX6_add F 38 a b v r d σ = some σ' ∧ tpX B n i 0 σ' ∧ frL σ σ' ∧ σ' 38 6 = nI (k + 1) ∧ σ' 39 k = a ∧ σ' 40 k = b ∧ σ' 41 k = v ∧ σ' 42 k = r ∧ σ' 43 k = d ∧ σ' 44 k = v ∧ ∀ c l, 39 ≤ c → c ≤ 44 → l < k → σ' c l = σ c l := by
  unfold mX6_add
  rw [hk, if_pos (show nI k < (24 : Int32) from nI_lt (b := 24) hk2 (by omega))]
  simp only [show (38 + 1 : Nat) = 39 from rfl, show (38 + 2 : Nat) = 40 from rfl, show (38 + 3 : Nat) = 41 from rfl, show (38 + 4 : Nat) = 42 from rfl, show (38 + 5 : Nat) = 43 from rfl, show (38 + 6 : Nat) = 44 from rfl, ltE, js_c _ _ _ (show (38 : Nat) ≠ 39 by omega), js_c _ _ _ (show (38 : Nat) ≠ 40 by omega), js_c _ _ _ (show (38 : Nat) ≠ 41 by omega), js_c _ _ _ (show (38 : Nat) ≠ 42 by omega), js_c _ _ _ (show (38 : Nat) ≠ 43 by omega), js_c _ _ _ (show (38 : Nat) ≠ 44 by omega), hk, jin_nI (show k < 24 by omega) (show 24 < 2 ^ 31 by omega), if_true, nI_clamp (show k < 2 ^ 31 by omega), nI1]
  refine ⟨_, rfl, ?_, ?_, ?_, ?_, ?_, ?_, ?_, ?_, ?_, ?_⟩
  · obtain ⟨hB, h2, h3, h4, h5, h1, hi, hn, hb⟩ := h
    unfold tpX
    simp only [js_c _ _ _ (show (1 : Nat) ≠ 38 by omega), js_c _ _ _ (show (1 : Nat) ≠ 39 by omega), js_c _ _ _ (show (1 : Nat) ≠ 40 by omega), js_c _ _ _ (show (1 : Nat) ≠ 41 by omega), js_c _ _ _ (show (1 : Nat) ≠ 42 by omega), js_c _ _ _ (show (1 : Nat) ≠ 43 by omega), js_c _ _ _ (show (1 : Nat) ≠ 44 by omega), js_c _ _ _ (show (2 : Nat) ≠ 38 by omega), js_c _ _ _ (show (2 : Nat) ≠ 39 by omega), js_c _ _ _ (show (2 : Nat) ≠ 40 by omega), js_c _ _ _ (show (2 : Nat) ≠ 41 by omega), js_c _ _ _ (show (2 : Nat) ≠ 42 by omega), js_c _ _ _ (show (2 : Nat) ≠ 43 by omega), js_c _ _ _ (show (2 : Nat) ≠ 44 by omega)]
    exact ⟨hB, h2, h3, h4, h5, h1, hi, hn, hb⟩
  · intro e _ he
    rw [js_c _ _ _ (by omega), js_c _ _ _ (by omega), js_c _ _ _ (by omega), js_c _ _ _ (by omega), js_c _ _ _ (by omega), js_c _ _ _ (by omega), js_c _ _ _ (by omega)]
  · rw [js_at]
  · rw [js_c _ _ _ (by omega), js_c _ _ _ (by omega), js_c _ _ _ (by omega), js_c _ _ _ (by omega), js_c _ _ _ (by omega), js_c _ _ _ (by omega), js_at]
  · rw [js_c _ _ _ (by omega), js_c _ _ _ (by omega), js_c _ _ _ (by omega), js_c _ _ _ (by omega), js_c _ _ _ (by omega), js_at]
  · rw [js_c _ _ _ (by omega), js_c _ _ _ (by omega), js_c _ _ _ (by omega), js_c _ _ _ (by omega), js_at]
  · rw [js_c _ _ _ (by omega), js_c _ _ _ (by omega), js_c _ _ _ (by omega), js_at]
  · rw [js_c _ _ _ (by omega), js_c _ _ _ (by omega), js_at]
  · rw [js_c _ _ _ (by omega), js_at]
  · intro c l h1 h2 hl
    rw [js_c _ _ _ (by omega)]
    have e : ∀ (ρ : jS) (e : Nat) (v : Int32), js ρ e k v c l = ρ c l := by
      intro ρ e v
      by_cases g : c = e
      · subst g; rw [js_k _ _ (by omega)]
      · rw [js_c _ _ _ g]
    rw [e, e, e, e, e, e]
