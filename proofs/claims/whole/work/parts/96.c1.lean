/-! ===== rings: the least of a set, however it is sought ===== -/
abbrev rN := Nat × Int32
def leq (a b : rN) : Prop := a.1 < b.1 ∨ (a.1 = b.1 ∧ ¬ b.2 < a.2)
theorem leq_rf (a : rN) : leq a a := Or.inr ⟨rfl, by rw [fa_lt]; omega⟩
theorem leq_tr {a b c : rN} (h : leq a b) (g : leq b c) : leq a c := by
  unfold leq at *
  rw [fa_lt] at *
  omega
theorem leq_an {a b : rN} (h : leq a b) (g : leq b a) : a = b := by
  obtain ⟨a1, a2⟩ := a
  obtain ⟨b1, b2⟩ := b
  unfold leq at h g
  simp only [fa_lt] at h g
  have h1 : a1 = b1 := by omega
  have h2 : a2 = b2 := by rw [fa_eq]; omega
  rw [h1, h2]
def MN (a : Option rN) (R : rN → Prop) (a' : Option rN) : Prop := (a' = a ∨ ∃ r, R r ∧ a' = some r) ∧ (∀ r0, a = some r0 → ∃ r', a' = some r' ∧ leq r' r0) ∧ ∀ r, R r → ∃ r', a' = some r' ∧ leq r' r
theorem MN_none (a : Option rN) {R : rN → Prop} (h : ∀ r, R r → ∃ r', a = some r' ∧ leq r' r) : MN a R a := ⟨Or.inl rfl, fun r0 e => ⟨r0, e, leq_rf r0⟩, h⟩
theorem MN_tr {a b c : Option rN} {R S T : rN → Prop} (h : MN a R b) (g : MN b S c) (hT : ∀ r, T r ↔ (R r ∨ S r)) : MN a T c := by
  obtain ⟨h1, h2, h3⟩ := h
  obtain ⟨g1, g2, g3⟩ := g
  have down : ∀ r, (∃ r', b = some r' ∧ leq r' r) → ∃ r', c = some r' ∧ leq r' r := by
    intro r ⟨r', e, hr⟩
    obtain ⟨r2, e2, hr2⟩ := g2 r' e
    exact ⟨r2, e2, leq_tr hr2 hr⟩
  refine ⟨?_, fun r0 e => down r0 (h2 r0 e), fun r hr => ?_⟩
  · rcases g1 with g1 | ⟨r, hr, e⟩
    · rw [g1]
      rcases h1 with h1 | ⟨r, hr, e⟩
      · exact Or.inl h1
      · exact Or.inr ⟨r, (hT r).mpr (Or.inl hr), e⟩
    · exact Or.inr ⟨r, (hT r).mpr (Or.inr hr), e⟩
  · rcases (hT r).mp hr with q | q
    · exact down r (h3 r q)
    · exact g3 r q
theorem MN_un {a b c : Option rN} {R : rN → Prop} (h : MN a R b) (g : MN a R c) : b = c := by
  obtain ⟨h1, h2, h3⟩ := h
  obtain ⟨g1, g2, g3⟩ := g
  have key : ∀ {p q : Option rN}, (p = a ∨ ∃ r, R r ∧ p = some r) → (∀ r0, a = some r0 → ∃ r', q = some r' ∧ leq r' r0) → (∀ r, R r → ∃ r', q = some r' ∧ leq r' r) → ∀ r, p = some r → ∃ r', q = some r' ∧ leq r' r := by
    intro p q k1 k2 k3 r e
    rcases k1 with k1 | ⟨r1, hr, e1⟩
    · exact k2 r (by rw [← k1]; exact e)
    · rw [e1] at e
      cases e
      exact k3 _ hr
  cases b with
  | none =>
    cases c with
    | none => rfl
    | some c =>
      obtain ⟨r', e, _⟩ := key g1 h2 h3 c rfl
      cases e
  | some b =>
    obtain ⟨r', e, k1⟩ := key h1 g2 g3 b rfl
    obtain ⟨r2, e2, k2⟩ := key g1 h2 h3 r' e
    cases e2
    rw [e, leq_an k1 k2]
theorem MN_congr {a b : Option rN} {R S : rN → Prop} (h : MN a R b) (e : ∀ r, S r ↔ R r) : MN a S b := ⟨h.1.imp id (fun ⟨r, hr, q⟩ => ⟨r, (e r).mpr hr, q⟩), h.2.1, fun r hr => h.2.2 r ((e r).mp hr)⟩
/-! ### how many of sixteen -/
def cB (f : Nat → Bool) : Nat → Nat
  | 0 => 0
  | n + 1 => cB f n + (if f n = true then 1 else 0)
theorem cB_le (f : Nat → Bool) : ∀ n, cB f n ≤ n
  | 0 => Nat.le_refl _
  | n + 1 => by
    have := cB_le f n
    rw [cB]
    split <;> omega
theorem cB_congr {f g : Nat → Bool} : ∀ n, (∀ q, q < n → f q = g q) → cB f n = cB g n
  | 0, _ => rfl
  | n + 1, h => by rw [cB, cB, cB_congr n (fun q hq => h q (by omega)), h n (by omega)]
theorem cB_set {f g : Nat → Bool} {y : Nat} (hf : f y = false) (hg : ∀ q, g q = (f q || decide (q = y))) : ∀ n, cB g n = cB f n + (if y < n then 1 else 0)
  | 0 => rfl
  | n + 1 => by
    have ih := cB_set hf hg n
    rw [cB, cB, ih, hg n]
    by_cases e : n = y
    · subst e
      rw [hf]
      simp
    · by_cases l : y < n
      · simp [e, l, show y < n + 1 by omega]
        omega
      · simp [e, l, show ¬ y < n + 1 by omega]
theorem cB_full {f : Nat → Bool} : ∀ n, cB f n = n → ∀ q, q < n → f q = true
  | 0, _, q, hq => absurd hq (by omega)
  | n + 1, h, q, hq => by
    have h1 := cB_le f n
    rw [cB] at h
    by_cases c : f n = true
    · rw [if_pos c] at h
      by_cases e : q = n
      · rw [e]; exact c
      · exact cB_full n (by omega) q (by omega)
    · rw [if_neg c] at h
      omega
def b1 (y : Nat) : Int32 := (1 : Int32) <<< (nI y &&& 31)
theorem bt_b1 {w : Int32} {y : Nat} (hy : y < 16) (q : Nat) : bt (w ||| b1 y) q = (bt w q || decide (q = y)) := by
  unfold b1
  rw [b_or, bt_one y q (by omega)]
/-! ### the rings that go on from one -/
def Rg (E : Nat → Nat → Prop) (s : Nat) : Nat → Nat → Int32 → Nat → rN → Prop
  | 0, x, w, k, r => E x s ∧ r = (k, w)
  | d + 1, x, w, k, r => (E x s ∧ r = (k, w)) ∨ ∃ y, s < y ∧ y < 16 ∧ E x y ∧ bt w y = false ∧ Rg E s d y (w ||| b1 y) (k + 1) r
theorem Rg_len {E : Nat → Nat → Prop} {s : Nat} : ∀ (d x : Nat) (w : Int32) (k : Nat) (r : rN), Rg E s d x w k r → k ≤ r.1
  | 0, x, w, k, r, h => by rw [h.2]; exact Nat.le_refl _
  | d + 1, x, w, k, r, h => by
    rcases h with ⟨_, e⟩ | ⟨y, _, _, _, _, h⟩
    · rw [e]; exact Nat.le_refl _
    · have := Rg_len d y (w ||| b1 y) (k + 1) r h
      omega
def okA (a : Option rN) : Prop := ∀ r, a = some r → 1 ≤ r.1 ∧ r.1 ≤ 16 ∧ r.2 ≠ 0
def aX (σ : jS) (a : Option rN) : Prop := okA a ∧ (a = none → σ 60 1 = 17 ∧ σ 60 2 = 0) ∧ ∀ r, a = some r → σ 60 1 = nI r.1 ∧ σ 60 2 = r.2
def aM (τ : jS) (a : Option rN) : Prop := okA a ∧ (a = none → τ 0 42 = 17 ∧ τ 0 43 = 65536) ∧ ∀ r, a = some r → τ 0 42 = nI r.1 ∧ τ 0 43 = r.2
def lenA (a : Option rN) : Nat := match a with | none => 17 | some r => r.1
theorem lenA_le {a : Option rN} (h : okA a) : lenA a ≤ 17 := by
  cases a with
  | none => exact Nat.le_refl _
  | some r => have := (h r rfl).2.1; show r.1 ≤ 17; omega
theorem aX_len {σ : jS} {a : Option rN} (h : aX σ a) : σ 60 1 = nI (lenA a) := by
  cases a with
  | none => exact (h.2.1 rfl).1
  | some r => exact (h.2.2 r rfl).1
theorem aM_len {τ : jS} {a : Option rN} (h : aM τ a) : τ 0 42 = nI (lenA a) := by
  cases a with
  | none => exact (h.2.1 rfl).1
  | some r => exact (h.2.2 r rfl).1
/-- what is longer than the least changes nothing -/
theorem MN_long {a : Option rN} (ha : okA a) {R : rN → Prop} (h : ∀ r, R r → lenA a < r.1 ∧ r.1 ≤ 17) : MN a R a := by
  refine MN_none a (fun r hr => ?_)
  cases a with
  | none => have := h r hr; have e : lenA (none : Option rN) = 17 := rfl; omega
  | some r0 => exact ⟨r0, rfl, Or.inl (h r hr).1⟩
def nA (a : Option rN) (r : rN) : Option rN := match a with | none => some r | some r0 => if r.1 < r0.1 ∨ (r.1 = r0.1 ∧ r.2 < r0.2) then some r else some r0
theorem MN_nA {a : Option rN} {R : rN → Prop} {r : rN} (hR : R r) (h : ∀ r', R r' → r' = r ∨ r.1 < r'.1) : MN a R (nA a r) := by
  cases a with
  | none =>
    refine ⟨Or.inr ⟨r, hR, rfl⟩, fun r0 e => (by cases e), fun r' hr => ⟨r, rfl, ?_⟩⟩
    rcases h r' hr with e | e
    · rw [e]; exact leq_rf r
    · exact Or.inl e
  | some r0 =>
    unfold nA
    by_cases c : r.1 < r0.1 ∨ (r.1 = r0.1 ∧ r.2 < r0.2)
    · simp only [if_pos c]
      refine ⟨Or.inr ⟨r, hR, rfl⟩, fun r1 e => ⟨r, rfl, ?_⟩, fun r' hr => ⟨r, rfl, ?_⟩⟩
      · cases e
        unfold leq
        rw [fa_lt] at c ⊢
        omega
      · rcases h r' hr with e | e
        · rw [e]; exact leq_rf r
        · exact Or.inl e
    · simp only [if_neg c]
      have k1 : leq r0 r := by
        unfold leq
        rw [fa_lt] at c ⊢
        omega
      refine ⟨Or.inl rfl, fun r1 e => ⟨r0, rfl, (by cases e; exact leq_rf _)⟩, fun r' hr => ⟨r0, rfl, ?_⟩⟩
      rcases h r' hr with e | e
      · rw [e]; exact k1
      · exact leq_tr k1 (Or.inl e)
theorem okA_nA {a : Option rN} (h : okA a) {r : rN} (h1 : 1 ≤ r.1) (h2 : r.1 ≤ 16) (h3 : r.2 ≠ 0) : okA (nA a r) := by
  intro r' e
  cases a with
  | none => cases e; exact ⟨h1, h2, h3⟩
  | some r0 =>
    unfold nA at e
    by_cases c : r.1 < r0.1 ∨ (r.1 = r0.1 ∧ r.2 < r0.2)
    · simp only [if_pos c] at e; cases e; exact ⟨h1, h2, h3⟩
    · simp only [if_neg c] at e; cases e; exact h _ rfl
theorem x_noteR (F : Nat) {σ : jS} {a : Option rN} (h : aX σ a) {k : Nat} {w : Int32} (hk : 1 ≤ k) (hk2 : k ≤ 16) (hw : w ≠ 0) (hl : k ≤ lenA a) : ∃ σ', mX7_note F w (nI k) σ = some σ' ∧ aX σ' (nA a (k, w)) ∧ ∀ d, d ≠ 60 → σ' d = σ d := by
  have hlen := aX_len h
  have hle := lenA_le h.1
  have hok := okA_nA h.1 (r := (k, w)) hk hk2 hw
  have put : aX (js (js σ 60 1 (nI k)) 60 2 w) (some (k, w)) := ⟨fun r e => (by cases e; exact ⟨hk, hk2, hw⟩), fun e => (by cases e), fun r e => (by cases e; exact ⟨by rw [js_k _ _ (by omega), js_at], js_at _ _ _ _⟩)⟩
  have out : ∀ d, d ≠ 60 → js (js σ 60 1 (nI k)) 60 2 w d = σ d := fun d hd => by rw [js_c _ _ _ hd, js_c _ _ _ hd]
  unfold mX7_note
  rw [hlen]
  simp only [ltE]
  cases a with
  | none =>
    rw [if_pos (show nI k < nI (lenA none) from nI_lt (show k < 17 by omega) (by decide))]
    exact ⟨_, rfl, put, out⟩
  | some r0 =>
    have e0 : lenA (some r0) = r0.1 := rfl
    rw [e0] at hl hle ⊢
    unfold nA
    by_cases c : k < r0.1
    · rw [if_pos (nI_lt c (by omega))]
      simp only [if_pos (show k < r0.1 ∨ (k = r0.1 ∧ w < r0.2) from Or.inl c)]
      exact ⟨_, rfl, put, out⟩
    · rw [if_neg (nI_nlt (by omega) (by omega)), (h.2.2 r0 rfl).2]
      by_cases c2 : w < r0.2
      · rw [if_pos c2]
        simp only [if_pos (show k < r0.1 ∨ (k = r0.1 ∧ w < r0.2) from Or.inr ⟨by omega, c2⟩)]
        exact ⟨_, rfl, put, out⟩
      · rw [if_neg c2]
        simp only [if_neg (show ¬ (k < r0.1 ∨ (k = r0.1 ∧ w < r0.2)) from fun g => g.elim c (fun g => c2 g.2))]
        exact ⟨σ, rfl, h, fun _ _ => rfl⟩
