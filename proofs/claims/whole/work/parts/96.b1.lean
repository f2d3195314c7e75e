/-! ===== joy ===== -/
def dn {A : Type} (f : Nat → A → A) : Nat → A → A
  | 0, a => f 0 a
  | s + 1, a => dn f s (f (s + 1) a)
theorem dn_id {A : Type} {f : Nat → A → A} (h : ∀ s a, f s a = a) : ∀ s a, dn f s a = a
  | 0, a => h 0 a
  | s + 1, a => by rw [dn, h, dn_id h s a]
def updN (r : Nat → Nat) (t v : Nat) : Nat → Nat := fun q => if q = t then v else r q
theorem updN_s (r : Nat → Nat) (t v : Nat) : updN r t v t = v := by unfold updN; rw [if_pos rfl]
theorem updN_n (r : Nat → Nat) {t q : Nat} (v : Nat) (h : q ≠ t) : updN r t v q = r q := by unfold updN; rw [if_neg h]
def wsum (c ρ : Nat → Nat) : Nat → Nat
  | 0 => 0
  | n + 1 => wsum c ρ n + ρ n * c n
theorem wsum_congr {c ρ ρ' : Nat → Nat} : ∀ n, (∀ q, q < n → ρ q = ρ' q) → wsum c ρ n = wsum c ρ' n
  | 0, _ => rfl
  | n + 1, h => by rw [wsum, wsum, wsum_congr n (fun q hq => h q (by omega)), h n (by omega)]
theorem wsum_upd (c r : Nat → Nat) (t v : Nat) : wsum c (updN r t v) (t + 1) = wsum c r t + v * c t := by
  rw [wsum, updN_s, wsum_congr t (fun q hq => updN_n r v (by omega))]
theorem wsum_le {c ρ : Nat → Nat} (hc : ∀ q, c q < 256) : ∀ n, (∀ q, q < n → ρ q ≤ 24) → wsum c ρ n ≤ n * 6120
  | 0, _ => by simp [wsum]
  | n + 1, h => by
    have h1 := wsum_le hc n (fun q hq => h q (by omega))
    have h2 : ρ n * c n ≤ 24 * 255 := Nat.mul_le_mul (h n (by omega)) (by have := hc n; omega)
    rw [wsum]
    omega
abbrev jA := Option (Nat × (Nat → Nat))
def vis (c g : Nat → Nat) (n much : Nat) (a : jA) (ρ : Nat → Nat) : jA := if wsum c ρ n ≤ much then (match a with | none => some (wsum g ρ n, ρ) | some (v, b) => if v < wsum g ρ n then some (wsum g ρ n, ρ) else some (v, b)) else a
def EN (c g : Nat → Nat) (n much : Nat) : Nat → Nat → Nat → (Nat → Nat) → jA → jA
  | 0, t, h, r, a => vis c g n much a (updN r t h)
  | k + 1, t, h, r, a => dn (fun s b => EN c g n much k (t + 1) (h - s) (updN r t s) b) h a
theorem EN_prune {c g : Nat → Nat} {n much : Nat} : ∀ (k t h : Nat) (r : Nat → Nat) (a : jA), t + k + 1 = n → much < wsum c r t → EN c g n much k t h r a = a
  | 0, t, h, r, a, e, hp => by
    subst e
    show vis c g (t + 0 + 1) much a (updN r t h) = a
    unfold vis
    rw [show t + 0 + 1 = t + 1 from rfl, wsum_upd, if_neg (by omega)]
  | k + 1, t, h, r, a, e, hp => by
    show dn (fun s b => EN c g n much k (t + 1) (h - s) (updN r t s) b) h a = a
    refine dn_id (fun s b => ?_) h a
    exact EN_prune k (t + 1) (h - s) (updN r t s) b (by omega) (by rw [wsum_upd]; omega)
def accX (n : Nat) (σ : jS) (a : jA) : Prop := match a with | none => σ 62 5 = -1 | some (v, b) => v ≤ 30600 ∧ σ 62 5 = nI v ∧ ∀ q, q < n → σ 66 q = nI (b q)
def accM (n : Nat) (x : Int32) (τ : jS) (a : jA) : Prop := match a with | none => x = -2 ∧ ∀ q, q < n → τ 29 q = -2 | some (v, b) => v ≤ 30600 ∧ x = nI v ∧ ∀ q, q < n → τ 29 q = nI (b q)
def jyX (c g : Nat → Nat) (n t : Nat) (r : Nat → Nat) (a : jA) (σ0 σ : jS) : Prop := σ 62 4 = nI n ∧ (∀ q, q < n → σ 63 q = nI (c q) ∧ σ 64 q = nI (g q)) ∧ (∀ q, q < t → σ 65 q = nI (r q)) ∧ accX n σ a ∧ ∀ d, d ≠ 62 → d ≠ 65 → d ≠ 66 → σ d = σ0 d
theorem jyX_put {c g : Nat → Nat} {n t : Nat} {r : Nat → Nat} {a : jA} {σ0 σ : jS} (h : jyX c g n t r a σ0 σ) (v : Nat) : jyX c g n (t + 1) (updN r t v) a σ0 (js σ 65 t (nI v)) := by
  obtain ⟨h1, h2, h3, h4, h5⟩ := h
  refine ⟨by rw [js_c _ _ _ (by omega)]; exact h1, fun q hq => by rw [js_c _ _ _ (by omega), js_c _ _ _ (by omega)]; exact h2 q hq, fun q hq => ?_, ?_, fun d d1 d2 d3 => by rw [js_c _ _ _ d2]; exact h5 d d1 d2 d3⟩
  · by_cases e : q = t
    · rw [e, js_at, updN_s]
    · rw [js_k _ _ e, updN_n _ _ e]; exact h3 q (by omega)
  · unfold accX at h4 ⊢
    rw [js_c _ _ _ (by omega), js_c _ _ _ (by omega)]
    exact h4
theorem jyX_back {c g : Nat → Nat} {n t : Nat} {r : Nat → Nat} {a : jA} {σ0 σ : jS} {v : Nat} (h : jyX c g n (t + 1) (updN r t v) a σ0 σ) : jyX c g n t r a σ0 σ := by
  obtain ⟨h1, h2, h3, h4, h5⟩ := h
  exact ⟨h1, h2, fun q hq => by rw [h3 q (by omega), updN_n _ _ (by omega)], h4, h5⟩
theorem x_note (F : Nat) {c g : Nat → Nat} {n much : Nat} (hn : n ≤ 5) {r : Nat → Nat} {a : jA} {σ0 σ : jS} (h : jyX c g n n r a σ0 σ) (hv : wsum g r n ≤ 30600) (hc : wsum c r n ≤ much) : ∃ σ', mX1_note F (nI (wsum g r n)) σ = some σ' ∧ jyX c g n n r (vis c g n much a r) σ0 σ' := by
  obtain ⟨h1, h2, h3, h4, h5⟩ := h
  unfold mX1_note
  have up : jyX c g n n r (some (wsum g r n, r)) σ0 (jcp (js σ 62 5 (nI (wsum g r n))) 65 66 5) := by
    refine ⟨?_, fun q hq => ?_, fun q hq => ?_, ⟨hv, ?_, fun q hq => ?_⟩, fun d d1 d2 d3 => ?_⟩
    · rw [jcp_c _ _ _ _ (by omega), js_k _ _ (by omega)]; exact h1
    · rw [jcp_c _ _ _ _ (by omega), jcp_c _ _ _ _ (by omega), js_c _ _ _ (by omega), js_c _ _ _ (by omega)]; exact h2 q hq
    · rw [jcp_c _ _ _ _ (by omega), js_c _ _ _ (by omega)]; exact h3 q hq
    · rw [jcp_c _ _ _ _ (by omega), js_at]
    · rw [jcp_b _ _ _ _ (by omega), js_c _ _ _ (by omega)]; exact h3 q hq
    · rw [jcp_c _ _ _ _ d3, js_c _ _ _ d1]; exact h5 d d1 d2 d3
  unfold vis
  rw [if_pos hc]
  cases a with
  | none =>
    have h4' : σ 62 5 = -1 := h4
    rw [h4', if_pos (m1_lt _ (by omega))]
    exact ⟨_, rfl, up⟩
  | some p =>
    obtain ⟨v, b⟩ := p
    obtain ⟨h41, h42, h43⟩ := (h4 : v ≤ 30600 ∧ σ 62 5 = nI v ∧ ∀ q, q < n → σ 66 q = nI (b q))
    rw [h42]
    by_cases e : v < wsum g r n
    · rw [if_pos (nI_lt e (by omega))]
      simp only [if_pos e]
      exact ⟨_, rfl, up⟩
    · rw [if_neg (nI_nlt (by omega) (by omega))]
      simp only [if_neg e]
      exact ⟨σ, rfl, h1, h2, h3, ⟨h41, h42, h43⟩, h5⟩
theorem nI_down (s : Nat) : nI (s + 1) + (-1 : Int32) = nI s := by
  rw [m1_sub, pk_sub (a := s + 1) (b := 1) (by omega)]
  rfl
theorem x_share (F : Nat) (hF : 40 ≤ F) {c g : Nat → Nat} (hc : ∀ q, c q < 256) (hg : ∀ q, g q < 256) {n much : Nat} (hn : n ≤ 5) (hmu : much ≤ 6120) (σ0 : jS) :
    ∀ (k t h d : Nat) (r : Nat → Nat) (a : jA) (σ : jS), t + k + 1 = n → k < d → h ≤ 24 → (∀ q, q < t → r q ≤ 24) → wsum c r t ≤ much → jyX c g n t r a σ0 σ →
      ∃ σ', rX1_share F d (nI t) (nI h) (nI (much - wsum c r t)) (nI (wsum g r t)) σ = some σ' ∧ jyX c g n t r (EN c g n much k t h r a) σ0 σ' := by
  intro k
  induction k with
  | zero =>
    intro t h d r a σ e hd hh hr hm hJ
    obtain ⟨d, rfl⟩ : ∃ d', d = d' + 1 := ⟨d - 1, by omega⟩
    have hn1 : n = t + 1 := by omega
    subst hn1
    obtain ⟨h1, h2, -⟩ := id hJ
    have hht : h * c t ≤ 24 * 255 := Nat.mul_le_mul hh (by have := hc t; omega)
    have hgt : h * g t ≤ 24 * 255 := Nat.mul_le_mul hh (by have := hg t; omega)
    have hgs := wsum_le hg t hr
    have hput := jyX_put hJ h
    show ∃ σ', bX1_share F (rX1_share F d) (nI t) (nI h) (nI (much - wsum c r t)) (nI (wsum g r t)) σ = some σ' ∧ jyX c g (t + 1) t r (vis c g (t + 1) much a (updN r t h)) σ0 σ'
    unfold bX1_share
    have e1 : nI (t + 1) - (1 : Int32) = nI t := by rw [show (1 : Int32) = nI 1 from rfl, pk_sub (a := t + 1) (b := 1) (by omega)]; rfl
    rw [h1, if_neg (nI_pos (by omega)), if_pos (nI_lt (by omega) (by omega)), if_pos (show nI t < (5 : Int32) from nI_lt (b := 5) (by omega) (by omega)), if_pos (show nI t = nI (t + 1) - 1 from e1.symm), jin_nI (show t < 5 by omega) (by omega), if_pos rfl, nI_clamp (by omega)]
    simp only [ltE, if_true, js_c _ _ _ (show (63 : Nat) ≠ 65 by omega), js_c _ _ _ (show (64 : Nat) ≠ 65 by omega), (h2 t (by omega)).1, (h2 t (by omega)).2, pk_mul, nI_add]
    by_cases q : h * c t ≤ much - wsum c r t
    · rw [if_neg (nI_nlt q (by omega))]
      have es : wsum g (updN r t h) (t + 1) = wsum g r t + h * g t := wsum_upd g r t h
      obtain ⟨σ1, b1, b2⟩ := x_note F (much := much) hn hput (by rw [es]; have : t * 6120 ≤ 4 * 6120 := Nat.mul_le_mul_right _ (by omega); omega) (by rw [wsum_upd]; omega)
      rw [es] at b1
      rw [b1]
      exact ⟨σ1, rfl, jyX_back b2⟩
    · rw [if_pos (nI_lt (by omega) (by omega))]
      refine ⟨_, rfl, ?_⟩
      have ev : vis c g (t + 1) much a (updN r t h) = a := by
        unfold vis
        rw [wsum_upd, if_neg (by omega)]
      rw [ev]
      exact jyX_back hput
  | succ k ih =>
    intro t h d r a σ e hd hh hr hm hJ
    obtain ⟨d, rfl⟩ : ∃ d', d = d' + 1 := ⟨d - 1, by omega⟩
    show ∃ σ', bX1_share F (rX1_share F d) (nI t) (nI h) (nI (much - wsum c r t)) (nI (wsum g r t)) σ = some σ' ∧ jyX c g n t r (dn (fun s b => EN c g n much k (t + 1) (h - s) (updN r t s) b) h a) σ0 σ'
    unfold bX1_share
    have hgs := wsum_le hg t hr
    have h1 := hJ.1
    rw [h1, if_neg (nI_pos (by omega)), if_pos (nI_lt (by omega) (by omega)), if_pos (show nI t < (5 : Int32) from nI_lt (b := 5) (by omega) (by omega)), if_neg (show ¬ nI t = nI n - 1 from fun e9 => by
      rw [show (1 : Int32) = nI 1 from rfl, pk_sub (a := n) (b := 1) (by omega)] at e9
      have := nI_inj (by omega) (by omega) e9
      omega)]
    have key : ∀ (s N : Nat) (b : jA) (ρ : jS), s ≤ h → s + 1 < N → jyX c g n t r b σ0 ρ → ∃ σ', lp_X1_share_66 F (rX1_share F d) N (nI t) (nI h) (nI (much - wsum c r t)) (nI (wsum g r t)) (nI s) ρ = some σ' ∧ jyX c g n t r (dn (fun s b => EN c g n much k (t + 1) (h - s) (updN r t s) b) s b) σ0 σ' := by
      have one : ∀ (s N : Nat) (b : jA) (ρ : jS), s ≤ h → jyX c g n t r b σ0 ρ → ∃ ρ', lp_X1_share_66 F (rX1_share F d) (N + 1) (nI t) (nI h) (nI (much - wsum c r t)) (nI (wsum g r t)) (nI s) ρ = lp_X1_share_66 F (rX1_share F d) N (nI t) (nI h) (nI (much - wsum c r t)) (nI (wsum g r t)) (nI s + -1) ρ' ∧ jyX c g n t r (EN c g n much k (t + 1) (h - s) (updN r t s) b) σ0 ρ' := by
        intro s N b ρ hs hb
        have hst : s * c t ≤ 24 * 255 := Nat.mul_le_mul (by omega) (by have := hc t; omega)
        have h2 := hb.2.1 t (by omega)
        rw [lp_X1_share_66, if_neg (nI_pos (by omega)), jin_nI (show t < 5 by omega) (by omega), if_pos rfl, nI_clamp (by omega)]
        simp only [ltE, if_true, h2.1, pk_mul]
        by_cases q : s * c t ≤ much - wsum c r t
        · rw [if_neg (nI_nlt q (by omega))]
          have hput := jyX_put hb s
          have es := wsum_upd c r t s
          have eg := wsum_upd g r t s
          rw [js_c _ _ _ (show (64 : Nat) ≠ 65 by omega), h2.2, pk_mul, nI_add, nI1, pk_sub (a := h) (b := s) (by omega), pk_sub (a := much - wsum c r t) (b := s * c t) q, show much - wsum c r t - s * c t = much - wsum c (updN r t s) (t + 1) by omega, ← eg]
          obtain ⟨ρ', b1, b2⟩ := ih (t + 1) (h - s) d (updN r t s) b _ (by omega) (by omega) (by omega) (fun q hq => by
            by_cases e2 : q = t
            · rw [e2, updN_s]; omega
            · rw [updN_n _ _ e2]; exact hr q (by omega)) (by omega) hput
          rw [b1]
          exact ⟨ρ', rfl, jyX_back b2⟩
        · rw [if_pos (nI_lt (by omega) (by omega)), EN_prune k (t + 1) (h - s) (updN r t s) b (by omega) (by rw [wsum_upd]; omega)]
          exact ⟨ρ, rfl, hb⟩
      intro s
      induction s with
      | zero =>
        intro N b ρ hs hN hb
        obtain ⟨N, rfl⟩ : ∃ N', N = N' + 1 + 1 := ⟨N - 2, by omega⟩
        obtain ⟨ρ', b1, b2⟩ := one 0 (N + 1) b ρ hs hb
        rw [b1, lp_X1_share_66, if_pos (show nI 0 + -1 < 0 by decide)]
        exact ⟨ρ', rfl, b2⟩
      | succ s ihs =>
        intro N b ρ hs hN hb
        obtain ⟨N, rfl⟩ : ∃ N', N = N' + 1 := ⟨N - 1, by omega⟩
        obtain ⟨ρ', b1, b2⟩ := one (s + 1) N b ρ hs hb
        rw [b1, nI_down]
        exact ihs N _ ρ' (by omega) (by omega) b2
    exact key h F a σ (Nat.le_refl h) (by omega) hJ
