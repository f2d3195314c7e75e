/-! ### joy: the reference's rows, one after the other -/
def rwM (n : Nat) (ρ : Nat → Nat) (τ : jS) : Prop := ∀ q, q < n → τ 28 q = nI (ρ q)
def jyM (n : Nat) (ρ : Nat → Nat) (a : jA) (x : Int32) (τ0 τ : jS) : Prop := rwM n ρ τ ∧ accM n x τ a ∧ ∀ d, d ≠ 28 → d ≠ 29 → τ d = τ0 d
theorem jyM_congr {n : Nat} {ρ ρ' : Nat → Nat} {a : jA} {x : Int32} {τ0 τ : jS} (h : jyM n ρ a x τ0 τ) (e : ∀ q, q < n → ρ' q = ρ q) : jyM n ρ' a x τ0 τ := ⟨fun q hq => by rw [e q hq]; exact h.1 q hq, h.2⟩
theorem m_sum (F : Nat) (hF : 10 ≤ F) {n w : Nat} (hn : n ≤ 5) (hw : w ≤ 1) {ρ : Nat → Nat} {τ : jS} (h : rwM n ρ τ) : mX12_sumBy F (nI n) (nI w) τ = some (nI (wsum (fun q => bb τ (2 * q + w)) ρ n)) := by
  unfold mX12_sumBy
  refine loop_p (fun N x (a : Int32) => lp_X12_sumBy_5 F τ N (nI n) (nI w) a x) n (fun i a => a = nI (wsum (fun q => bb τ (2 * q + w)) ρ i)) (fun r => r = some (nI (wsum (fun q => bb τ (2 * q + w)) ρ n))) ?_ ?_ F 0 0 (by omega) (by omega) rfl
  · intro N i a hi ha
    subst ha
    right
    show ∃ a', _ ∧ lp_X12_sumBy_5 F τ (N + 1) (nI n) (nI w) _ (nI i) = lp_X12_sumBy_5 F τ N (nI n) (nI w) a' (nI (i + 1))
    rw [lp_X12_sumBy_5, if_pos (nI_lt hi (by omega)), jin_nI (show i < 5 by omega) (by omega), if_pos rfl, show (2 : Int32) * nI i + nI w = nI (2 * i + w) by rw [show (2 : Int32) = nI 2 from rfl, pk_mul, nI_add], m_oct F τ (show 2 * i + w < 260 by omega)]
    simp only [Option.bind_some, ltE, nI_clamp (show i < 2 ^ 31 by omega), h i hi, pk_mul, nI_add, nI1]
    exact ⟨_, rfl, rfl⟩
  · intro N a ha
    subst ha
    show lp_X12_sumBy_5 F τ (N + 1) (nI n) (nI w) _ (nI n) = _
    rw [lp_X12_sumBy_5, if_neg (nI_nlt (Nat.le_refl n) (by omega))]
theorem m_nx4 (F : Nat) {n : Nat} (hn : n ≤ 5) {ρ : Nat → Nat} {τ : jS} (h : rwM n ρ τ) (hr : ∀ q, q < n → ρ q ≤ 24) (k24 : Int32 → Int32 → jS → Option (Int32 × jS)) {i : Nat} (hi : i + 1 < n) (h0 : ρ i ≠ 0) :
    ∀ (j N : Nat), i + j + 1 < n → (∀ q, i < q → q ≤ i + j → ρ q = 0) → j < N → lp_X12_nextRow_4 F k24 N (nI n) (nI (i + j)) τ = k24 (nI n) (nI i) τ := by
  intro j
  induction j with
  | zero =>
    intro N _ _ hN
    obtain ⟨N, rfl⟩ : ∃ m, N = m + 1 := ⟨N - 1, by omega⟩
    rw [lp_X12_nextRow_4, Nat.add_zero, if_neg (nI_pos (by omega)), jin_nI (show i < 5 by omega) (by omega), if_pos rfl, nI_clamp (by omega), h i (by omega), if_neg (nI_ne0 (by omega) (by have := hr i (by omega); omega))]
  | succ j ih =>
    intro N h1 h2 hN
    obtain ⟨N, rfl⟩ : ∃ m, N = m + 1 := ⟨N - 1, by omega⟩
    rw [lp_X12_nextRow_4, if_neg (nI_pos (by omega)), jin_nI (show i + (j + 1) < 5 by omega) (by omega), if_pos rfl, nI_clamp (by omega), h _ (by omega), h2 (i + (j + 1)) (by omega) (by omega), if_pos (show nI 0 = 0 from rfl), ltE, show (1 : Int32) = nI 1 from rfl, pk_sub (a := i + (j + 1)) (b := 1) (by omega)]
    exact ih N (by omega) (fun q q1 q2 => h2 q q1 (by omega)) (by omega)
theorem m_nx4z (F : Nat) {n : Nat} (hn : n ≤ 5) {ρ : Nat → Nat} {τ : jS} (h : rwM n ρ τ) (k24 : Int32 → Int32 → jS → Option (Int32 × jS)) (hz : ∀ q, q + 1 < n → ρ q = 0) :
    ∀ (j N : Nat), j + 1 ≤ n → j < N → lp_X12_nextRow_4 F k24 N (nI n) (nI j - 1) τ = k24 (nI n) (-1) τ := by
  intro j
  induction j with
  | zero =>
    intro N _ hN
    obtain ⟨N, rfl⟩ : ∃ m, N = m + 1 := ⟨N - 1, by omega⟩
    rw [lp_X12_nextRow_4, show nI 0 - 1 = (-1 : Int32) from rfl, if_pos (show (-1 : Int32) < 0 by decide)]
  | succ j ih =>
    intro N h1 hN
    obtain ⟨N, rfl⟩ : ∃ m, N = m + 1 := ⟨N - 1, by omega⟩
    rw [show nI (j + 1) - (1 : Int32) = nI j by rw [show (1 : Int32) = nI 1 from rfl, pk_sub (a := j + 1) (b := 1) (by omega)]; rfl, lp_X12_nextRow_4, if_neg (nI_pos (by omega)), jin_nI (show j < 5 by omega) (by omega), if_pos rfl, nI_clamp (by omega), h _ (by omega), hz j (by omega), if_pos (show nI 0 = 0 from rfl), ltE]
    exact ih N (by omega) (by omega)
theorem m_next0 (F : Nat) (hF : 10 ≤ F) {n : Nat} (hn1 : 1 ≤ n) (hn : n ≤ 5) {ρ : Nat → Nat} {τ : jS} (h : rwM n ρ τ) (hz : ∀ q, q + 1 < n → ρ q = 0) : mX12_nextRow F (nI n) τ = some (0, τ) := by
  unfold mX12_nextRow
  have e2 : nI n - (2 : Int32) = nI (n - 1) - 1 := by
    by_cases c : n = 1
    · subst c; rfl
    · rw [show (2 : Int32) = nI 2 from rfl, show (1 : Int32) = nI 1 from rfl, pk_sub (a := n) (b := 2) (by omega), pk_sub (a := n - 1) (b := 1) (by omega)]
      congr 1
  rw [ltE, e2, m_nx4z F hn h _ hz (n - 1) F (by omega) (by omega)]
  show jn_X12_nextRow_24 F (nI n) (-1) τ = _
  unfold jn_X12_nextRow_24
  rw [if_pos (show (-1 : Int32) < 0 by decide)]
/-- the row behind this one -/
theorem m_next (F : Nat) (hF : 10 ≤ F) {n : Nat} (hn : n ≤ 5) {ρ : Nat → Nat} {τ : jS} (h : rwM n ρ τ) (hr : ∀ q, q < n → ρ q ≤ 24) {i : Nat} (hi : i + 1 < n) (h0 : ρ i ≠ 0) (hz : ∀ q, i < q → q + 1 < n → ρ q = 0) :
    ∃ τ', mX12_nextRow F (nI n) τ = some (1, τ') ∧ (∀ d, d ≠ 28 → τ' d = τ d) ∧ ∀ q, q < n → τ' 28 q = nI (if q < i then ρ q else if q = i then ρ i - 1 else if q = i + 1 then ρ (n - 1) + 1 else 0) := by
  unfold mX12_nextRow
  rw [ltE, show nI n - (2 : Int32) = nI (i + (n - 2 - i)) by rw [show (2 : Int32) = nI 2 from rfl, pk_sub (a := n) (b := 2) (by omega)]; congr 1; omega, m_nx4 F hn h hr _ hi h0 (n - 2 - i) F (by omega) (fun q q1 q2 => hz q q1 (by omega)) (by omega)]
  show ∃ τ', jn_X12_nextRow_24 F (nI n) (nI i) τ = some (1, τ') ∧ _
  unfold jn_X12_nextRow_24
  rw [if_neg (nI_pos (by omega)), ltE, nI1]
  refine loop_p (fun N x (s : Int32 × jS) => lp_X12_nextRow_37 F (fun x2_10 x3_10 σ10 => (if jin x2_10 5 = true then (if jin x2_10 5 = true then (lt (js σ10 28 x2_10.toNatClampNeg ((σ10 28 x2_10.toNatClampNeg) - (1 : Int32))) fun σ12 => (if jin (x2_10 + (1 : Int32)) 5 = true then (lt (js σ12 28 (x2_10 + (1 : Int32)).toNatClampNeg (x3_10 + (1 : Int32))) fun σ14 => some ((1 : Int32), σ14)) else none)) else none) else none)) N (nI n) (nI i) s.1 x s.2) n (fun x s => i < x ∧ s.1 = nI (if x = n then ρ (n - 1) else 0) ∧ (∀ d, d ≠ 28 → s.2 d = τ d) ∧ ∀ q, q < n → s.2 28 q = nI (if i < q ∧ q < x then 0 else ρ q)) (fun r => ∃ τ', r = some (1, τ') ∧ (∀ d, d ≠ 28 → τ' d = τ d) ∧ ∀ q, q < n → τ' 28 q = nI (if q < i then ρ q else if q = i then ρ i - 1 else if q = i + 1 then ρ (n - 1) + 1 else 0)) ?_ ?_ F (i + 1) (0, τ) (by omega) (by omega) ⟨by omega, by rw [if_neg (by omega)]; rfl, fun _ _ => rfl, fun q hq => by rw [if_neg (by omega)]; exact h q hq⟩
  · intro N x s hx ⟨hx1, g1, g2, g3⟩
    right
    show ∃ a' : Int32 × jS, _ ∧ lp_X12_nextRow_37 F _ (N + 1) (nI n) (nI i) s.1 (nI x) s.2 = lp_X12_nextRow_37 F _ N (nI n) (nI i) a'.1 (nI (x + 1)) a'.2
    rw [lp_X12_nextRow_37, if_pos (nI_lt hx (by omega)), jin_nI (show x < 5 by omega) (by omega), if_pos rfl, nI_clamp (by omega), g3 x hx, if_neg (show ¬ (i < x ∧ x < x) by omega), g1, if_neg (show ¬ x = n by omega)]
    simp only [ltE, nI_add, nI1, if_true]
    refine ⟨(_, _), ⟨by omega, ?_, fun d hd => ?_, fun q hq => ?_⟩, rfl⟩
    · show nI (0 + ρ x) = _
      by_cases e : x + 1 = n
      · rw [if_pos e, show n - 1 = x by omega, Nat.zero_add]
      · rw [if_neg e, hz x hx1 (by omega)]
    · show js s.2 28 x 0 d = τ d
      rw [js_c _ _ _ hd]; exact g2 d hd
    · show js s.2 28 x 0 28 q = _
      by_cases e : q = x
      · rw [e, js_at, if_pos (by omega)]; rfl
      · rw [js_k _ _ e, g3 q hq]
        by_cases e2 : i < q ∧ q < x
        · rw [if_pos e2, if_pos (by omega)]
        · rw [if_neg e2, if_neg (by omega)]
  · intro N s ⟨_, g1, g2, g3⟩
    show ∃ τ', lp_X12_nextRow_37 F _ (N + 1) (nI n) (nI i) s.1 (nI n) s.2 = some (1, τ') ∧ _
    rw [lp_X12_nextRow_37, if_neg (nI_nlt (Nat.le_refl n) (by omega)), jin_nI (show i < 5 by omega) (by omega), if_pos rfl, if_pos rfl, nI_clamp (by omega), g3 i (by omega), if_neg (show ¬ (i < i ∧ i < n) by omega), nI1, jin_nI (show i + 1 < 5 by omega) (by omega)]
    simp only [ltE, if_true, g1, nI1, nI_clamp (show i + 1 < 2 ^ 31 by omega)]
    refine ⟨_, rfl, fun d hd => ?_, fun q hq => ?_⟩
    · rw [js_c _ _ _ hd, js_c _ _ _ hd]; exact g2 d hd
    · by_cases e : q = i + 1
      · rw [e, js_at, if_neg (by omega), if_neg (by omega), if_pos rfl]
      · rw [js_k _ _ e]
        by_cases e2 : q = i
        · rw [e2, js_at, if_neg (by omega), if_pos rfl, show (1 : Int32) = nI 1 from rfl, pk_sub (a := ρ i) (b := 1) (by omega)]
        · rw [js_k _ _ e2, g3 q hq]
          by_cases e3 : q < i
          · rw [if_pos e3, if_neg (by omega)]
          · rw [if_neg e3, if_neg e2, if_neg e, if_pos (by omega)]
def jyK : Int32 → Int32 → jS → Option (Int32 × jS) := fun x3_24 x4_24 σ24 => (if x3_24 = (100 : Int32) then some (x4_24, σ24) else (if jin x3_24 5 = true then some ((σ24 29 x3_24.toNatClampNeg), σ24) else none))
def jyV (F n much : Nat) (x3 : Int32) (N : Nat) (x : Int32) (τ : jS) : Option (Int32 × jS) := Option.bind (mX12_nextRow F (nI n) τ) fun q => lp_X12_joy_103 F jyK N (nI n) (nI much) x3 x q.1 q.2
theorem m_keepR (F : Nat) (hF : 10 ≤ F) {n : Nat} (hn : n ≤ 5) {ρ : Nat → Nat} {τ : jS} (h : rwM n ρ τ) (k166 : Int32 → Int32 → Int32 → Int32 → jS → Option (Int32 × jS)) (x2 x3 x4 : Int32) : ∃ τ', lp_X12_joy_140 F k166 F (nI n) x2 x3 x4 0 τ = k166 (nI n) x2 x3 x4 τ' ∧ (∀ d, d ≠ 29 → τ' d = τ d) ∧ ∀ q, q < n → τ' 29 q = nI (ρ q) := by
  refine loop_p (fun N x (s : jS) => lp_X12_joy_140 F k166 N (nI n) x2 x3 x4 x s) n (fun x s => (∀ d, d ≠ 29 → s d = τ d) ∧ ∀ q, q < x → s 29 q = nI (ρ q)) (fun r => ∃ τ', r = k166 (nI n) x2 x3 x4 τ' ∧ (∀ d, d ≠ 29 → τ' d = τ d) ∧ ∀ q, q < n → τ' 29 q = nI (ρ q)) ?_ ?_ F 0 τ (by omega) (by omega) ⟨fun _ _ => rfl, fun q hq => absurd hq (by omega)⟩
  · intro N x s hx ⟨g1, g2⟩
    right
    show ∃ a', _ ∧ lp_X12_joy_140 F k166 (N + 1) (nI n) x2 x3 x4 (nI x) s = lp_X12_joy_140 F k166 N (nI n) x2 x3 x4 (nI (x + 1)) a'
    rw [lp_X12_joy_140, if_pos (nI_lt hx (by omega)), jin_nI (show x < 5 by omega) (by omega), if_pos rfl, if_pos rfl, nI_clamp (by omega), nI1, ltE]
    refine ⟨_, ⟨fun d hd => ?_, fun q hq => ?_⟩, rfl⟩
    · rw [js_c _ _ _ hd]; exact g1 d hd
    · by_cases e : q = x
      · rw [e, js_at, g1 28 (by omega)]; exact h x hx
      · rw [js_k _ _ e]; exact g2 q (by omega)
  · intro N s ⟨g1, g2⟩
    show ∃ τ', lp_X12_joy_140 F k166 (N + 1) (nI n) x2 x3 x4 (nI n) s = _ ∧ _
    rw [lp_X12_joy_140, if_neg (nI_nlt (Nat.le_refl n) (by omega))]
    exact ⟨s, rfl, g1, g2⟩
theorem m_keepR2 (F : Nat) (hF : 10 ≤ F) {n : Nat} (hn : n ≤ 5) {ρ : Nat → Nat} {τ : jS} (h : rwM n ρ τ) : ∃ τ', (∀ (k166 : Int32 → Int32 → Int32 → Int32 → jS → Option (Int32 × jS)) (x2 x3 x4 : Int32), lp_X12_joy_140 F k166 F (nI n) x2 x3 x4 0 τ = k166 (nI n) x2 x3 x4 τ') ∧ (∀ d, d ≠ 29 → τ' d = τ d) ∧ ∀ q, q < n → τ' 29 q = nI (ρ q) := by
  have hl : ∀ (k166 : Int32 → Int32 → Int32 → Int32 → jS → Option (Int32 × jS)) (x2 x3 x4 : Int32), lp_X12_joy_140 F k166 F (nI n) x2 x3 x4 0 τ = k166 (nI n) x2 x3 x4 (itr (fun i (s : jS) => js s 29 i (s 28 i)) 0 (n - 0) τ) := by
    intro k166 x2 x3 x4
    refine loop_f (fun N x (s : jS) => lp_X12_joy_140 F k166 N (nI n) x2 x3 x4 x s) n (fun i (s : jS) => js s 29 i (s 28 i)) (fun s => k166 (nI n) x2 x3 x4 s) ?_ ?_ F 0 τ (by omega) (by omega)
    · intro N x s hx
      show lp_X12_joy_140 F k166 (N + 1) (nI n) x2 x3 x4 (nI x) s = lp_X12_joy_140 F k166 N (nI n) x2 x3 x4 (nI (x + 1)) _
      rw [lp_X12_joy_140, if_pos (nI_lt hx (by omega)), jin_nI (show x < 5 by omega) (by omega), if_pos rfl, if_pos rfl, nI_clamp (by omega), nI1, ltE]
    · intro N s
      show lp_X12_joy_140 F k166 (N + 1) (nI n) x2 x3 x4 (nI n) s = _
      rw [lp_X12_joy_140, if_neg (nI_nlt (Nat.le_refl n) (by omega))]
  obtain ⟨τ', a1, a2, a3⟩ := m_keepR F hF hn h (fun _ _ _ _ s => some (0, s)) 0 0 0
  rw [hl] at a1
  have e := (Prod.mk.inj (Option.some.inj a1)).2
  exact ⟨τ', fun k x2 x3 x4 => by rw [hl, e], a2, a3⟩
theorem bb6 {τ τ0 : jS} (h : τ 6 = τ0 6) (i : Nat) : bb τ i = bb τ0 i := by unfold bb; rw [h]
theorem m_visit (F : Nat) (hF : 10 ≤ F) {n much : Nat} (hn : n ≤ 5) (hmu : much ≤ 6120) {ρ : Nat → Nat} {a : jA} {x x3 : Int32} {τ0 τ : jS} (h : jyM n ρ a x τ0 τ) (hr : ∀ q, q < n → ρ q ≤ 24) :
    ∃ x' τ', (∀ N, lp_X12_joy_103 F jyK (N + 1) (nI n) (nI much) x3 x 1 τ = jyV F n much x3 N x' τ') ∧ jyM n ρ (vis (fun q => bb τ0 (2 * q)) (fun q => bb τ0 (2 * q + 1)) n much a ρ) x' τ0 τ' := by
  obtain ⟨h1, h2, h3⟩ := h
  have eb := bb6 (h3 6 (by omega) (by omega))
  have e0 : (fun q => bb τ (2 * q + 0)) = fun q => bb τ0 (2 * q) := funext fun q => eb _
  have e1 : (fun q => bb τ (2 * q + 1)) = fun q => bb τ0 (2 * q + 1) := funext fun q => eb _
  have s0 := m_sum F hF hn (w := 0) (by omega) h1
  have s1 := m_sum F hF hn (w := 1) (by omega) h1
  rw [e0] at s0
  rw [e1] at s1
  have s0' : mX12_sumBy F (nI n) (0 : Int32) τ = _ := s0
  have s1' : mX12_sumBy F (nI n) (1 : Int32) τ = _ := s1
  have c0 := wsum_le (c := fun q => bb τ0 (2 * q)) (fun q => (bb_n τ0 _).1) n hr
  have c1 := wsum_le (c := fun q => bb τ0 (2 * q + 1)) (fun q => (bb_n τ0 _).1) n hr
  have hn6 : n * 6120 ≤ 5 * 6120 := Nat.mul_le_mul_right _ hn
  generalize hc : (fun q => bb τ0 (2 * q)) = c at s0' c0 ⊢
  generalize hg : (fun q => bb τ0 (2 * q + 1)) = g at s1' c1 ⊢
  by_cases q : wsum c ρ n ≤ much
  · have step : ∀ N, lp_X12_joy_103 F jyK (N + 1) (nI n) (nI much) x3 x 1 τ = (if x < nI (wsum g ρ n) then lp_X12_joy_140 F (fun x1_21 x2_21 x3_21 x4_21 σ21 => (Option.bind (mX12_nextRow F x1_21 σ21) fun q22 => (lp_X12_joy_103 F jyK N x1_21 x2_21 x3_21 x4_21 q22.1 q22.2))) F (nI n) (nI much) x3 (nI (wsum g ρ n)) 0 τ else (Option.bind (mX12_nextRow F (nI n) τ) fun q23 => (lp_X12_joy_103 F jyK N (nI n) (nI much) x3 x q23.1 q23.2))) := by
      intro N
      rw [lp_X12_joy_103, if_neg (show ¬ (1 : Int32) = 0 by decide), s0', s1']
      simp only [Option.bind_some]
      rw [if_neg (nI_nlt q (by omega))]
    have stay : ∀ (v : Nat) (b : Nat → Nat), a = some (v, b) → ¬ v < wsum g ρ n → vis c g n much a ρ = a := by
      intro v b ea hv
      unfold vis
      rw [if_pos q, ea]
      simp only [if_neg hv]
    have take : (∀ v b, a = some (v, b) → v < wsum g ρ n) → vis c g n much a ρ = some (wsum g ρ n, ρ) := by
      intro hv
      unfold vis
      rw [if_pos q]
      cases a with
      | none => rfl
      | some p =>
        obtain ⟨v, b⟩ := p
        simp only [if_pos (hv v b rfl)]
    have goes : x < nI (wsum g ρ n) → vis c g n much a ρ = some (wsum g ρ n, ρ) → ∃ x' τ', (∀ N, lp_X12_joy_103 F jyK (N + 1) (nI n) (nI much) x3 x 1 τ = jyV F n much x3 N x' τ') ∧ jyM n ρ (vis c g n much a ρ) x' τ0 τ' := by
      intro hx hv
      rw [hv]
      obtain ⟨τ', b1, b2, b3⟩ := m_keepR2 F hF hn h1
      refine ⟨nI (wsum g ρ n), τ', fun N => ?_, fun q hq => by rw [b2 28 (by omega)]; exact h1 q hq, ⟨by omega, rfl, b3⟩, fun d d1 d2 => by rw [b2 d d2]; exact h3 d d1 d2⟩
      rw [step, if_pos hx, b1]
      rfl
    cases a with
    | none =>
      have hx : x = -2 := h2.1
      exact goes (by
        rw [hx, fa_lt, nI_toInt (by omega), show (-2 : Int32).toInt = -2 from rfl]
        omega) (take (fun v b e => by cases e))
    | some p =>
      obtain ⟨v, b⟩ := p
      obtain ⟨h21, h22, h23⟩ := (h2 : v ≤ 30600 ∧ x = nI v ∧ ∀ q, q < n → τ 29 q = nI (b q))
      by_cases e : v < wsum g ρ n
      · exact goes (by rw [h22]; exact nI_lt e (by omega)) (take (fun v' b' e' => by cases e'; exact e))
      · rw [stay v b rfl e]
        refine ⟨x, τ, fun N => ?_, h1, ⟨h21, h22, h23⟩, h3⟩
        rw [step, if_neg (show ¬ x < nI (wsum g ρ n) by rw [h22]; exact nI_nlt (by omega) (by omega))]
        rfl
  · have ev : vis c g n much a ρ = a := by unfold vis; rw [if_neg q]
    rw [ev]
    refine ⟨x, τ, fun N => ?_, h1, h2, h3⟩
    rw [lp_X12_joy_103, if_neg (show ¬ (1 : Int32) = 0 by decide), s0']
    simp only [Option.bind_some]
    rw [if_pos (nI_lt (by omega) (by omega))]
    rfl
