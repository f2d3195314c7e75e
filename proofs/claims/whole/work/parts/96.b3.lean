def fst' (r : Nat → Nat) (t h : Nat) : Nat → Nat := fun q => if q < t then r q else if q = t then h else 0
def lst' (n : Nat) (r : Nat → Nat) (t h : Nat) : Nat → Nat := fun q => if q < t then r q else if q + 1 = n then h else 0
theorem m_rows (F : Nat) (hF : 10 ≤ F) {n much : Nat} (hn : n ≤ 5) (hmu : much ≤ 6120) {x3 : Int32} {τ0 : jS} :
    ∀ (k t h : Nat) (r : Nat → Nat) (a : jA) (x : Int32) (τ : jS), t + k + 1 = n → h ≤ 24 → (∀ q, q < t → r q ≤ 24) → jyM n (fst' r t h) a x τ0 τ →
      ∃ C x' τ', C ≤ 25 ^ k ∧ (∀ N, lp_X12_joy_103 F jyK (N + C) (nI n) (nI much) x3 x 1 τ = jyV F n much x3 N x' τ') ∧ jyM n (lst' n r t h) (EN (fun q => bb τ0 (2 * q)) (fun q => bb τ0 (2 * q + 1)) n much k t h r a) x' τ0 τ' := by
  intro k
  induction k with
  | zero =>
    intro t h r a x τ e hh hr hJ
    have hJ2 : jyM n (updN r t h) a x τ0 τ := jyM_congr hJ (fun q hq => by
      unfold updN fst'
      by_cases c : q = t
      · rw [if_pos c, if_neg (by omega), if_pos c]
      · rw [if_neg c, if_pos (by omega)])
    obtain ⟨x', τ', b1, b2⟩ := m_visit F hF hn hmu (x3 := x3) hJ2 (fun q hq => by
      unfold updN
      split
      · omega
      · exact hr q (by omega))
    refine ⟨1, x', τ', by omega, b1, jyM_congr b2 (fun q hq => ?_)⟩
    unfold updN lst'
    by_cases c : q = t
    · rw [if_pos c, if_neg (by omega), if_pos (by omega)]
    · rw [if_neg c, if_pos (by omega)]
  | succ k ih =>
    intro t h r a x τ e hh hr hJ
    have key : ∀ (s : Nat) (a : jA) (x : Int32) (τ : jS), s ≤ h → jyM n (fst' (updN r t s) (t + 1) (h - s)) a x τ0 τ →
        ∃ C x' τ', C ≤ (s + 1) * 25 ^ k ∧ (∀ N, lp_X12_joy_103 F jyK (N + C) (nI n) (nI much) x3 x 1 τ = jyV F n much x3 N x' τ') ∧ jyM n (lst' n r t h) (dn (fun s b => EN (fun q => bb τ0 (2 * q)) (fun q => bb τ0 (2 * q + 1)) n much k (t + 1) (h - s) (updN r t s) b) s a) x' τ0 τ' := by
      intro s
      induction s with
      | zero =>
        intro a x τ _ hJ
        obtain ⟨C, x', τ', hC, b1, b2⟩ := ih (t + 1) (h - 0) (updN r t 0) a x τ (by omega) (by omega) (fun q hq => by
          unfold updN
          split
          · omega
          · exact hr q (by omega)) hJ
        refine ⟨C, x', τ', by omega, b1, jyM_congr b2 (fun q hq => ?_)⟩
        unfold lst' updN
        by_cases c1 : q < t
        · rw [if_pos c1, if_pos (by omega), if_neg (by omega)]
        · by_cases c2 : q = t
          · rw [if_neg c1, if_neg (by omega), if_pos (by omega), if_pos c2]
          · rw [if_neg c1, if_neg (show ¬ q < t + 1 by omega)]
            rfl
      | succ s ihs =>
        intro a x τ hs hJ
        obtain ⟨C1, x1, τ1, hC1, b1, b2⟩ := ih (t + 1) (h - (s + 1)) (updN r t (s + 1)) a x τ (by omega) (by omega) (fun q hq => by
          unfold updN
          split
          · omega
          · exact hr q (by omega)) hJ
        have hrow : ∀ q, q < n → lst' n (updN r t (s + 1)) (t + 1) (h - (s + 1)) q ≤ 24 := fun q hq => by
          unfold lst' updN
          split
          · split
            · omega
            · exact hr q (by omega)
          · split <;> omega
        obtain ⟨τ2, d1, d2, d3⟩ := m_next F hF hn b2.1 hrow (i := t) (by omega) (by
          unfold lst' updN
          rw [if_pos (by omega), if_pos rfl]
          omega) (fun q q1 q2 => by
          unfold lst'
          rw [if_neg (by omega), if_neg (by omega)])
        have hJ2 : jyM n (fst' (updN r t s) (t + 1) (h - s)) (EN (fun q => bb τ0 (2 * q)) (fun q => bb τ0 (2 * q + 1)) n much k (t + 1) (h - (s + 1)) (updN r t (s + 1)) a) x1 τ0 τ2 := by
          refine ⟨fun q hq => ?_, ?_, fun d h1 h2 => by rw [d2 d h1]; exact b2.2.2 d h1 h2⟩
          · rw [d3 q hq]
            congr 1
            unfold fst' lst' updN
            by_cases c1 : q < t
            · rw [if_pos c1, if_pos (by omega), if_neg (by omega), if_pos (by omega), if_neg (by omega)]
            · rw [if_neg c1]
              by_cases c2 : q = t
              · rw [if_pos c2, if_pos (by omega), if_pos rfl, if_pos (by omega), if_pos c2]
                omega
              · rw [if_neg c2]
                by_cases c3 : q = t + 1
                · rw [if_pos c3, if_neg (show ¬ n - 1 < t + 1 by omega), if_pos (show n - 1 + 1 = n by omega), if_neg (by omega), if_pos c3]
                  omega
                · rw [if_neg c3, if_neg (by omega), if_neg c3]
          · have h9 := b2.2.1
            unfold accM at h9 ⊢
            rw [d2 29 (by omega)]
            exact h9
        obtain ⟨C2, x2, τ3, hC2, e1, e2⟩ := ihs _ x1 τ2 (by omega) hJ2
        refine ⟨C2 + C1, x2, τ3, ?_, fun N => ?_, e2⟩
        · rw [Nat.add_mul (s + 1) 1]
          omega
        · rw [← Nat.add_assoc, b1, ← e1 N]
          unfold jyV
          rw [d1]
          rfl
    have h0 : jyM n (fst' (updN r t h) (t + 1) (h - h)) a x τ0 τ := jyM_congr hJ (fun q hq => by
      unfold fst' updN
      by_cases c1 : q < t
      · rw [if_pos (by omega), if_neg (by omega), if_pos c1]
      · rw [if_neg c1]
        by_cases c2 : q = t
        · rw [if_pos (by omega), if_pos c2, if_pos c2]
        · rw [if_neg (by omega), if_neg c2]
          split <;> omega)
    obtain ⟨C, x', τ', hC, e1, e2⟩ := key h a x τ (Nat.le_refl h) h0
    refine ⟨C, x', τ', ?_, e1, e2⟩
    have : (h + 1) * 25 ^ k ≤ 25 * 25 ^ k := Nat.mul_le_mul_right _ (by omega)
    rw [Nat.pow_succ, Nat.mul_comm (25 ^ k) 25]
    omega
theorem m_row0 (F : Nat) (hF : 10 ≤ F) {n : Nat} (hn : n ≤ 5) (τ : jS) (k100 : Int32 → Int32 → Int32 → Int32 → jS → Option (Int32 × jS)) (x2 x3 x4 : Int32) :
    ∃ τ', lp_X12_joy_61 F k100 F (nI n) x2 x3 x4 0 τ = k100 (nI n) x2 x3 x4 τ' ∧ (∀ d, d ≠ 28 → d ≠ 29 → τ' d = τ d) ∧ ∀ q, q < n → τ' 28 q = nI (fst' (fun _ => 0) 0 24 q) ∧ τ' 29 q = -2 := by
  refine loop_p (fun N x (s : jS) => lp_X12_joy_61 F k100 N (nI n) x2 x3 x4 x s) n (fun x s => (∀ d, d ≠ 28 → d ≠ 29 → s d = τ d) ∧ ∀ q, q < x → s 28 q = nI (fst' (fun _ => 0) 0 24 q) ∧ s 29 q = -2) (fun r => ∃ τ', r = k100 (nI n) x2 x3 x4 τ' ∧ (∀ d, d ≠ 28 → d ≠ 29 → τ' d = τ d) ∧ ∀ q, q < n → τ' 28 q = nI (fst' (fun _ => 0) 0 24 q) ∧ τ' 29 q = -2) ?_ ?_ F 0 τ (by omega) (by omega) ⟨fun _ _ _ => rfl, fun q hq => absurd hq (by omega)⟩
  · intro N x s hx ⟨g1, g2⟩
    right
    show ∃ a', _ ∧ lp_X12_joy_61 F k100 (N + 1) (nI n) x2 x3 x4 (nI x) s = lp_X12_joy_61 F k100 N (nI n) x2 x3 x4 (nI (x + 1)) a'
    have gen : ∀ v : Nat, v = fst' (fun _ => 0) 0 24 x → (∀ d, d ≠ 28 → d ≠ 29 → js (js s 28 x (nI v)) 29 x (-2) d = τ d) ∧ ∀ q, q < x + 1 → js (js s 28 x (nI v)) 29 x (-2) 28 q = nI (fst' (fun _ => 0) 0 24 q) ∧ js (js s 28 x (nI v)) 29 x (-2) 29 q = -2 := by
      intro v hv
      refine ⟨fun d h1 h2 => by rw [js_c _ _ _ h2, js_c _ _ _ h1]; exact g1 d h1 h2, fun q hq => ?_⟩
      rw [js_c _ _ _ (show (28 : Nat) ≠ 29 by omega)]
      by_cases e : q = x
      · rw [e, js_at, js_at, hv]
        exact ⟨rfl, rfl⟩
      · rw [js_k _ _ e, js_k _ _ e, js_c _ _ _ (show (29 : Nat) ≠ 28 by omega)]
        exact g2 q (by omega)
    rw [lp_X12_joy_61, if_pos (nI_lt hx (by omega)), jin_nI (show x < 5 by omega) (by omega), nI_clamp (by omega), nI1]
    simp only [ltE, if_true]
    by_cases c : x = 0
    · subst c
      rw [if_pos (show nI 0 = 0 from rfl)]
      exact ⟨_, gen 24 rfl, rfl⟩
    · rw [if_neg (nI_ne0 (by omega) (by omega))]
      refine ⟨_, gen 0 ?_, rfl⟩
      unfold fst'
      rw [if_neg (by omega), if_neg c]
  · intro N s ⟨g1, g2⟩
    show ∃ τ', lp_X12_joy_61 F k100 (N + 1) (nI n) x2 x3 x4 (nI n) s = _ ∧ _
    rw [lp_X12_joy_61, if_neg (nI_nlt (Nat.le_refl n) (by omega))]
    exact ⟨s, rfl, g1, g2⟩
theorem x_seek (F : Nat) (hF : 40 ≤ F) {n much : Nat} (hn1 : 1 ≤ n) (hn : n ≤ 5) (hmu : much ≤ 6120) {σ τ : jS} (h3 : ∀ i, i < 260 → σ 2 i = τ 6 i &&& 255) :
    ∃ σ', mX1_seek F (nI n) (nI much) σ = some σ' ∧ (∀ d, (d < 62 ∨ 67 ≤ d) → σ' d = σ d) ∧ accX n σ' (EN (fun q => bb τ (2 * q)) (fun q => bb τ (2 * q + 1)) n much (n - 1) 0 24 (fun _ => 0) none) := by
  unfold mX1_seek
  rw [show (5 : Int32) = nI 5 from rfl, imin_nI (by omega) (by omega), Nat.min_eq_left hn]
  simp only [ltE]
  refine loop_p (fun N x (s : jS) => lp_X1_seek_17 F N (nI much) x s) n (fun x s => s 62 4 = nI n ∧ s 62 5 = -1 ∧ (∀ d, (d < 62 ∨ 67 ≤ d) → s d = σ d) ∧ ∀ q, q < x → s 63 q = nI (bb τ (2 * q)) ∧ s 64 q = nI (bb τ (2 * q + 1))) (fun r => ∃ σ', r = some σ' ∧ (∀ d, (d < 62 ∨ 67 ≤ d) → σ' d = σ d) ∧ accX n σ' (EN (fun q => bb τ (2 * q)) (fun q => bb τ (2 * q + 1)) n much (n - 1) 0 24 (fun _ => 0) none)) ?_ ?_ F 0 _ (by omega) (by omega) ⟨by rw [js_k _ _ (by omega), js_at], js_at _ _ _ _, fun d hd => by rw [js_c _ _ _ (by omega), js_c _ _ _ (by omega)], fun q hq => absurd hq (by omega)⟩
  · intro N x s hx ⟨g1, g2, g3, g4⟩
    right
    show ∃ a', _ ∧ lp_X1_seek_17 F (N + 1) (nI much) (nI x) s = lp_X1_seek_17 F N (nI much) (nI (x + 1)) a'
    have t1 : ∀ i, i < 260 → s 2 i = τ 6 i &&& 255 := fun i hi => by rw [g3 2 (by omega)]; exact h3 i hi
    have t2 : ∀ i, i < 260 → js s 63 x (nI (bb τ (2 * x))) 2 i = τ 6 i &&& 255 := fun i hi => by rw [js_c _ _ _ (by omega)]; exact t1 i hi
    rw [lp_X1_seek_17, g1, if_pos (nI_lt hx (by omega)), show (2 : Int32) * nI x = nI (2 * x) from pk_mul 2 x, x_byte F t1 (show 2 * x < 260 by omega)]
    simp only [Option.bind_some, ltE, jin_nI (show x < 5 by omega) (show 5 < 2 ^ 31 by omega), if_true, nI_clamp (show x < 2 ^ 31 by omega), nI1]
    rw [x_byte F t2 (show 2 * x + 1 < 260 by omega)]
    simp only [Option.bind_some]
    refine ⟨_, ⟨?_, ?_, fun d hd => ?_, fun q hq => ?_⟩, rfl⟩
    · rw [js_c _ _ _ (by omega), js_c _ _ _ (by omega)]; exact g1
    · rw [js_c _ _ _ (by omega), js_c _ _ _ (by omega)]; exact g2
    · rw [js_c _ _ _ (by omega), js_c _ _ _ (by omega)]; exact g3 d hd
    · rw [js_c _ _ _ (show (63 : Nat) ≠ 64 by omega)]
      by_cases e : q = x
      · rw [e, js_at, js_at]; exact ⟨rfl, rfl⟩
      · rw [js_k _ _ e, js_k _ _ e, js_c _ _ _ (show (64 : Nat) ≠ 63 by omega)]; exact g4 q (by omega)
  · intro N s ⟨g1, g2, g3, g4⟩
    show ∃ σ', lp_X1_seek_17 F (N + 1) (nI much) (nI n) s = some σ' ∧ _
    rw [lp_X1_seek_17, g1, if_neg (nI_nlt (Nat.le_refl n) (by omega))]
    unfold mX1_share
    obtain ⟨σ', b1, b2⟩ := x_share F hF (c := fun q => bb τ (2 * q)) (g := fun q => bb τ (2 * q + 1)) (fun q => (bb_n τ _).1) (fun q => (bb_n τ _).1) hn hmu s (n - 1) 0 24 8 (fun _ => 0) none s (by omega) (by omega) (by omega) (fun q hq => absurd hq (by omega)) (by simp [wsum]) ⟨g1, g4, fun q hq => absurd hq (by omega), g2, fun _ _ _ _ => rfl⟩
    have b1' : rX1_share F 8 (0 : Int32) (24 : Int32) (nI much) (0 : Int32) s = some σ' := b1
    rw [b1']
    exact ⟨σ', rfl, fun d hd => by rw [b2.2.2.2.2 d (by omega) (by omega) (by omega)]; exact g3 d hd, b2.2.2.2.1⟩
theorem s_joy (F : Nat) (hF : 400000 ≤ F) : S_joy F Inv := by
  intro σ τ x1 x2 x3 hI
  obtain ⟨⟨⟨m, hm, t1, t2⟩, t3⟩, hW, hR, hK, hO, hLw⟩ := id hI
  have hX11 : mX11_joy F x1 x2 x3 σ = jn_X11_joy_22 F x1 x2 x3 (if x3 = 100 then 1 else inr x3 0 (x1 - 1)) σ := by
    unfold mX11_joy jn_X11_joy_17
    rw [isW]
    simp only [Option.bind_some]
    by_cases c : x3 = 100
    · rw [if_pos c, if_pos c]
    · rw [if_neg c, if_neg c]
      rcases inr_c x3 0 (x1 - 1) with e | ⟨e, _⟩
      · rw [e, if_pos rfl]
      · rw [e, if_neg (show ¬ (1 : Int32) = 0 by decide)]
  rw [hX11]
  unfold jn_X11_joy_22 mX12_joy
  rw [isW, isI, isW, isI, isI]
  simp only [Option.bind_some]
  rcases inr_c x1 1 5 with e | ⟨e, h1, h2⟩
  · rw [e, if_pos rfl, if_pos rfl]
    exact ⟨-1, σ, τ, rfl, rfl, hI⟩
  obtain ⟨n, hn1, hn, rfl⟩ := inr_nat (a := 1) (b := 5) (by omega) (by omega) h1 h2
  rw [e, if_neg (show ¬ (1 : Int32) = 0 by decide), if_neg (show ¬ (1 : Int32) = 0 by decide)]
  rcases inr_c x2 0 6120 with e2 | ⟨e2, h3, h4⟩
  · rw [e2, if_pos rfl, if_pos rfl]
    exact ⟨-1, σ, τ, rfl, rfl, hI⟩
  obtain ⟨much, -, hmu, rfl⟩ := inr_nat (a := 0) (b := 6120) (by omega) (by omega) h3 h4
  rw [e2, if_neg (show ¬ (1 : Int32) = 0 by decide), if_neg (show ¬ (1 : Int32) = 0 by decide)]
  have en : nI n - (1 : Int32) = nI (n - 1) := by rw [show (1 : Int32) = nI 1 from rfl, pk_sub (a := n) (b := 1) (by omega)]
  have hask : (x3 = 100 ∨ ∃ p, p < n ∧ x3 = nI p) ∨ (x3 ≠ 100 ∧ inr x3 0 (nI n - 1) = 0) := by
    by_cases c : x3 = 100
    · exact Or.inl (Or.inl c)
    · rcases inr_c x3 0 (nI n - 1) with e3 | ⟨e3, h5, h6⟩
      · exact Or.inr ⟨c, e3⟩
      · rw [en] at h6
        obtain ⟨p, _, hp, e4⟩ := inr_nat (a := 0) (b := n - 1) (by omega) (by omega) h5 h6
        exact Or.inl (Or.inr ⟨p, by omega, e4⟩)
  rcases hask with hask | ⟨c, e3⟩
  rotate_left
  · rw [if_neg c, e3, if_pos rfl, if_pos rfl, if_neg c]
    exact ⟨-1, σ, τ, rfl, rfl, hI⟩
  have ea : (if x3 = 100 then (1 : Int32) else inr x3 0 (nI n - 1)) = 1 := by
    by_cases c : x3 = 100
    · rw [if_pos c]
    · rw [if_neg c]
      obtain ⟨p, hp, rfl⟩ := hask.resolve_left c
      unfold inr
      rw [if_neg (nI_pos (by omega)), en, if_neg (nI_nlt (by omega) (by omega))]
  have eb : (if inr x3 0 (nI n - 1) = 0 then (if x3 = (100 : Int32) then jn_X12_joy_37 F (nI n) (nI much) x3 τ else some ((-1 : Int32), τ)) else jn_X12_joy_37 F (nI n) (nI much) x3 τ) = jn_X12_joy_37 F (nI n) (nI much) x3 τ := by
    by_cases c : x3 = 100
    · rw [if_pos c, ite_self]
    · obtain ⟨p, hp, rfl⟩ := hask.resolve_left c
      rw [if_neg (show ¬ inr (nI p) 0 (nI n - 1) = 0 by
        unfold inr
        rw [if_neg (nI_pos (by omega)), en, if_neg (nI_nlt (by omega) (by omega))]
        decide)]
  rw [ea, eb, if_neg (show ¬ (1 : Int32) = 0 by decide)]
  unfold jn_X12_joy_37
  rw [show (2 : Int32) * nI n = nI (2 * n) from pk_mul 2 n, x_has t1 hm (show 2 * n ≤ 260 by omega), t2]
  simp only [Option.bind_some]
  by_cases c : 2 * n ≤ m
  rotate_left
  · rw [if_neg c, if_pos rfl, if_pos (nI_lt (by omega) (by omega))]
    exact ⟨-1, σ, τ, rfl, rfl, hI⟩
  rw [if_pos c, if_neg (show ¬ (1 : Int32) = 0 by decide), if_neg (nI_nlt c (by omega)), ltE]
  obtain ⟨σ1, a1, a2, a3, -⟩ := x10_open F σ (show 2 * n ≤ 260 by omega)
  rw [a1]
  simp only [Option.bind_some]
  obtain ⟨σ2, b1, b2, b3⟩ := x_seek F (by omega) hn1 hn hmu (σ := σ1) (τ := τ) (fun i hi => by rw [a2 2 (by omega)]; exact t3 i hi)
  rw [b1]
  simp only [Option.bind_some]
  obtain ⟨τ2, c1, c2, c3⟩ := m_row0 F (by omega) hn (js τ 0 6 0) (fun x1_13 x2_13 x3_13 x4_13 σ13 => (lp_X12_joy_103 F (fun x3_24 x4_24 σ24 => (if x3_24 = (100 : Int32) then some (x4_24, σ24) else (if jin x3_24 5 = true then some ((σ24 29 x3_24.toNatClampNeg), σ24) else none))) F x1_13 x2_13 x3_13 x4_13 (1 : Int32) σ13)) (nI much) x3 (-2)
  rw [c1]
  show ∃ r σ2' τ2', _ = _ ∧ lp_X12_joy_103 F jyK F (nI n) (nI much) x3 (-2) 1 τ2 = some (r, τ2') ∧ Inv σ2' τ2'
  have hJ0 : jyM n (fst' (fun _ => 0) 0 24) none (-2) (js τ 0 6 0) τ2 := ⟨fun q hq => (c3 q hq).1, ⟨rfl, fun q hq => (c3 q hq).2⟩, c2⟩
  obtain ⟨C, x', τ3, hC, d1, d2⟩ := m_rows F (by omega) hn hmu (x3 := x3) (n - 1) 0 24 (fun _ => 0) none (-2) τ2 (by omega) (by omega) (fun q hq => absurd hq (by omega)) hJ0
  have hC4 : (25 : Nat) ^ (n - 1) ≤ 25 ^ 4 := Nat.pow_le_pow_right (by omega) (by omega)
  obtain ⟨N, hN⟩ : ∃ N, F = (N + 1) + C := ⟨F - C - 1, by omega⟩
  have d1N := d1 (N + 1)
  rw [← hN] at d1N
  have eR : lp_X12_joy_103 F jyK F (nI n) (nI much) x3 (-2) 1 τ2 = jyK x3 x' τ3 := by
    rw [d1N]
    unfold jyV
    rw [m_next0 F (by omega) hn1 hn d2.1 (fun q hq => by
      unfold lst'
      rw [if_neg (by omega), if_neg (by omega)])]
    show lp_X12_joy_103 F jyK (N + 1) (nI n) (nI much) x3 x' 0 τ3 = _
    rw [lp_X12_joy_103, if_pos rfl]
  rw [eR]
  have ebb : (fun q => bb (js τ 0 6 0) (2 * q)) = fun q => bb τ (2 * q) := funext fun q => bb6 (by rw [js_c _ _ _ (by omega)]) _
  have ebb1 : (fun q => bb (js τ 0 6 0) (2 * q + 1)) = fun q => bb τ (2 * q + 1) := funext fun q => bb6 (by rw [js_c _ _ _ (by omega)]) _
  rw [ebb, ebb1] at d2
  generalize EN (fun q => bb τ (2 * q)) (fun q => bb τ (2 * q + 1)) n much (n - 1) 0 24 (fun _ => 0) none = acc at b3 d2
  have oX : ∀ d, d ≠ 1 → (d < 62 ∨ 67 ≤ d) → σ2 d = σ d := fun d h1 h2 => by rw [b2 d h2, a2 d h1]
  have oM : ∀ d, d ≠ 0 → d ≠ 28 → d ≠ 29 → τ3 d = τ d := fun d h0 h1 h2 => by rw [d2.2.2 d h1 h2, js_c _ _ _ h0]
  have oS : ∀ k, k ≠ 6 → τ3 0 k = τ 0 k := fun k hk => by rw [d2.2.2 0 (by omega) (by omega), js_k _ _ hk]
  have hI2 : Inv σ2 τ3 := Inv_empty hI ⟨fun k _ => by rw [oX 0 (by omega) (by omega)], oX 2 (by omega) (by omega), fun c _ _ => oX c (by omega) (by omega), oX 34 (by omega) (by omega), oX 35 (by omega) (by omega), fun c _ _ => oX c (by omega) (by omega)⟩ (by rw [b2 1 (by omega)]; exact a3) ⟨oM 1 (by omega) (by omega) (by omega), oM 3 (by omega) (by omega) (by omega), oM 4 (by omega) (by omega) (by omega), oM 5 (by omega) (by omega) (by omega), oM 6 (by omega) (by omega) (by omega), fun c _ _ => oM c (by omega) (by omega) (by omega), oS 15 (by omega), oS 50 (by omega)⟩ (by rw [d2.2.2 0 (by omega) (by omega), js_at])
  have hM := d2.2.1
  unfold jyK mX1_hoursOf
  cases acc with
  | none =>
    have q1 : σ2 62 5 = -1 := b3
    obtain ⟨q2, q3⟩ := (hM : x' = -2 ∧ ∀ q, q < n → τ3 29 q = -2)
    rw [q1, if_pos (show (-1 : Int32) < 0 by decide)]
    refine ⟨-2, σ2, τ3, rfl, ?_, hI2⟩
    by_cases c : x3 = 100
    · rw [if_pos c, q2]
    · obtain ⟨p, hp, rfl⟩ := hask.resolve_left c
      rw [if_neg c, jin_nI (show p < 5 by omega) (by omega), if_pos rfl, nI_clamp (by omega), q3 p hp]
  | some vb =>
    obtain ⟨v, b⟩ := vb
    obtain ⟨q1, q2, q3⟩ := (b3 : v ≤ 30600 ∧ σ2 62 5 = nI v ∧ ∀ q, q < n → σ2 66 q = nI (b q))
    obtain ⟨-, q4, q5⟩ := (hM : v ≤ 30600 ∧ x' = nI v ∧ ∀ q, q < n → τ3 29 q = nI (b q))
    rw [q2, if_neg (nI_pos (by omega))]
    by_cases c : x3 = 100
    · rw [if_pos c, if_pos c, q4]
      exact ⟨nI v, σ2, τ3, rfl, rfl, hI2⟩
    · obtain ⟨p, hp, rfl⟩ := hask.resolve_left c
      rw [if_neg c, if_neg c, jin_nI (show p < 5 by omega) (by omega), if_pos rfl, nI_clamp (by omega), q5 p hp, if_neg (nI_pos (by omega)), if_pos (show nI p < (5 : Int32) from nI_lt (b := 5) (by omega) (by omega)), if_pos rfl, q3 p hp]
      exact ⟨nI (b p), σ2, τ3, rfl, rfl, hI2⟩
