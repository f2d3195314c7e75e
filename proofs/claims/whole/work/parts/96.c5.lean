/-- what the loans from one on give -/
def Cl (t : Nat → Int32) (m s d : Nat) (w : Int32) (k l : Nat) (r : rN) : Prop := (t (88 + l) = nI s ∧ r = (k, w)) ∨ ∃ y d', t (88 + l) = nI y ∧ d = d' + 1 ∧ s < y ∧ y < 16 ∧ bt w y = false ∧ Rg (Eg t m) s d' y (w ||| b1 y) (k + 1) r
def Rl (t : Nat → Int32) (m s d x : Nat) (w : Int32) (k l1 : Nat) (r : rN) : Prop := ∃ l, l1 ≤ l ∧ l < m ∧ fits' t x l ∧ Cl t m s d w k l r
theorem Rl_0 {t : Nat → Int32} {m s d x : Nat} {w : Int32} {k : Nat} {r : rN} : Rl t m s d x w k 0 r ↔ Rg (Eg t m) s d x w k r := by
  rw [Rg_iff]
  constructor
  · rintro ⟨l, _, hl, hf, h | ⟨y, d', h1, h2, h3, h4, h5, h6⟩⟩
    · exact Or.inl ⟨⟨l, hl, hf.1, hf.2, h.1⟩, h.2⟩
    · exact Or.inr ⟨y, d', h2, h3, h4, ⟨l, hl, hf.1, hf.2, h1⟩, h5, h6⟩
  · rintro (⟨⟨l, hl, h1, h2, h3⟩, e⟩ | ⟨y, d', h2, h3, h4, ⟨l, hl, a1, a2, a3⟩, h5, h6⟩)
    · exact ⟨l, by omega, hl, ⟨h1, h2⟩, Or.inl ⟨h3, e⟩⟩
    · exact ⟨l, by omega, hl, ⟨a1, a2⟩, Or.inr ⟨y, d', a3, h2, h3, h4, h5, h6⟩⟩
def wB : Nat → Nat
  | 0 => 0
  | d + 1 => 24 * (1 + wB d) + 1
def frW (k : Nat) (τ τ' : jS) : Prop := (∀ d, d ≠ 0 → d ≠ 25 → d ≠ 26 → τ' d = τ d) ∧ (∀ j, j ≠ 42 → j ≠ 43 → τ' 0 j = τ 0 j) ∧ ∀ j, j < k → τ' 25 j = τ 25 j ∧ τ' 26 j = τ 26 j
theorem frW_rf (k : Nat) (τ : jS) : frW k τ τ := ⟨fun _ _ _ _ => rfl, fun _ _ _ => rfl, fun _ _ => ⟨rfl, rfl⟩⟩
theorem frW_tr {k : Nat} {a b c : jS} (h : frW k a b) (g : frW k b c) : frW k a c := ⟨fun d h1 h2 h3 => (g.1 d h1 h2 h3).trans (h.1 d h1 h2 h3), fun j h1 h2 => (g.2.1 j h1 h2).trans (h.2.1 j h1 h2), fun j hj => ⟨(g.2.2 j hj).1.trans (h.2.2 j hj).1, (g.2.2 j hj).2.trans (h.2.2 j hj).2⟩⟩
theorem frW_le {k k' : Nat} {a b : jS} (h : frW k a b) (hk : k' ≤ k) : frW k' a b := ⟨h.1, h.2.1, fun j hj => h.2.2 j (by omega)⟩
def WK (F : Nat) (t : Nat → Int32) (m s d : Nat) : Prop := ∀ (k : Nat) (P : Nat → Nat), k + d = 16 → 1 ≤ k → cB (bt (pw P k)) 16 = k →
      ∀ (jj l1 : Nat) (a : Option rN) (τ : jS), m - l1 ≤ jj → l1 ≤ m → pth k P τ → τ 26 (k - 1) + 1 = nI l1 → aM τ a → τ 1 = t →
        ∃ C τ' a', C ≤ (m - l1) * (1 + wB d) + 1 ∧ (∀ N, lp_X12_goesFrom_16 F (N + C) (nI s) (nI k) τ = lp_X12_goesFrom_16 F N (nI s) (nI (k - 1)) τ') ∧ aM τ' a' ∧ MN a (Rl t m s d (P (k - 1)) (pw P k) k l1) a' ∧ frW (k - 1) τ τ'
theorem m_one (F : Nat) (hF : 30 ≤ F) {t : Nat → Int32} (hW : cityW0 t) {m : Nat} (hm : m ≤ 24) (em : t 208 = nI m) {s : Nat} (hs : s < 16) {d k : Nat} (hsub : ∀ d', d = d' + 1 → WK F t m s d') {P : Nat → Nat} (hk : k + d = 16) (hk1 : 1 ≤ k) (hcb : cB (bt (pw P k)) 16 = k) {a : Option rN} {τ : jS} (hP : pth k P τ) (ha : aM τ a) (ht : τ 1 = t) {l : Nat} (hl : l < m) :
    ∃ C τ' a', C ≤ wB d ∧ (∀ N, jn_X12_goesFrom_83 F (lp_X12_goesFrom_16 F (N + C)) (nI s) (nI k) (nI l) τ = lp_X12_goesFrom_16 F N (nI s) (nI k) τ') ∧ aM τ' a' ∧ MN a (Cl t m s d (pw P k) k l) a' ∧ frW (k - 1) τ τ' ∧ τ' 25 (k - 1) = τ 25 (k - 1) ∧ τ' 26 (k - 1) = nI l := by
  have e1 : nI k - (1 : Int32) = nI (k - 1) := by rw [show (1 : Int32) = nI 1 from rfl, pk_sub (a := k) (b := 1) (by omega)]
  obtain ⟨y, hy, ey⟩ := who_n hW (i := 88 + l) (by omega) (by omega)
  have hle := lenA_le ha.1
  generalize hθ : js τ 26 (k - 1) (nI l) = θ
  have θc : ∀ d, d ≠ 26 → θ d = τ d := fun d hd => by rw [← hθ, js_c _ _ _ hd]
  have θ26 : θ 26 (k - 1) = nI l := by rw [← hθ, js_at]
  have θ26n : ∀ j, j ≠ k - 1 → θ 26 j = τ 26 j := fun j hj => by rw [← hθ, js_k _ _ hj]
  have fθ : frW (k - 1) τ θ := ⟨fun d h1 h2 h3 => θc d h3, fun j _ _ => by rw [θc 0 (by omega)], fun j hj => ⟨by rw [θc 25 (by omega)], θ26n j (by omega)⟩⟩
  have aθ : aM θ a := by unfold aM at ha ⊢; rw [θc 0 (by omega)]; exact ha
  have pθ : pth k P θ := ⟨hP.1, fun j hj => by rw [θc 25 (by omega)]; exact hP.2 j hj⟩
  have e83 : ∀ K : Int32 → Int32 → jS → Option jS, jn_X12_goesFrom_83 F K (nI s) (nI k) (nI l) τ = if nI y = nI s then (Option.bind (mX12_countsRing F (nI k) θ) fun q20 => jn_X12_goesFrom_133 F K (nI s) (nI k) (nI y) q20) else jn_X12_goesFrom_133 F K (nI s) (nI k) (nI y) θ := by
    intro K
    unfold jn_X12_goesFrom_83
    rw [e1, jin_nI (show k - 1 < 16 by omega) (by omega), if_pos rfl, nI_clamp (by omega), hθ, ltE, θc 1 (by omega), ht, em, if_pos (nI_lt hl (by omega))]
    simp only [ltE, show (88 : Int32) + nI l = nI (88 + l) from nI_add 88 l, jin_nI (show 88 + l < 212 by omega) (show 212 < 2 ^ 31 by omega), if_true, nI_clamp (show 88 + l < 2 ^ 31 by omega), ey]
  have goOn : ∀ (ρ : jS) (b : Option rN), aM ρ b → (¬ s < y ∨ lenA b ≤ k ∨ bt (pw P k) y = true) → pth k P ρ → ∀ K : Int32 → Int32 → jS → Option jS, jn_X12_goesFrom_133 F K (nI s) (nI k) (nI y) ρ = K (nI s) (nI k) ρ := by
    intro ρ b hb hc hp K
    have hlb := lenA_le hb.1
    unfold jn_X12_goesFrom_133
    rw [aM_len hb]
    by_cases c1 : s < y
    · rw [if_pos (nI_lt c1 (by omega))]
      by_cases c2 : lenA b ≤ k
      · rw [if_neg (nI_nlt c2 (by omega))]
      · rw [if_pos (nI_lt (by omega) (by omega)), m_inRing F hF hp (by omega) (show y < 16 by omega), if_pos (by rcases hc with h | h | h <;> first | exact absurd c1 h | exact absurd h c2 | exact h)]
        simp only [Option.bind_some, if_neg (show ¬ (1 : Int32) = 0 by decide)]
    · rw [if_neg (nI_nlt (by omega) (by omega))]
  by_cases cys : y = s
  · subst cys
    obtain ⟨τ2, b1', b2, b3, b4⟩ := m_counts F hF pθ hk1 (by omega) aθ
    have p2 : pth k P τ2 := ⟨hP.1, fun j hj => by rw [b3 25 (by omega)]; exact pθ.2 j hj⟩
    refine ⟨0, τ2, _, by omega, fun N => ?_, b2, MN_nA (Or.inl ⟨ey, rfl⟩) (fun r' hr => ?_), frW_tr fθ ⟨fun d h1 _ _ => b3 d h1, b4, fun j _ => by rw [b3 25 (by omega), b3 26 (by omega)]; exact ⟨rfl, rfl⟩⟩, by rw [b3 25 (by omega), θc 25 (by omega)], by rw [b3 26 (by omega)]; exact θ26⟩
    · rw [e83, if_pos rfl, b1']
      exact goOn τ2 _ b2 (Or.inl (by omega)) p2 _
    · rcases hr with h | ⟨y', d', h1, _, h2, h3, _⟩
      · exact Or.inl h.2
      · rw [ey] at h1
        have := nI_inj (by omega) (by omega) h1
        omega
  · have ene : ¬ nI y = nI s := fun e => cys (nI_inj (by omega) (by omega) e)
    have noS : ∀ r, Cl t m s d (pw P k) k l r → ∃ d', d = d' + 1 ∧ s < y ∧ bt (pw P k) y = false ∧ Rg (Eg t m) s d' y (pw P k ||| b1 y) (k + 1) r := by
      rintro r (⟨h, _⟩ | ⟨y', d', h1, h2, h3, h4, h5, h6⟩)
      · rw [ey] at h; exact absurd h ene
      · rw [ey] at h1
        have e9 : y = y' := nI_inj (by omega) (by omega) h1
        subst e9
        exact ⟨d', h2, h3, h5, h6⟩
    by_cases cc : ¬ s < y ∨ lenA a ≤ k ∨ bt (pw P k) y = true
    · refine ⟨0, θ, a, by omega, fun N => ?_, aθ, ?_, fθ, θc 25 (by omega) ▸ rfl, θ26⟩
      · rw [e83, if_neg ene]
        exact goOn θ a aθ cc pθ _
      · rcases cc with c | c | c
        · exact MN_none a (fun r hr => by obtain ⟨_, _, h, _⟩ := noS r hr; exact absurd h c)
        · by_cases c16 : lenA a ≤ 16
          · obtain ⟨r0, e0, e2⟩ := lenA_some c16
            exact MN_far e0 (fun r hr => by
              obtain ⟨d', _, _, _, h⟩ := noS r hr
              have := Rg_len d' y _ (k + 1) r h
              omega)
          · omega
        · exact MN_none a (fun r hr => by obtain ⟨_, _, _, h, _⟩ := noS r hr; rw [c] at h; cases h)
    · have c1 : s < y := Decidable.byContradiction (fun h => cc (Or.inl h))
      have c2 : k < lenA a := by
        rcases Nat.lt_or_ge k (lenA a) with h | h
        · exact h
        · exact absurd (Or.inr (Or.inl h)) cc
      have c3 : bt (pw P k) y = false := by
        rcases hb : bt (pw P k) y with _ | _
        · rfl
        · exact absurd (Or.inr (Or.inr hb)) cc
      have hk16 : k < 16 := by
        rcases Nat.lt_or_ge k 16 with h | h
        · exact h
        · have := cB_full 16 (by omega : cB (bt (pw P k)) 16 = 16) y (by omega)
          rw [c3] at this
          cases this
      obtain ⟨d', rfl⟩ : ∃ d', d = d' + 1 := ⟨d - 1, by omega⟩
      have ePw : pw (updN P k y) (k + 1) = pw P k ||| b1 y := by
        rw [pw, updN_s, pw_congr k (fun j hj => updN_n P y (by omega))]
      have hcb2 : cB (bt (pw (updN P k y) (k + 1))) 16 = k + 1 := by
        rw [ePw]
        have h9 := cB_set (f := bt (pw P k)) (g := bt (pw P k ||| b1 y)) (y := y) c3 (fun q => bt_b1 (by omega) q) 16
        rw [h9, hcb, if_pos (by omega)]
      have p3 : pth (k + 1) (updN P k y) (js (js θ 25 k (nI y)) 26 k (-1)) := by
        refine ⟨fun j hj => ?_, fun j hj => ?_⟩
        · by_cases e : j = k
          · rw [e, updN_s]; omega
          · rw [updN_n _ _ e]; exact hP.1 j (by omega)
        · rw [js_c _ _ _ (by omega)]
          by_cases e : j = k
          · rw [e, updN_s, js_at]
          · rw [updN_n _ _ e, js_k _ _ e]; exact pθ.2 j (by omega)
      obtain ⟨C, τ4, a4, hC, g1, g2, g3, g4⟩ := hsub d' rfl (k + 1) (updN P k y) (by omega) (by omega) hcb2 m 0 a (js (js θ 25 k (nI y)) 26 k (-1)) (by omega) (by omega) p3 (by rw [show k + 1 - 1 = k by omega, js_at]; rfl) (by
        unfold aM at aθ ⊢
        rw [js_c _ _ _ (by omega), js_c _ _ _ (by omega)]
        exact aθ) (by rw [js_c _ _ _ (by omega), js_c _ _ _ (by omega), θc 1 (by omega)]; exact ht)
      have hCB : C ≤ wB (d' + 1) := by
        have h24 : (m - 0) * (1 + wB d') ≤ 24 * (1 + wB d') := Nat.mul_le_mul_right _ (by omega)
        show C ≤ 24 * (1 + wB d') + 1
        omega
      rw [show k + 1 - 1 = k by omega] at g1 g3 g4
      rw [updN_s, ePw] at g3
      refine ⟨C, τ4, a4, hCB, fun N => ?_, g2, MN_congr g3 (fun r => ?_), ?_, ?_, ?_⟩
      · rw [e83, if_neg ene, ← g1 N]
        unfold jn_X12_goesFrom_133
        rw [if_pos (nI_lt c1 (by omega)), aM_len aθ, if_pos (nI_lt c2 (by omega)), m_inRing F hF pθ (by omega) (show y < 16 by omega), if_neg (by rw [c3]; decide)]
        simp only [Option.bind_some, if_true, jin_nI (show k < 16 by omega) (show 16 < 2 ^ 31 by omega), ltE, nI_clamp (show k < 2 ^ 31 by omega), nI1]
      · rw [Rl_0]
        constructor
        · intro h
          obtain ⟨d2, e2, _, _, h6⟩ := noS r h
          have e3 : d2 = d' := by omega
          subst e3
          exact h6
        · intro h
          exact Or.inr ⟨y, d', ey, rfl, c1, by omega, c3, h⟩
      · refine frW_tr fθ (frW_tr ?_ (frW_le g4 (by omega)))
        refine ⟨fun d h1 h2 h3 => by rw [js_c _ _ _ h3, js_c _ _ _ h2], fun j _ _ => by rw [js_c _ _ _ (by omega), js_c _ _ _ (by omega)], fun j hj => ⟨by rw [js_c _ _ _ (by omega), js_k _ _ (by omega)], by rw [js_k _ _ (by omega), js_c _ _ _ (by omega)]⟩⟩
      · rw [(g4.2.2 (k - 1) (by omega)).1, js_c _ _ _ (by omega), js_k _ _ (by omega), θc 25 (by omega)]
      · rw [(g4.2.2 (k - 1) (by omega)).2, js_k _ _ (by omega), js_c _ _ _ (by omega)]
        exact θ26
theorem wk_of (F : Nat) (hF : 30 ≤ F) {t : Nat → Int32} (hW : cityW0 t) {m : Nat} (hm : m ≤ 24) (em : t 208 = nI m) {s : Nat} (hs : s < 16) {d : Nat} (hsub : ∀ d', d = d' + 1 → WK F t m s d') : WK F t m s d := by
  intro k P hk hk1 hcb
  have base : ∀ (l1 : Nat) (a : Option rN) (τ : jS), l1 ≤ m → pth k P τ → τ 26 (k - 1) + 1 = nI l1 → aM τ a → τ 1 = t →
      (∀ (l : Nat), l1 ≤ l → l < m → ∀ (b : Option rN) (ρ : jS), pth k P ρ → ρ 26 (k - 1) + 1 = nI (l + 1) → aM ρ b → ρ 1 = t → ∃ C τ' a', C ≤ (m - (l + 1)) * (1 + wB d) + 1 ∧ (∀ N, lp_X12_goesFrom_16 F (N + C) (nI s) (nI k) ρ = lp_X12_goesFrom_16 F N (nI s) (nI (k - 1)) τ') ∧ aM τ' a' ∧ MN b (Rl t m s d (P (k - 1)) (pw P k) k (l + 1)) a' ∧ frW (k - 1) ρ τ') →
      ∃ C τ' a', C ≤ (m - l1) * (1 + wB d) + 1 ∧ (∀ N, lp_X12_goesFrom_16 F (N + C) (nI s) (nI k) τ = lp_X12_goesFrom_16 F N (nI s) (nI (k - 1)) τ') ∧ aM τ' a' ∧ MN a (Rl t m s d (P (k - 1)) (pw P k) k l1) a' ∧ frW (k - 1) τ τ' := by
    intro l1 a τ hl1 hP h26 ha ht rest
    have e1 : nI k - (1 : Int32) = nI (k - 1) := by rw [show (1 : Int32) = nI 1 from rfl, pk_sub (a := k) (b := 1) (by omega)]
    obtain ⟨l, f1, f2, f3, f4, f5⟩ := m_find F hm em ht (s := s) hk1 (by omega) (hP.2 (k - 1) (by omega)) 24 F l1 (by omega) (by omega) hl1
    have step : ∀ N, lp_X12_goesFrom_16 F (N + 1) (nI s) (nI k) τ = jn_X12_goesFrom_83 F (lp_X12_goesFrom_16 F N) (nI s) (nI k) (nI l) τ := by
      intro N
      rw [lp_X12_goesFrom_16, if_pos (show (0 : Int32) < nI k from nI_lt (a := 0) (by omega) (by omega)), e1, ltE, jin_nI (show k - 1 < 16 by omega) (by omega), if_pos rfl, nI_clamp (by omega), ltE, h26, f5]
    by_cases c : l < m
    · obtain ⟨C1, τ1, a1, q1, q2, q3, q4, q5, q6, q7⟩ := m_one F hF hW hm em hs hsub hk hk1 hcb hP ha ht c
      have hP1 : pth k P τ1 := ⟨hP.1, fun j hj => by
        by_cases e : j = k - 1
        · rw [e, q6]; exact hP.2 _ (by omega)
        · rw [(q5.2.2 j (by omega)).1]; exact hP.2 j hj⟩
      obtain ⟨C2, τ2, a2, g1, g2, g3, g4, g5⟩ := rest l f1 c a1 τ1 hP1 (by rw [q7, nI1]) q3 (by rw [q5.1 1 (by omega) (by omega) (by omega)]; exact ht)
      refine ⟨C2 + C1 + 1, τ2, a2, ?_, fun N => ?_, g3, MN_tr q4 g4 (fun r => ?_), frW_tr q5 g5⟩
      · have hx : (m - (l + 1) + 1) * (1 + wB d) ≤ (m - l1) * (1 + wB d) := Nat.mul_le_mul_right _ (by omega)
        rw [Nat.add_mul] at hx
        omega
      · rw [← Nat.add_assoc, step, ← Nat.add_assoc, q2, g2]
      · constructor
        · rintro ⟨l', h1, h2, h3, h4⟩
          by_cases e : l' = l
          · rw [e] at h4; exact Or.inl h4
          · rcases Nat.lt_or_ge l' l with h | h
            · exact absurd h3 (f4 l' h1 h)
            · exact Or.inr ⟨l', by omega, h2, h3, h4⟩
        · rintro (h | ⟨l', h1, h2, h3, h4⟩)
          · exact ⟨l, f1, c, f3 c, h⟩
          · exact ⟨l', by omega, h2, h3, h4⟩
    · have elm : l = m := by omega
      subst elm
      refine ⟨1, js τ 26 (k - 1) (nI l), a, by omega, fun N => ?_, ?_, MN_none a (fun r ⟨l', h1, h2, h3, _⟩ => absurd h3 (f4 l' h1 h2)), ?_⟩
      · rw [step]
        unfold jn_X12_goesFrom_83
        rw [e1, jin_nI (show k - 1 < 16 by omega) (by omega), if_pos rfl, nI_clamp (by omega), ltE, js_c _ _ _ (show (1 : Nat) ≠ 26 by omega), ht, em, if_neg (nI_nlt (Nat.le_refl l) (by omega)), ltE]
      · unfold aM at ha ⊢
        rw [js_c _ _ _ (by omega)]
        exact ha
      · exact ⟨fun d _ _ h => by rw [js_c _ _ _ h], fun j _ _ => by rw [js_c _ _ _ (by omega)], fun j hj => ⟨by rw [js_c _ _ _ (by omega)], by rw [js_k _ _ (by omega)]⟩⟩
  intro jj
  induction jj with
  | zero =>
    intro l1 a τ h1 h2 h3 h4 h5 h6
    exact base l1 a τ h2 h3 h4 h5 h6 (fun l a1 a2 => by omega)
  | succ jj ih =>
    intro l1 a τ h1 h2 h3 h4 h5 h6
    exact base l1 a τ h2 h3 h4 h5 h6 (fun l a1 a2 b ρ k1 k2 k3 k4 => ih (l + 1) b ρ (by omega) (by omega) k1 k2 k3 k4)
theorem wk_all (F : Nat) (hF : 30 ≤ F) {t : Nat → Int32} (hW : cityW0 t) {m : Nat} (hm : m ≤ 24) (em : t 208 = nI m) {s : Nat} (hs : s < 16) : ∀ d, WK F t m s d
  | 0 => wk_of F hF hW hm em hs (fun d' e => by omega)
  | d + 1 => wk_of F hF hW hm em hs (fun d' e => by
    have e2 : d' = d := by omega
    rw [e2]
    exact wk_all F hF hW hm em hs d)
theorem m_goes (F : Nat) (hF : 10 ^ 30 ≤ F) {t : Nat → Int32} (hW : cityW0 t) {m : Nat} (hm : m ≤ 24) (em : t 208 = nI m) {s : Nat} (hs : s < 16) {a : Option rN} {τ : jS} (ha : aM τ a) (ht : τ 1 = t) :
    ∃ τ' a', mX12_goesFrom F (nI s) τ = some τ' ∧ aM τ' a' ∧ MN a (Rg (Eg t m) s 15 s (b1 s) 1) a' ∧ frW 0 τ τ' := by
  unfold mX12_goesFrom
  simp only [ltE]
  have ePw : pw (fun _ => s) 1 = b1 s := by
    show (0 : Int32) ||| b1 s = b1 s
    apply b_ext
    intro i _
    rw [b_or, b_0, Bool.false_or]
  obtain ⟨C, τ2, a2, q1, q2, q3, q4, q5⟩ := wk_all F (by omega) hW hm em hs 15 1 (fun _ => s) (by omega) (by omega) (by rw [ePw]; exact cB_one hs) m 0 a (js (js τ 25 0 (nI s)) 26 0 (-1)) (by omega) (by omega) ⟨fun _ _ => hs, fun j hj => by
    rw [show j = 0 by omega, js_c _ _ _ (by omega), js_at]⟩ (by rw [show (1 : Nat) - 1 = 0 from rfl, js_at]; rfl) (by
    unfold aM at ha ⊢
    rw [js_c _ _ _ (by omega), js_c _ _ _ (by omega)]
    exact ha) (by rw [js_c _ _ _ (by omega), js_c _ _ _ (by omega)]; exact ht)
  have hC : C ≤ wB 16 := by
    have h24 : (m - 0) * (1 + wB 15) ≤ 24 * (1 + wB 15) := Nat.mul_le_mul_right _ (by omega)
    show C ≤ 24 * (1 + wB 15) + 1
    omega
  have hw16 : wB 16 ≤ 10 ^ 29 := by decide
  obtain ⟨N, hN⟩ : ∃ N, F = (N + 1) + C := ⟨F - C - 1, by omega⟩
  have q2N := q2 (N + 1)
  rw [← hN] at q2N
  have q2' : lp_X12_goesFrom_16 F F (nI s) (1 : Int32) (js (js τ 25 0 (nI s)) 26 0 (-1)) = lp_X12_goesFrom_16 F (N + 1) (nI s) (nI 0) τ2 := q2N
  rw [q2', lp_X12_goesFrom_16, if_neg (show ¬ (0 : Int32) < nI 0 by decide)]
  rw [ePw] at q4
  refine ⟨τ2, a2, rfl, q3, MN_congr q4 (fun r => Rl_0.symm), ?_⟩
  exact ⟨fun d h1 h2 h3 => by rw [q5.1 d h1 h2 h3, js_c _ _ _ h3, js_c _ _ _ h2], fun j h1 h2 => by rw [q5.2.1 j h1 h2, js_c _ _ _ (by omega), js_c _ _ _ (by omega)], fun j hj => absurd hj (by omega)⟩
theorem s_rings (F : Nat) (hF : 10 ^ 30 ≤ F) : S_rings F Inv := by
  intro σ τ x hI
  obtain ⟨⟨⟨n, hn, t1, t2⟩, t3⟩, hW, hR, hK, hO, hLw⟩ := id hI
  unfold mX11_rings mX12_rings
  rw [isW, isI]
  rcases inr_c x 0 1 with e | ⟨e, h1, h2⟩
  · simp only [e, Option.bind_some, if_true]
    exact ⟨-1, σ, τ, rfl, rfl, hI⟩
  simp only [e, Option.bind_some, if_neg (show ¬ (1 : Int32) = 0 by decide), ltE]
  obtain ⟨m, hm, em⟩ := many_n hW.1
  have hm24 : m ≤ 24 := by omega
  obtain ⟨σ1, a, b1', b2, b3, b4⟩ := x_search F (by omega) hW.1 hR hm24 em
  rw [b1']
  simp only [Option.bind_some]
  have key : ∃ τ1 a', lp_X12_rings_26 F (fun x1_5 σ5 => (if (16 : Int32) < (σ5 0 42) then some ((-2 : Int32), σ5) else (if x1_5 = 0 then some ((σ5 0 42), σ5) else some ((σ5 0 43), σ5)))) F x 0 (js (js τ 0 42 17) 0 43 65536) = (if (16 : Int32) < (τ1 0 42) then some ((-2 : Int32), τ1) else (if x = 0 then some ((τ1 0 42), τ1) else some ((τ1 0 43), τ1))) ∧ aM τ1 a' ∧ MN none (allR (Eg (τ 1) m) 16) a' ∧ frW 0 τ τ1 := by
    refine loop_p (fun N y (ρ : jS) => lp_X12_rings_26 F (fun x1_5 σ5 => (if (16 : Int32) < (σ5 0 42) then some ((-2 : Int32), σ5) else (if x1_5 = 0 then some ((σ5 0 42), σ5) else some ((σ5 0 43), σ5)))) N x y ρ) 16 (fun s ρ => ∃ a, aM ρ a ∧ MN none (allR (Eg (τ 1) m) s) a ∧ frW 0 τ ρ) (fun r => ∃ τ1 a', r = (if (16 : Int32) < (τ1 0 42) then some ((-2 : Int32), τ1) else (if x = 0 then some ((τ1 0 42), τ1) else some ((τ1 0 43), τ1))) ∧ aM τ1 a' ∧ MN none (allR (Eg (τ 1) m) 16) a' ∧ frW 0 τ τ1) ?_ ?_ F 0 _ (by omega) (by omega) ⟨none, ⟨fun r e => (by cases e), fun _ => ⟨by rw [js_k _ _ (by omega), js_at], js_at _ _ _ _⟩, fun r e => (by cases e)⟩, MN_none none (fun r ⟨s, hs, _⟩ => by omega), fun d h1 _ _ => by rw [js_c _ _ _ h1, js_c _ _ _ h1], fun j h1 h2 => by rw [js_k _ _ h2, js_k _ _ h1], fun j hj => absurd hj (by omega)⟩
    · intro N s ρ hs ⟨a, g1, g2, g3⟩
      right
      show ∃ a', _ ∧ lp_X12_rings_26 F _ (N + 1) x (nI s) ρ = lp_X12_rings_26 F _ N x (nI (s + 1)) a'
      obtain ⟨ρ', a', d1, d2, d3, d4⟩ := m_goes F hF hW.1 hm24 em hs g1 (by rw [g3.1 1 (by omega) (by omega) (by omega)])
      rw [lp_X12_rings_26, if_pos (lt16 hs), d1, nI1]
      refine ⟨ρ', ⟨a', d2, MN_tr g2 d3 (fun r => ?_), frW_tr g3 d4⟩, rfl⟩
      constructor
      · rintro ⟨s', h1, h2⟩
        by_cases e : s' = s
        · rw [e] at h2; exact Or.inr h2
        · exact Or.inl ⟨s', by omega, h2⟩
      · rintro (⟨s', h1, h2⟩ | h)
        · exact ⟨s', by omega, h2⟩
        · exact ⟨s, by omega, h⟩
    · intro N ρ ⟨a, g1, g2, g3⟩
      show ∃ τ1 a', lp_X12_rings_26 F _ (N + 1) x (nI 16) ρ = _ ∧ _
      rw [lp_X12_rings_26, if_neg (show ¬ nI 16 < (16 : Int32) by decide)]
      exact ⟨ρ, a, rfl, g1, g2, g3⟩
  obtain ⟨τ1, a', c1, c2, c3, c4⟩ := key
  have hc1 : lp_X12_rings_26 F (fun x1_5 σ5 => (if (16 : Int32) < (σ5 0 42) then some ((-2 : Int32), σ5) else (if x1_5 = 0 then some ((σ5 0 42), σ5) else some ((σ5 0 43), σ5)))) F x (0 : Int32) (js (js τ 0 42 (17 : Int32)) 0 43 (65536 : Int32)) = _ := c1
  rw [hc1]
  have eaa : a = a' := MN_un b3 c3
  subst eaa
  have hI2 : Inv σ1 τ1 := Inv_keep hI ⟨fun k _ => by rw [b4 0 (by omega) (by omega)], b4 2 (by omega) (by omega), fun c _ _ => b4 c (by omega) (by omega), b4 34 (by omega) (by omega), b4 35 (by omega) (by omega), fun c _ _ => b4 c (by omega) (by omega)⟩ (by rw [b4 1 (by omega) (by omega)]) ⟨c4.1 1 (by omega) (by omega) (by omega), c4.1 3 (by omega) (by omega) (by omega), c4.1 4 (by omega) (by omega) (by omega), c4.1 5 (by omega) (by omega) (by omega), c4.1 6 (by omega) (by omega) (by omega), fun c _ _ => c4.1 c (by omega) (by omega) (by omega), c4.2.1 15 (by omega) (by omega), c4.2.1 50 (by omega) (by omega)⟩ (c4.2.1 6 (by omega) (by omega))
  rw [aM_len c2, aX_len b2]
  cases a with
  | none =>
    rw [(b2.2.1 rfl).2, if_pos rfl, if_pos (show (16 : Int32) < nI (lenA none) by decide)]
    exact ⟨-2, σ1, τ1, rfl, rfl, hI2⟩
  | some r =>
    have hr := b2.1 r rfl
    have e0 : lenA (some r) = r.1 := rfl
    rw [e0, (b2.2.2 r rfl).2, (c2.2.2 r rfl).2, if_neg hr.2.2, if_neg (show ¬ (16 : Int32) < nI r.1 from nI_nlt (a := 16) hr.2.1 (by omega))]
    by_cases c : x = 0
    · rw [if_pos c, if_pos c]
      exact ⟨_, σ1, τ1, rfl, rfl, hI2⟩
    · rw [if_neg c, if_neg c]
      exact ⟨_, σ1, τ1, rfl, rfl, hI2⟩
