/-! ===== bells ===== -/
noncomputable def pB (P : Prop) : Int32 := @ite _ P (Classical.propDecidable P) 1 0
theorem pB_1 {P : Prop} (h : P) : pB P = 1 := if_pos h
theorem pB_0 {P : Prop} (h : ¬ P) : pB P = 0 := if_neg h
theorem pB_c {P Q : Prop} (h : P ↔ Q) : pB P = pB Q := by rw [propext h]
theorem nI_inj {a b : Nat} (ha : a < 2 ^ 31) (hb : b < 2 ^ 31) (h : nI a = nI b) : a = b := by
  have := congrArg Int32.toInt h
  rw [nI_toInt ha, nI_toInt hb] at this
  omega
def bgood (τ : jS) (n : Nat) : Prop := ∀ i, i < n → bb τ i ≠ 0 ∧ ∀ j, j < i → bb τ j ≠ bb τ i
theorem bgood_s {τ : jS} {i : Nat} : bgood τ (i + 1) ↔ bgood τ i ∧ bb τ i ≠ 0 ∧ ∀ j, j < i → bb τ j ≠ bb τ i := by
  constructor
  · intro h
    exact ⟨fun k hk => h k (by omega), h i (by omega)⟩
  · intro h k hk
    by_cases e : k = i
    · subst e; exact h.2
    · exact h.1 k (by omega)
theorem x9_bells {F : Nat} (hF : 30 ≤ F) {σ τ : jS} (h4 : ∀ i, i < 260 → σ 2 i = τ 6 i &&& 255) {n : Nat} (hn : n ≤ 5) : mX9_areBells F (nI n) σ = some (pB (bgood τ n)) := by
  have inner : ∀ (P : Prop) (i : Nat) (k : Int32 → Int32 → Int32 → Option Int32), i < 5 → lp_X9_areBells_33 F σ k F (nI n) (pB P) (nI i) 0 = k (nI n) (pB (P ∧ ∀ j, j < i → bb τ j ≠ bb τ i)) (nI i) := by
    intro P i k hi
    refine loop_p (fun m y a => lp_X9_areBells_33 F σ k m (nI n) a (nI i) y) i (fun j a => a = pB (P ∧ ∀ j', j' < j → bb τ j' ≠ bb τ i)) (fun o => o = k (nI n) (pB (P ∧ ∀ j, j < i → bb τ j ≠ bb τ i)) (nI i)) ?_ ?_ F 0 (pB P) (by omega) (by omega) (pB_c ⟨fun h => ⟨h, fun j hj => absurd hj (by omega)⟩, fun h => h.1⟩)
    · intro m j a hj hP
      subst hP
      right
      show ∃ a', _ ∧ lp_X9_areBells_33 F σ k (m + 1) (nI n) _ (nI i) (nI j) = lp_X9_areBells_33 F σ k m (nI n) a' (nI i) (nI (j + 1))
      have b1 := (bb_n τ i).1
      have b2 := (bb_n τ j).1
      rw [lp_X9_areBells_33, if_pos (nI_lt hj (by omega)), x_byte F h4 (show j < 260 by omega), x_byte F h4 (show i < 260 by omega)]
      simp only [Option.bind_some, nI1]
      by_cases c : P ∧ ∀ j', j' < j → bb τ j' ≠ bb τ i
      · rw [pB_1 c, if_neg (show ¬ (1 : Int32) = 0 by decide)]
        by_cases c2 : bb τ j = bb τ i
        · rw [if_pos (show nI (bb τ j) = nI (bb τ i) by rw [c2])]
          exact ⟨0, (pB_0 (fun h => h.2 j (by omega) c2)).symm, rfl⟩
        · rw [if_neg (show ¬ nI (bb τ j) = nI (bb τ i) from fun h => c2 (nI_inj (by omega) (by omega) h))]
          refine ⟨1, (pB_1 ⟨c.1, fun j' hj' => ?_⟩).symm, rfl⟩
          by_cases e : j' = j
          · subst e; exact c2
          · exact c.2 j' (by omega)
      · rw [pB_0 c, if_pos rfl]
        exact ⟨0, (pB_0 (fun h => c ⟨h.1, fun j' hj' => h.2 j' (by omega)⟩)).symm, rfl⟩
    · intro m a hP
      subst hP
      show lp_X9_areBells_33 F σ k (m + 1) (nI n) _ (nI i) (nI i) = _
      rw [lp_X9_areBells_33, if_neg (nI_nlt (Nat.le_refl i) (by omega))]
  unfold mX9_areBells
  refine loop_p (fun m y a => lp_X9_areBells_4 F σ m (nI n) a y) n (fun i a => a = pB (bgood τ i)) (fun o => o = some (pB (bgood τ n))) ?_ ?_ F 0 1 (by omega) (by omega) (pB_1 (fun i hi => absurd hi (by omega))).symm
  · intro m i a hi hP
    subst hP
    right
    show ∃ a', _ ∧ lp_X9_areBells_4 F σ (m + 1) (nI n) _ (nI i) = lp_X9_areBells_4 F σ m (nI n) a' (nI (i + 1))
    have b1 := (bb_n τ i).1
    rw [lp_X9_areBells_4, if_pos (nI_lt hi (by omega)), x_byte F h4 (show i < 260 by omega)]
    unfold jn_X9_areBells_28 jn_X9_areBells_29
    simp only [Option.bind_some]
    have e0 : (0 : Int32) = pB False := (pB_0 (fun h => h)).symm
    have e1 : (1 : Int32) = pB True := (pB_1 trivial).symm
    by_cases c : bgood τ i
    · rw [pB_1 c, if_neg (show ¬ (1 : Int32) = 0 by decide)]
      by_cases c2 : bb τ i = 0
      · rw [c2, if_pos (show nI 0 = (0 : Int32) from rfl)]
        have := inner False i (fun x1_3 x2_3 x3_3 => (lp_X9_areBells_4 F σ m x1_3 x2_3 ((x3_3 + (1 : Int32))))) (by omega)
        rw [← e0] at this
        rw [this, nI1]
        exact ⟨_, pB_c ⟨fun h => absurd h.1 id, fun h => absurd c2 (bgood_s.mp h).2.1⟩, rfl⟩
      · rw [if_neg (show ¬ nI (bb τ i) = (0 : Int32) from nI_ne0 (by omega) (by omega))]
        have := inner True i (fun x1_3 x2_3 x3_3 => (lp_X9_areBells_4 F σ m x1_3 x2_3 ((x3_3 + (1 : Int32))))) (by omega)
        rw [← e1] at this
        rw [this, nI1]
        exact ⟨_, pB_c ⟨fun h => bgood_s.mpr ⟨c, c2, h.2⟩, fun h => ⟨trivial, (bgood_s.mp h).2.2⟩⟩, rfl⟩
    · rw [pB_0 c, if_pos rfl]
      have := inner False i (fun x1_3 x2_3 x3_3 => (lp_X9_areBells_4 F σ m x1_3 x2_3 ((x3_3 + (1 : Int32))))) (by omega)
      rw [← e0] at this
      rw [this, nI1]
      exact ⟨_, pB_c ⟨fun h => absurd h.1 id, fun h => absurd (bgood_s.mp h).1 c⟩, rfl⟩
  · intro m a hP
    subst hP
    show lp_X9_areBells_4 F σ (m + 1) (nI n) _ (nI n) = _
    rw [lp_X9_areBells_4, if_neg (nI_nlt (Nat.le_refl n) (by omega))]
    by_cases c : bgood τ n
    · rw [pB_1 c]; rfl
    · rw [pB_0 c]; rfl
theorem m_bells {F : Nat} (hF : 30 ≤ F) {τ : jS} {n : Nat} (hn : n ≤ 5) (x2 : Int32) (k : Int32 → Int32 → jS → Option (Int32 × jS)) : (bgood τ n ∧ lp_X12_bells_37 F k F (nI n) x2 0 τ = k (nI n) x2 τ) ∨ (¬ bgood τ n ∧ lp_X12_bells_37 F k F (nI n) x2 0 τ = some (-3, τ)) := by
  refine loop_p (fun m y (a : Unit) => lp_X12_bells_37 F k m (nI n) x2 y τ) n (fun i a => bgood τ i) (fun o => (bgood τ n ∧ o = k (nI n) x2 τ) ∨ (¬ bgood τ n ∧ o = some (-3, τ))) ?_ ?_ F 0 () (by omega) (by omega) (fun i hi => absurd hi (by omega))
  · intro m i a hi hP
    show ((bgood τ n ∧ lp_X12_bells_37 F k (m + 1) (nI n) x2 (nI i) τ = _) ∨ (_ ∧ lp_X12_bells_37 F k (m + 1) (nI n) x2 (nI i) τ = _)) ∨ ∃ a' : Unit, _ ∧ lp_X12_bells_37 F k (m + 1) (nI n) x2 (nI i) τ = lp_X12_bells_37 F k m (nI n) x2 (nI (i + 1)) τ
    have b1 := (bb_n τ i).1
    rw [lp_X12_bells_37, if_pos (nI_lt hi (by omega)), m_oct F τ (show i < 260 by omega)]
    simp only [Option.bind_some]
    by_cases c2 : bb τ i = 0
    · left; right
      rw [c2, if_pos (show nI 0 = (0 : Int32) from rfl)]
      exact ⟨fun h => (h i hi).1 c2, rfl⟩
    rw [if_neg (show ¬ nI (bb τ i) = (0 : Int32) from nI_ne0 (by omega) (by omega))]
    refine loop_p (fun m' y (a : Unit) => lp_X12_bells_56 F (fun x1_7 x2_7 x3_7 σ7 => (lp_X12_bells_37 F k m x1_7 x2_7 ((x3_7 + (1 : Int32))) σ7)) m' (nI n) x2 (nI i) y τ) i (fun j a => ∀ j', j' < j → bb τ j' ≠ bb τ i) (fun o => ((bgood τ n ∧ o = k (nI n) x2 τ) ∨ (¬ bgood τ n ∧ o = some (-3, τ))) ∨ ∃ a' : Unit, bgood τ (i + 1) ∧ o = lp_X12_bells_37 F k m (nI n) x2 (nI (i + 1)) τ) ?_ ?_ F 0 () (by omega) (by omega) (fun j hj => absurd hj (by omega))
    · intro m' j _ hj hP2
      have b2 := (bb_n τ j).1
      show (((bgood τ n ∧ lp_X12_bells_56 F _ (m' + 1) (nI n) x2 (nI i) (nI j) τ = _) ∨ (_ ∧ lp_X12_bells_56 F _ (m' + 1) (nI n) x2 (nI i) (nI j) τ = _)) ∨ ∃ a' : Unit, _ ∧ lp_X12_bells_56 F _ (m' + 1) (nI n) x2 (nI i) (nI j) τ = _) ∨ ∃ a' : Unit, _ ∧ lp_X12_bells_56 F _ (m' + 1) (nI n) x2 (nI i) (nI j) τ = lp_X12_bells_56 F _ m' (nI n) x2 (nI i) (nI (j + 1)) τ
      rw [lp_X12_bells_56, if_pos (nI_lt hj (by omega)), m_oct F τ (show i < 260 by omega), m_oct F τ (show j < 260 by omega)]
      simp only [Option.bind_some, nI1]
      by_cases c3 : bb τ j = bb τ i
      · left; left; right
        rw [if_pos (show nI (bb τ j) = nI (bb τ i) by rw [c3])]
        exact ⟨fun h => (h i hi).2 j hj c3, rfl⟩
      · right
        rw [if_neg (show ¬ nI (bb τ j) = nI (bb τ i) from fun h => c3 (nI_inj (by omega) (by omega) h))]
        refine ⟨(), fun j' hj' => ?_, rfl⟩
        by_cases e : j' = j
        · subst e; exact c3
        · exact hP2 j' (by omega)
    · intro m' _ hP2
      right
      show ∃ a' : Unit, _ ∧ lp_X12_bells_56 F _ (m' + 1) (nI n) x2 (nI i) (nI i) τ = _
      rw [lp_X12_bells_56, if_neg (nI_nlt (Nat.le_refl i) (by omega)), nI1]
      exact ⟨(), bgood_s.mpr ⟨hP, c2, hP2⟩, rfl⟩
  · intro m a hP
    left
    show _ ∧ lp_X12_bells_37 F k (m + 1) (nI n) x2 (nI n) τ = _
    rw [lp_X12_bells_37, if_neg (nI_nlt (Nat.le_refl n) (by omega))]
    exact ⟨hP, rfl⟩
/-- how many blows, in both -/
def blR (j : Nat) (x y : Int32) : Prop := (∃ c, c ≤ j ∧ x = nI c ∧ y = nI c) ∨ (x = nI 1000000 ∧ y = nI 1000000000)
theorem s_blow {F : Nat} (hF : 30 ≤ F) {σ τ : jS} (h4 : ∀ i, i < 260 → σ 2 i = τ 6 i &&& 255) {n v : Nat} (hn : n ≤ 5) (hv : v ≤ 9999) (hg : bgood τ n) (hR : ∀ j, j < v → v ≤ j + 256 → blR j (σ 68 (j % 256)) (τ 32 j)) (N : Int32) (k : Int32 → Int32 → Int32 → Int32 → jS → Option (Int32 × jS)) (k2 : Int32 → Int32 → Int32 → jS → Option (Int32 × jS)) (h0 : τ 32 v = nI 1000000000) : ∃ x τ', lp_X9_fewestBlows_21 F k F (nI n) N (nI v) (nI 1000000) 0 σ = k (nI n) N (nI v) x σ ∧ lp_X12_bells_117 F k2 F (nI n) N (nI v) 0 τ = k2 (nI n) N (nI v) τ' ∧ blR v x (τ' 32 v) ∧ (∀ d, d ≠ 32 → τ' d = τ d) ∧ ∀ j, j ≠ v → τ' 32 j = τ 32 j := by
  refine loop_q (fun m y a => lp_X9_fewestBlows_21 F k m (nI n) N (nI v) a y σ) (fun m y b => lp_X12_bells_117 F k2 m (nI n) N (nI v) y b) n (fun i a b => blR v a (b 32 v) ∧ (∀ d, d ≠ 32 → b d = τ d) ∧ ∀ j, j ≠ v → b 32 j = τ 32 j) (fun r s => ∃ x τ', r = k (nI n) N (nI v) x σ ∧ s = k2 (nI n) N (nI v) τ' ∧ blR v x (τ' 32 v) ∧ (∀ d, d ≠ 32 → τ' d = τ d) ∧ ∀ j, j ≠ v → τ' 32 j = τ 32 j) ?_ ?_ F 0 (nI 1000000) τ (by omega) (by omega) ⟨Or.inr ⟨rfl, h0⟩, fun _ _ => rfl, fun _ _ => rfl⟩
  · intro m i a ρ hi hP
    obtain ⟨p1, p2, p3⟩ := hP
    right
    show ∃ a' b', _ ∧ lp_X9_fewestBlows_21 F k (m + 1) (nI n) N (nI v) a (nI i) σ = lp_X9_fewestBlows_21 F k m (nI n) N (nI v) a' (nI (i + 1)) σ ∧ lp_X12_bells_117 F k2 (m + 1) (nI n) N (nI v) (nI i) ρ = lp_X12_bells_117 F k2 m (nI n) N (nI v) (nI (i + 1)) b'
    have b1 := (bb_n τ i).1
    have eb : bb ρ i = bb τ i := bb_cong (p2 6 (by omega)) i
    have s0 : bb τ i ≠ 0 := (hg i hi).1
    rw [lp_X9_fewestBlows_21, lp_X12_bells_117, if_pos (nI_lt hi (by omega)), if_pos (nI_lt hi (by omega)), x_byte F h4 (show i < 260 by omega), m_oct F ρ (show i < 260 by omega), eb]
    simp only [Option.bind_some, nI1, ltE]
    by_cases c : v < bb τ i
    · rw [if_pos (nI_lt c (by omega)), if_pos (nI_lt c (by omega))]
      exact ⟨a, ρ, ⟨p1, p2, p3⟩, rfl, rfl⟩
    · rw [if_neg (nI_nlt (by omega) (by omega)), if_neg (nI_nlt (by omega) (by omega)), pk_sub (show bb τ i ≤ v by omega)]
      have em : nI (v - bb τ i) &&& (255 : Int32) = nI ((v - bb τ i) % 256) := pk_andN (by omega) 8 (by decide)
      have hm : (v - bb τ i) % 256 < 256 := Nat.mod_lt _ (by omega)
      simp only [em, jin_nI hm (show 256 < 2 ^ 31 by omega), jin_nI (show v < 10000 by omega) (show 10000 < 2 ^ 31 by omega), jin_nI (show v - bb τ i < 10000 by omega) (show 10000 < 2 ^ 31 by omega), if_true, nI_clamp (show (v - bb τ i) % 256 < 2 ^ 31 by omega), nI_clamp (show v < 2 ^ 31 by omega), nI_clamp (show v - bb τ i < 2 ^ 31 by omega), p3 (v - bb τ i) (by omega)]
      have upd2 : ∀ y : Int32, (∀ d, d ≠ 32 → js ρ 32 v y d = τ d) ∧ ∀ j, j ≠ v → js ρ 32 v y 32 j = τ 32 j := fun y => ⟨fun d hd => by rw [js_c _ _ _ hd]; exact p2 d hd, fun j hj => by rw [js_k _ _ hj]; exact p3 j hj⟩
      rcases hR (v - bb τ i) (by omega) (by omega) with ⟨c1, hc1, e1, e2⟩ | ⟨e1, e2⟩
      · rw [e1, e2, nI1]
        rcases p1 with ⟨c2, hc2, e3, e4⟩ | ⟨e3, e4⟩
        · rw [e3, e4, imin_nI (by omega) (by omega), m_min F ρ (by omega) (by omega)]
          simp only [Option.bind_some]
          exact ⟨_, _, ⟨by rw [js_at]; exact Or.inl ⟨_, by omega, rfl, rfl⟩, upd2 _⟩, rfl, rfl⟩
        · rw [e3, e4, imin_nI (by omega) (by omega), m_min F ρ (by omega) (by omega), Nat.min_eq_right (by omega), Nat.min_eq_right (by omega)]
          simp only [Option.bind_some]
          exact ⟨_, _, ⟨by rw [js_at]; exact Or.inl ⟨_, by omega, rfl, rfl⟩, upd2 _⟩, rfl, rfl⟩
      · rw [e1, e2, nI1, nI1]
        rcases p1 with ⟨c2, hc2, e3, e4⟩ | ⟨e3, e4⟩
        · rw [e3, e4, imin_nI (by omega) (by omega), m_min F ρ (by omega) (by omega), Nat.min_eq_left (by omega), Nat.min_eq_left (by omega)]
          simp only [Option.bind_some]
          exact ⟨_, _, ⟨by rw [js_at]; exact Or.inl ⟨_, by omega, rfl, rfl⟩, upd2 _⟩, rfl, rfl⟩
        · rw [e3, e4, imin_nI (by omega) (by omega), m_min F ρ (by omega) (by omega), Nat.min_eq_left (by omega), Nat.min_eq_left (by omega)]
          simp only [Option.bind_some]
          exact ⟨_, _, ⟨by rw [js_at]; exact Or.inr ⟨rfl, rfl⟩, upd2 _⟩, rfl, rfl⟩
  · intro m a ρ hP
    show ∃ x τ', lp_X9_fewestBlows_21 F k (m + 1) (nI n) N (nI v) a (nI n) σ = _ ∧ lp_X12_bells_117 F k2 (m + 1) (nI n) N (nI v) (nI n) ρ = _ ∧ _
    rw [lp_X9_fewestBlows_21, lp_X12_bells_117, if_neg (nI_nlt (Nat.le_refl n) (by omega)), if_neg (nI_nlt (Nat.le_refl n) (by omega))]
    exact ⟨a, ρ, rfl, rfl, hP⟩
theorem bgood_cong {τ τ' : jS} (h : τ' 6 = τ 6) {n : Nat} (g : bgood τ n) : bgood τ' n := fun i hi => by
  rw [bb_cong h]
  exact ⟨(g i hi).1, fun j hj => by rw [bb_cong h]; exact (g i hi).2 j hj⟩
theorem s_bells (F : Nat) (hF : 10010 ≤ F) : S_bells F Inv := by
  intro σ τ x1 x2 hI
  unfold mX11_bells mX12_bells
  rw [isW, isI, isW, isI]
  rcases inr_c x1 1 5 with e | ⟨e, h1, h2⟩
  · rw [e]; exact ⟨-1, σ, τ, rfl, rfl, hI⟩
  rcases inr_c x2 1 9999 with e2 | ⟨e2, h3, h5⟩
  · rw [e, e2]; exact ⟨-1, σ, τ, rfl, rfl, hI⟩
  obtain ⟨n, hn2, hn, rfl⟩ := inr_nat (a := 1) (b := 5) (by omega) (by omega) h1 h2
  obtain ⟨N, hN1, hN, rfl⟩ := inr_nat (a := 1) (b := 9999) (by omega) (by omega) h3 h5
  simp only [e, e2, Option.bind_some, if_neg (show ¬ (1 : Int32) = 0 by decide)]
  rcases tape_cases F hI (show n ≤ 260 by omega) with ⟨a1, a2⟩ | ⟨a1, a2, σ1, a3, hI2, -⟩
  · rw [a1, if_pos a2]; exact ⟨-1, σ, τ, rfl, rfl, hI⟩
  rw [a1, if_neg a2, a3]
  simp only [Option.bind_some, if_neg (show ¬ (1 : Int32) = 0 by decide)]
  rw [ltE]
  generalize js τ 0 6 0 = τ1 at hI2 ⊢
  obtain ⟨⟨-, t4⟩, -⟩ := id hI2
  rw [x9_bells (by omega) t4 hn]
  simp only [Option.bind_some]
  rcases m_bells (F := F) (by omega) (τ := τ1) hn (nI N) (fun x1_8 x2_8 σ8 => (lt (js σ8 32 0 (0 : Int32)) fun σ9 => (lp_X12_bells_100 F (fun x2_21 σ21 => (if jin x2_21 10000 = true then (if (σ21 32 x2_21.toNatClampNeg) < (1000000000 : Int32) then (if jin x2_21 10000 = true then some ((σ21 32 x2_21.toNatClampNeg), σ21) else none) else some ((-2 : Int32), σ21)) else none)) F x1_8 x2_8 (1 : Int32) σ9))) with ⟨hg, em⟩ | ⟨hg, em⟩
  · rw [em, pB_1 hg, if_neg (show ¬ (1 : Int32) = 0 by decide)]
    unfold mX9_fewestBlows
    rw [ltE, ltE]
    refine loop_q (fun m y a => Option.bind (lp_X9_fewestBlows_9 F (fun x2_9 σ9 => (lt (x2_9 &&& (255 : Int32)) fun y10 => (if jin y10 256 = true then (lt (σ9 68 y10.toNatClampNeg) fun y12 => (if y12 < (1000000 : Int32) then some (y12, σ9) else some ((-2 : Int32), σ9))) else none))) m (nI n) (nI N) y a) fun q6 => some (q6.1, q6.2)) (fun m y b => lp_X12_bells_100 F (fun x2_21 σ21 => (if jin x2_21 10000 = true then (if (σ21 32 x2_21.toNatClampNeg) < (1000000000 : Int32) then (if jin x2_21 10000 = true then some ((σ21 32 x2_21.toNatClampNeg), σ21) else none) else some ((-2 : Int32), σ21)) else none)) m (nI n) (nI N) y b) (N + 1) (fun v a b => 1 ≤ v ∧ (∀ d, d ≠ 68 → d ≠ 69 → a d = σ1 d) ∧ (∀ d, d ≠ 32 → b d = τ1 d) ∧ ∀ j, j < v → v ≤ j + 256 → blR j (a 68 (j % 256)) (b 32 j)) (fun r s => ∃ z σ' τ', r = some (z, σ') ∧ s = some (z, τ') ∧ Inv σ' τ') ?_ ?_ F 1 (js σ1 68 0 0) (js τ1 32 0 0) (by omega) (by omega) ⟨by omega, fun d c1 c2 => js_c _ _ _ c1, fun d c1 => js_c _ _ _ c1, fun j hj _ => by
      have e0 : j = 0 := by omega
      subst e0
      rw [js_at, js_at]
      exact Or.inl ⟨0, by omega, rfl, rfl⟩⟩
    · intro m v a b hv hP
      obtain ⟨p0, p1, p2, p3⟩ := hP
      right
      show ∃ a' b', _ ∧ (Option.bind (lp_X9_fewestBlows_9 F _ (m + 1) (nI n) (nI N) (nI v) a) fun q6 => some (q6.1, q6.2)) = (Option.bind (lp_X9_fewestBlows_9 F _ m (nI n) (nI N) (nI (v + 1)) a') fun q6 => some (q6.1, q6.2)) ∧ lp_X12_bells_100 F _ (m + 1) (nI n) (nI N) (nI v) b = lp_X12_bells_100 F _ m (nI n) (nI N) (nI (v + 1)) b'
      rw [lp_X9_fewestBlows_9, lp_X12_bells_100, if_neg (show ¬ nI N < nI v from nI_nlt (by omega) (by omega)), if_neg (show ¬ nI N < nI v from nI_nlt (by omega) (by omega))]
      simp only [jin_nI (show v < 10000 by omega) (show 10000 < 2 ^ 31 by omega), if_true, nI_clamp (show v < 2 ^ 31 by omega)]
      rw [ltE]
      have q4 : ∀ i, i < 260 → a 2 i = js b 32 v (1000000000 : Int32) 6 i &&& 255 := fun i hi => by rw [p1 2 (by omega) (by omega), js_c _ _ _ (show (6 : Nat) ≠ 32 by omega), p2 6 (by omega)]; exact t4 i hi
      obtain ⟨x, τ', r1, r2, r3, r4, r5⟩ := s_blow (F := F) (by omega) q4 hn (show v ≤ 9999 by omega) (bgood_cong (by rw [js_c _ _ _ (show (6 : Nat) ≠ 32 by omega)]; exact p2 6 (by omega)) hg) (fun j hj hj2 => by rw [js_k _ _ (show j ≠ v by omega)]; exact p3 j hj hj2) (nI N) (fun x1_6 x2_6 x3_6 x4_6 σ6 => (if jin (x3_6 &&& (255 : Int32)) 256 = true then (lt (js σ6 68 (x3_6 &&& (255 : Int32)).toNatClampNeg x4_6) fun σ7 => (lp_X9_fewestBlows_9 F (fun x2_9 σ9 => (lt (x2_9 &&& (255 : Int32)) fun y10 => (if jin y10 256 = true then (lt (σ9 68 y10.toNatClampNeg) fun y12 => (if y12 < (1000000 : Int32) then some (y12, σ9) else some ((-2 : Int32), σ9))) else none))) m x1_6 x2_6 ((x3_6 + (1 : Int32))) σ7)) else none)) (fun x1_20 x2_20 x3_20 σ20 => (lp_X12_bells_100 F (fun x2_21 σ21 => (if jin x2_21 10000 = true then (if (σ21 32 x2_21.toNatClampNeg) < (1000000000 : Int32) then (if jin x2_21 10000 = true then some ((σ21 32 x2_21.toNatClampNeg), σ21) else none) else some ((-2 : Int32), σ21)) else none)) m x1_20 x2_20 ((x3_20 + (1 : Int32))) σ20)) (by rw [js_at]; rfl)
      have e6 : (1000000 : Int32) = nI 1000000 := rfl
      rw [e6] at r1 ⊢
      rw [r1, r2]
      have em : nI v &&& (255 : Int32) = nI (v % 256) := pk_andN (by omega) 8 (by decide)
      have hm : v % 256 < 256 := Nat.mod_lt _ (by omega)
      simp only [em, jin_nI hm (show 256 < 2 ^ 31 by omega), if_true, nI_clamp (show v % 256 < 2 ^ 31 by omega), nI1]
      rw [ltE]
      refine ⟨_, _, ⟨by omega, fun d c1 c2 => by rw [js_c _ _ _ c1]; exact p1 d c1 c2, fun d c1 => by rw [r4 d c1, js_c _ _ _ c1]; exact p2 d c1, fun j hj hj2 => ?_⟩, rfl, rfl⟩
      by_cases c : j = v
      · subst c
        rw [js_at]
        exact r3
      · rw [r5 j c, js_k _ _ c, js_k _ _ (show j % 256 ≠ v % 256 by omega)]
        exact p3 j (by omega) (by omega)
    · intro m a b hP
      obtain ⟨p0, p1, p2, p3⟩ := hP
      show ∃ z σ' τ', (Option.bind (lp_X9_fewestBlows_9 F _ (m + 1) (nI n) (nI N) (nI (N + 1)) a) fun q6 => some (q6.1, q6.2)) = some (z, σ') ∧ lp_X12_bells_100 F _ (m + 1) (nI n) (nI N) (nI (N + 1)) b = some (z, τ') ∧ Inv σ' τ'
      rw [lp_X9_fewestBlows_9, lp_X12_bells_100, if_pos (show nI N < nI (N + 1) from nI_lt (by omega) (by omega)), if_pos (show nI N < nI (N + 1) from nI_lt (by omega) (by omega))]
      have em : nI N &&& (255 : Int32) = nI (N % 256) := pk_andN (by omega) 8 (by decide)
      have hm : N % 256 < 256 := Nat.mod_lt _ (by omega)
      simp only [ltE, em, jin_nI hm (show 256 < 2 ^ 31 by omega), jin_nI (show N < 10000 by omega) (show 10000 < 2 ^ 31 by omega), if_true, nI_clamp (show N % 256 < 2 ^ 31 by omega), nI_clamp (show N < 2 ^ 31 by omega)]
      have hI3 : Inv a b := by
        have k1 := keepX_sums (σ := σ1) (σ' := a) p1
        have k2 := keepM_hi (τ := τ1) (τ' := b) (fun d hd => p2 d (by omega))
        exact Inv_keep hI2 k1.1 k1.2 k2.1 k2.2
      rcases p3 N (by omega) (by omega) with ⟨c, hc, f1, f2⟩ | ⟨f1, f2⟩
      · rw [f1, f2, if_pos (show nI c < (1000000 : Int32) from nI_lt (b := 1000000) (by omega) (by omega)), if_pos (show nI c < (1000000000 : Int32) from nI_lt (b := 1000000000) (by omega) (by omega))]
        exact ⟨_, a, b, rfl, rfl, hI3⟩
      · rw [f1, f2, if_neg (show ¬ nI 1000000 < (1000000 : Int32) from nI_nlt (b := 1000000) (by omega) (by omega)), if_neg (show ¬ nI 1000000000 < (1000000000 : Int32) from nI_nlt (b := 1000000000) (by omega) (by omega))]
        exact ⟨_, a, b, rfl, rfl, hI3⟩
  · rw [em, pB_0 hg]
    exact ⟨-3, σ1, τ1, rfl, rfl, hI2⟩
