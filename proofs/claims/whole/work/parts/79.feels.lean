/-! ===== what the law asks of one ===== -/
def oweF (t : Nat → Int32) (p l : Nat) (a : Int32) : Int32 := if t (88 + l) = nI p then (if 0 < t (184 + l) then a + 1 else a) else a
def owe (t : Nat → Int32) (p : Nat) : Int32 := itr (oweF t p) 0 (t 208).toNatClampNeg 0
def othF (t : Nat → Int32) (τ : jS) (p h q : Nat) (a : Int32) : Int32 := if q = p then a else if t (48 + q) = 0 then a else if dg τ q h = dg τ p h then a + 1 else a
def oth (t : Nat → Int32) (τ : jS) (p h : Nat) : Int32 := itr (othF t τ p h) 0 16 0
theorem x6_owed {F c : Nat} (hF : 30 ≤ F) {σ : jS} {t : Nat → Int32} (h : cityW0 t) (hR : cityR c σ t) (p : Nat) : mX6_owedBy F (c + 3) (nI p) σ = some (owe t p) := by
  obtain ⟨n, hn, en⟩ := many_n h
  unfold mX6_owedBy owe
  rw [en, nI_clamp (by omega)]
  refine loop_f (fun m y a => lp_X6_owedBy_4 F (c + 3) σ m (nI p) a y) n (oweF t p) some ?_ ?_ F 0 0 (by omega) (by omega)
  · intro m l a hl
    have hln : nI l < t 208 := by rw [en]; exact nI_lt hl (by omega)
    show lp_X6_owedBy_4 F (c + 3) σ (m + 1) (nI p) a (nI l) = _
    rw [lp_X6_owedBy_4, cityR_many_at hR, if_pos hln, if_pos (show nI l < (24 : Int32) from nI_lt (b := 24) (by omega) (by omega))]
    simp only [jin_nI (show l < 24 by omega) (show 24 < 2 ^ 31 by omega), if_true, nI_clamp (show l < 2 ^ 31 by omega), show σ (c + 3 + 2) l = t (88 + l) from cityR_to_at hR (by omega) hln, show σ (c + 3 + 6) l = t (184 + l) from cityR_due_at hR (by omega) hln, nI1]
    unfold oweF
    split
    · split <;> rfl
    · rfl
  · intro m a
    show lp_X6_owedBy_4 F (c + 3) σ (m + 1) (nI p) a (nI n) = _
    rw [lp_X6_owedBy_4, cityR_many_at hR, en, if_neg (nI_nlt (Nat.le_refl n) (by omega))]
theorem m_debts {F : Nat} (hF : 30 ≤ F) {τ : jS} (h : cityW0 (τ 1)) (p : Nat) : mX12_debtsOf F (nI p) τ = some (owe (τ 1) p) := by
  obtain ⟨n, hn, en⟩ := many_n h
  unfold mX12_debtsOf owe
  rw [en, nI_clamp (by omega)]
  refine loop_f (fun m y a => lp_X12_debtsOf_4 F τ m (nI p) a y) n (oweF (τ 1) p) some ?_ ?_ F 0 0 (by omega) (by omega)
  · intro m l a hl
    have hln : nI l < τ 1 208 := by rw [en]; exact nI_lt hl (by omega)
    show lp_X12_debtsOf_4 F τ (m + 1) (nI p) a (nI l) = _
    rw [lp_X12_debtsOf_4, if_pos hln]
    simp only [ltE, show (88 : Int32) + nI l = nI (88 + l) from nI_add 88 l, show (184 : Int32) + nI l = nI (184 + l) from nI_add 184 l, jin_nI (show 88 + l < 212 by omega) (show 212 < 2 ^ 31 by omega), jin_nI (show 184 + l < 212 by omega) (show 212 < 2 ^ 31 by omega), if_true, nI_clamp (show 88 + l < 2 ^ 31 by omega), nI_clamp (show 184 + l < 2 ^ 31 by omega), nI1]
    unfold oweF
    split
    · split <;> rfl
    · rfl
  · intro m a
    show lp_X12_debtsOf_4 F τ (m + 1) (nI p) a (nI n) = _
    rw [lp_X12_debtsOf_4, en, if_neg (nI_nlt (Nat.le_refl n) (by omega))]
def routX (σ τ : jS) : Prop := ∀ i, i < 384 → σ 34 i = τ 4 i
theorem x8_others {F c : Nat} (hF : 30 ≤ F) {σ τ : jS} {t : Nat → Int32} (hW : cityW0 t) (hR : cityR c σ t) (hT : routX σ τ) {p h : Nat} (hp : p < 16) (hh : h < 24) : mX8_othersWith F (nI p) (σ c 4) (nI h) σ = some (oth t τ p h) := by
  unfold mX8_othersWith oth
  have ix : ∀ q, nI q * (24 : Int32) + nI h = nI (24 * q + h) := by
    intro q
    show nI q * nI 24 + nI h = _
    rw [pk_mul, nI_add, Nat.mul_comm]
  rw [if_neg (nI_pos (by omega)), if_pos (lt16 hp), if_neg (nI_pos (by omega)), if_pos (lt24 hh)]
  simp only [ltE, ix, jin_nI (show 24 * p + h < 384 by omega) (show 384 < 2 ^ 31 by omega), if_true, nI_clamp (show 24 * p + h < 2 ^ 31 by omega), hT (24 * p + h) (by omega)]
  refine loop_f (fun m y a => lp_X8_othersWith_41 F σ m (nI p) (σ c 4) (nI h) a (τ 4 (24 * p + h)) y) 16 (othF t τ p h) some ?_ ?_ F 0 0 (by omega) (by omega)
  · intro m q a hq
    show lp_X8_othersWith_41 F σ (m + 1) (nI p) (σ c 4) (nI h) a (τ 4 (24 * p + h)) (nI q) = _
    rw [lp_X8_othersWith_41, if_pos (lt16 hq)]
    simp only [ltE, ix, jin_nI (show 24 * q + h < 384 by omega) (show 384 < 2 ^ 31 by omega), if_true, nI_clamp (show 24 * q + h < 2 ^ 31 by omega), hT (24 * q + h) (by omega), nI1]
    unfold othF dg
    by_cases c1 : q = p
    · rw [if_pos (show nI q = nI p by rw [c1]), if_pos c1]
    · rw [if_neg (show ¬ nI q = nI p from fun h => c1 (nI_inj (by omega) (by omega) h)), if_neg c1]
      by_cases c2 : t (48 + q) = 0
      · rw [if_pos ((bitsR_z hR.2.1 hq).mpr c2), if_pos c2]
      · rw [if_neg (fun z => c2 ((bitsR_z hR.2.1 hq).mp z)), if_neg c2]
        split <;> rfl
  · intro m a
    show lp_X8_othersWith_41 F σ (m + 1) (nI p) (σ c 4) (nI h) a (τ 4 (24 * p + h)) (nI 16) = _
    rw [lp_X8_othersWith_41, if_neg nlt16]
theorem m_others {F : Nat} (hF : 30 ≤ F) {τ : jS} (hW : cityW (τ 1)) {p h : Nat} (hp : p < 16) (hh : h < 24) : mX12_othersDoing F (nI p) (nI h) τ = some (oth (τ 1) τ p h) := by
  unfold mX12_othersDoing oth
  refine loop_f (fun m y a => lp_X12_othersDoing_5 F τ m (nI p) (nI h) a y) 16 (othF (τ 1) τ p h) some ?_ ?_ F 0 0 (by omega) (by omega)
  · intro m q a hq
    show lp_X12_othersDoing_5 F τ (m + 1) (nI p) (nI h) a (nI q) = _
    rw [lp_X12_othersDoing_5, if_pos (lt16 hq), m_live hW, tl_in _ hq, m_doing hq hh, m_doing hp hh]
    simp only [ltE, Option.bind_some, nI1]
    unfold othF
    by_cases c1 : q = p
    · rw [if_pos (show nI q = nI p by rw [c1]), if_pos c1]
    · rw [if_neg (show ¬ nI q = nI p from fun h => c1 (nI_inj (by omega) (by omega) h)), if_neg c1]
      split
      · rfl
      · split <;> rfl
  · intro m a
    show lp_X12_othersDoing_5 F τ (m + 1) (nI p) (nI h) a (nI 16) = _
    rw [lp_X12_othersDoing_5, if_neg nlt16]
def fct (t : Nat → Int32) (τ : jS) (p h : Nat) (o dr : Int32) (a : Nat) : Int32 := if a = 0 then nI p else if a = 1 then dg τ p (min 23 h) else if a = 2 then nI h else if a = 3 then t (32 + p) / 365 else if a = 4 then t (16 + p) / 1000 else if a = 5 then o else if a = 6 then owe t p else if a = 7 then irm (t 210) 100 else dr
theorem x2_letter {F c : Nat} (hF : 30 ≤ F) {σ τ : jS} {t : Nat → Int32} (hW : cityW0 t) (hR : cityR c σ t) (hT : routX σ τ) (hc : c < 1000) (hk : kX c = 0) {p h : Nat} (hp : p < 16) (hh : h ≤ 24) {am dr : Int32} (h2 : σ 58 2 = nI c) (h4 : σ 58 4 = nI p) (h5 : σ 58 5 = nI h) (h6 : σ 58 6 = dr) (h7 : σ 58 7 = am) {a : Nat} (ha : a ≤ 8) : mX2_letter F (nI a) σ = some (fct t τ p h (if am = 0 then 0 else oth t τ p (min 23 h)) dr a) := by
  have hm : min 23 h < 24 := by omega
  have em : imin (nI h) (23 : Int32) = nI (min 23 h) := by
    rw [show imin (nI h) (23 : Int32) = nI (min h 23) from imin_nI (b := 23) (by omega) (by omega), Nat.min_comm]
  have e8 : mX8_doing F (nI p) (nI (min 23 h)) σ = some (dg τ p (min 23 h)) := by
    unfold mX8_doing jn_X8_doing_25
    rw [if_neg (nI_pos (by omega)), if_pos (lt16 hp), if_neg (nI_pos (by omega)), if_pos (lt24 hm), if_neg (show ¬ (1 : Int32) = 0 by decide)]
    have e : nI p * (24 : Int32) + nI (min 23 h) = nI (24 * p + min 23 h) := by
      show nI p * nI 24 + nI (min 23 h) = _
      rw [pk_mul, nI_add, Nat.mul_comm]
    simp only [ltE, e, jin_nI (show 24 * p + min 23 h < 384 by omega) (show 384 < 2 ^ 31 by omega), if_true, nI_clamp (show 24 * p + min 23 h < 2 ^ 31 by omega), hT (24 * p + min 23 h) (by omega)]
    rfl
  have lit : ∀ k : Nat, k < 16 → ((nI a = nI k) ↔ a = k) := fun k hk => ⟨fun h => nI_inj (by omega) (by omega) h, fun h => by rw [h]⟩
  unfold mX2_letter fct
  simp only [ltE, h2, h4, h5, h6, h7, em, nI_clamp (show c < 2 ^ 31 by omega), hk, if_true, e8, x0_age hR hp, x0_beats hR hp, x8_others hF hW hR hT hp hm, x6_owed hF hW hR p, cityR_day_at hR, Option.bind_some]
  simp only [show (nI a = (0 : Int32)) ↔ a = 0 from lit 0 (by omega), show (nI a = (1 : Int32)) ↔ a = 1 from lit 1 (by omega), show (nI a = (2 : Int32)) ↔ a = 2 from lit 2 (by omega), show (nI a = (3 : Int32)) ↔ a = 3 from lit 3 (by omega), show (nI a = (4 : Int32)) ↔ a = 4 from lit 4 (by omega), show (nI a = (5 : Int32)) ↔ a = 5 from lit 5 (by omega), show (nI a = (6 : Int32)) ↔ a = 6 from lit 6 (by omega), show (nI a = (7 : Int32)) ↔ a = 7 from lit 7 (by omega)]
  rcases (show a = 0 ∨ a = 1 ∨ a = 2 ∨ a = 3 ∨ a = 4 ∨ a = 5 ∨ a = 6 ∨ a = 7 ∨ a = 8 by omega) with rfl | rfl | rfl | rfl | rfl | rfl | rfl | rfl | rfl
  all_goals simp
  by_cases c7 : am = 0
  · rw [if_pos c7, if_pos c7]
  · rw [if_neg c7, if_neg c7]
theorem m_feels {F : Nat} (hF : 30 ≤ F) {τ : jS} (hW : cityW0 (τ 1)) {p h : Nat} (hp : p < 16) (hh : h ≤ 24) (o dr : Int32) : ∃ τ', mX12_feels F (nI p) (nI h) o dr τ = some τ' ∧ (∀ d, d ≠ 19 → τ' d = τ d) ∧ ∀ a, a ≤ 8 → τ' 19 a = fct (τ 1) τ p h o dr a := by
  have hm : min 23 h < 24 := by omega
  unfold mX12_feels
  rw [ltE, show mX12_min F (23 : Int32) (nI h) (js τ 19 0 (nI p)) = some (nI (min 23 h)) from m_min F _ (a := 23) (by omega) (by omega)]
  simp only [Option.bind_some]
  rw [m_doing hp hm]
  simp only [Option.bind_some, ltE, show (32 : Int32) + nI p = nI (32 + p) from nI_add 32 p, show (16 : Int32) + nI p = nI (16 + p) from nI_add 16 p, jin_nI (show 32 + p < 212 by omega) (show 212 < 2 ^ 31 by omega), jin_nI (show 16 + p < 212 by omega) (show 212 < 2 ^ 31 by omega), if_true, nI_clamp (show 32 + p < 2 ^ 31 by omega), nI_clamp (show 16 + p < 2 ^ 31 by omega), js_c _ _ _ (show (1 : Nat) ≠ 19 by omega)]
  generalize hρ : js (js (js (js (js (js τ 19 0 (nI p)) 19 1 (dg (js τ 19 0 (nI p)) p (min 23 h))) 19 2 (nI h)) 19 3 (τ 1 (32 + p) / 365)) 19 4 (τ 1 (16 + p) / 1000)) 19 5 o = ρ
  have e1 : ρ 1 = τ 1 := by
    rw [← hρ]
    simp only [js_c _ _ _ (show (1 : Nat) ≠ 19 by omega)]
  rw [m_debts hF (by rw [e1]; exact hW) p]
  simp only [Option.bind_some, e1]
  refine ⟨_, rfl, fun d hd => ?_, fun a ha => ?_⟩
  · rw [← hρ]
    simp only [js_c _ _ _ hd]
  · rw [← hρ]
    have ed : dg (js τ 19 0 (nI p)) p (min 23 h) = dg τ p (min 23 h) := by
      unfold dg
      rw [js_c _ _ _ (show (4 : Nat) ≠ 19 by omega)]
    rw [ed]
    unfold fct
    rcases (show a = 0 ∨ a = 1 ∨ a = 2 ∨ a = 3 ∨ a = 4 ∨ a = 5 ∨ a = 6 ∨ a = 7 ∨ a = 8 by omega) with rfl | rfl | rfl | rfl | rfl | rfl | rfl | rfl | rfl
    all_goals simp [js_at, js_k]
