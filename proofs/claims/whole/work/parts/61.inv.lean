/-! ===== the law's code in both worlds ===== -/
def opM (o : Nat) : Nat := [0, 1, 10, 12, 11, 2, 3, 4, 5, 6, 7, 8, 9].getD o 0
/-- ty: how many numbers lie on the stack, and whether a truth waits, ahead of each step -/
def stepW (o a i to : Nat) (ty : Nat → Nat × Bool) : Prop :=
  (o ≤ 1 ∧ (o = 1 → a ≤ 8) ∧ (ty i).2 = false ∧ (ty i).1 < 31 ∧ ty (i + 1) = ((ty i).1 + 1, false)) ∨
  (o = 2 ∧ (ty i).2 = true ∧ ty (i + 1) = ty i) ∨
  ((o = 3 ∨ o = 4) ∧ (ty i).2 = true ∧ ty (i + 1) = ((ty i).1, false) ∧ i < a ∧ a ≤ to ∧ ty a = ty i) ∨
  (5 ≤ o ∧ o ≤ 9 ∧ (ty i).2 = false ∧ 2 ≤ (ty i).1 ∧ ty (i + 1) = ((ty i).1 - 1, false)) ∨
  (10 ≤ o ∧ o ≤ 12 ∧ (ty i).2 = false ∧ 2 ≤ (ty i).1 ∧ ty (i + 1) = ((ty i).1 - 2, true))
def segW (cd : Nat → Nat × Nat) (s t : Nat) (z : Nat × Bool) : Prop := ∃ ty : Nat → Nat × Bool, ty s = (0, false) ∧ ty t = z ∧ (∀ i, s ≤ i → i ≤ t → (ty i).1 < 32) ∧ ∀ i, s ≤ i → i < t → stepW (cd i).1 (cd i).2 i t ty
def ruleW (cd : Nat → Nat × Nat) (kd s h t : Nat) : Prop := (kd = 112 ∨ kd = 105 ∨ kd = 120) ∧ s ≤ h ∧ h ≤ t ∧ t ≤ 240 ∧ (kd ≠ 120 → segW cd s h (1, false)) ∧ (kd = 120 → s = h) ∧ segW cd h t (0, true)
def codeR (cd : Nat → Nat × Nat) (x y : Int32) (i : Nat) : Prop := (cd i).1 ≤ 12 ∧ (cd i).2 < 100000 ∧ x = nI (16 * (cd i).2 + (cd i).1) ∧ y = nI (1048576 * opM (cd i).1 + (cd i).2)
def lawR (e : Nat) (σ τ : jS) : Prop := ∃ (cd : Nat → Nat × Nat) (n : Nat), n ≤ 16 ∧ σ e 6 = nI n ∧ τ 0 15 = nI n ∧ (∀ i, i < 240 → (∃ j, j < n ∧ nI i < σ (e + 5) j) → codeR cd (σ (e + 1) i) (τ 13 i) i) ∧ ∀ j, j < n → ∃ kd s h t, ruleW cd kd s h t ∧ σ (e + 2) j = nI kd ∧ τ 14 j = nI kd ∧ σ (e + 3) j = nI s ∧ τ 15 j = nI s ∧ σ (e + 4) j = nI h ∧ τ 16 j = nI h ∧ σ (e + 5) j = nI t ∧ τ 17 j = nI t
def lawI (σ τ : jS) : Prop := ∃ e, (e = 46 ∨ e = 52) ∧ σ 0 11 = nI e ∧ σ 0 12 = nI (98 - e) ∧ lawR e σ τ
def Inv (σ τ : jS) : Prop := tapeR σ τ ∧ cityW (τ 1) ∧ cityR 3 σ (τ 1) ∧ keptR σ τ ∧ routR σ τ ∧ lawI σ τ
theorem lawI_congr {σ τ σ' τ' : jS} (h : lawI σ τ) (e0 : σ' 0 11 = σ 0 11) (e1 : σ' 0 12 = σ 0 12) (e2 : ∀ c, 46 ≤ c → c < 58 → σ' c = σ c) (e3 : ∀ c, 13 ≤ c → c < 18 → τ' c = τ c) (e4 : τ' 0 15 = τ 0 15) : lawI σ' τ' := by
  obtain ⟨e, he, h1, h2, h3⟩ := h
  refine ⟨e, he, by rw [e0]; exact h1, by rw [e1]; exact h2, ?_⟩
  unfold lawR at h3 ⊢
  rw [e2 e (by omega) (by omega), e2 (e + 1) (by omega) (by omega), e2 (e + 2) (by omega) (by omega), e2 (e + 3) (by omega) (by omega), e2 (e + 4) (by omega) (by omega), e2 (e + 5) (by omega) (by omega), e3 13 (by omega) (by omega), e3 14 (by omega) (by omega), e3 15 (by omega) (by omega), e3 16 (by omega) (by omega), e3 17 (by omega) (by omega), e4]
  exact h3
/-- the cells that count, of the class and of the reference -/
def keepX (σ σ' : jS) : Prop := (∀ k, k = 11 ∨ k = 12 ∨ k = 13 → σ' 0 k = σ 0 k) ∧ σ' 2 = σ 2 ∧ (∀ c, 3 ≤ c → c < 23 → σ' c = σ c) ∧ σ' 34 = σ 34 ∧ σ' 35 = σ 35 ∧ ∀ c, 46 ≤ c → c < 58 → σ' c = σ c
def keepM (τ τ' : jS) : Prop := τ' 1 = τ 1 ∧ τ' 3 = τ 3 ∧ τ' 4 = τ 4 ∧ τ' 5 = τ 5 ∧ τ' 6 = τ 6 ∧ (∀ c, 13 ≤ c → c < 18 → τ' c = τ c) ∧ τ' 0 15 = τ 0 15 ∧ τ' 0 50 = τ 0 50
theorem keepX_rf (σ : jS) : keepX σ σ := ⟨fun _ _ => rfl, rfl, fun _ _ _ => rfl, rfl, rfl, fun _ _ _ => rfl⟩
theorem keepM_rf (τ : jS) : keepM τ τ := ⟨rfl, rfl, rfl, rfl, rfl, fun _ _ _ => rfl, rfl, rfl⟩
theorem keepX_tr {a b c : jS} (h : keepX a b) (g : keepX b c) : keepX a c := ⟨fun k hk => (g.1 k hk).trans (h.1 k hk), g.2.1.trans h.2.1, fun k h1 h2 => (g.2.2.1 k h1 h2).trans (h.2.2.1 k h1 h2), g.2.2.2.1.trans h.2.2.2.1, g.2.2.2.2.1.trans h.2.2.2.2.1, fun k h1 h2 => (g.2.2.2.2.2 k h1 h2).trans (h.2.2.2.2.2 k h1 h2)⟩
theorem keepM_tr {a b c : jS} (h : keepM a b) (g : keepM b c) : keepM a c := ⟨g.1.trans h.1, g.2.1.trans h.2.1, g.2.2.1.trans h.2.2.1, g.2.2.2.1.trans h.2.2.2.1, g.2.2.2.2.1.trans h.2.2.2.2.1, fun k h1 h2 => (g.2.2.2.2.2.1 k h1 h2).trans (h.2.2.2.2.2.1 k h1 h2), g.2.2.2.2.2.2.1.trans h.2.2.2.2.2.2.1, g.2.2.2.2.2.2.2.trans h.2.2.2.2.2.2.2⟩
theorem Inv_size {σ τ σ' τ' : jS} (h : Inv σ τ) (hX : keepX σ σ') (hM : keepM τ τ') (hn : ∃ n, n ≤ 260 ∧ σ' 1 1 = nI n ∧ τ' 0 6 = nI n) : Inv σ' τ' := by
  obtain ⟨x1, x2, x3, x4, x5, x6⟩ := hX
  obtain ⟨m1, m3, m4, m5, m6, m7, m8, m9⟩ := hM
  obtain ⟨⟨t1, t2⟩, h2, h3, h4, h5, h6⟩ := h
  refine ⟨⟨hn, by rw [x2, m6]; exact t2⟩, by rw [m1]; exact h2, by rw [m1]; exact cityR_congr h3 (fun j hj => x3 _ (by omega) (by omega)), ?_, ?_, lawI_congr h6 (x1 11 (Or.inl rfl)) (x1 12 (Or.inr (Or.inl rfl))) x6 m7 m8⟩
  · unfold keptR at h4 ⊢
    rw [x1 13 (Or.inr (Or.inr rfl)), m9, m3]
    rcases h4 with h4 | ⟨a, b, c, d⟩
    · exact Or.inl h4
    · exact Or.inr ⟨a, b, c, cityR_congr d (fun j hj => x3 _ (by omega) (by omega))⟩
  · unfold routR at h5 ⊢
    rw [x4, x5, m4, m5]
    exact h5
/-- all but the city now -/
def offX (σ σ' : jS) : Prop := (∀ k, k = 11 ∨ k = 12 ∨ k = 13 → σ' 0 k = σ 0 k) ∧ σ' 2 = σ 2 ∧ (∀ c, 13 ≤ c → c < 23 → σ' c = σ c) ∧ σ' 34 = σ 34 ∧ σ' 35 = σ 35 ∧ ∀ c, 46 ≤ c → c < 58 → σ' c = σ c
def offM (τ τ' : jS) : Prop := τ' 3 = τ 3 ∧ τ' 4 = τ 4 ∧ τ' 5 = τ 5 ∧ τ' 6 = τ 6 ∧ (∀ c, 13 ≤ c → c < 18 → τ' c = τ c) ∧ τ' 0 15 = τ 0 15 ∧ τ' 0 50 = τ 0 50
theorem Inv_city {σ τ σ' τ' : jS} (h : Inv σ τ) (hX : offX σ σ') (hM : offM τ τ') (hn : σ' 1 1 = σ 1 1) (hm : τ' 0 6 = τ 0 6) (hW : cityW (τ' 1)) (hR : cityR 3 σ' (τ' 1)) : Inv σ' τ' := by
  obtain ⟨x1, x2, x3, x4, x5, x6⟩ := hX
  obtain ⟨m3, m4, m5, m6, m7, m8, m9⟩ := hM
  obtain ⟨⟨t1, t2⟩, h2, h3, h4, h5, h6⟩ := h
  refine ⟨⟨by rw [hn, hm]; exact t1, by rw [x2, m6]; exact t2⟩, hW, hR, ?_, ?_, lawI_congr h6 (x1 11 (Or.inl rfl)) (x1 12 (Or.inr (Or.inl rfl))) x6 m7 m8⟩
  · unfold keptR at h4 ⊢
    rw [x1 13 (Or.inr (Or.inr rfl)), m9, m3]
    rcases h4 with h4 | ⟨a, b, c, d⟩
    · exact Or.inl h4
    · exact Or.inr ⟨a, b, c, cityR_congr d (fun j hj => x3 _ (by omega) (by omega))⟩
  · unfold routR at h5 ⊢
    rw [x4, x5, m4, m5]
    exact h5
theorem bitsR_congr {x : Int32} {f g : Nat → Int32} (h : bitsR x f) (e : ∀ p, p < 16 → g p = f p) : bitsR x g := ⟨fun p hp => by rw [e p hp]; exact h.1 p hp, h.2⟩
theorem Inv_keep {σ τ σ' τ' : jS} (h : Inv σ τ) (hX : keepX σ σ') (h1 : σ' 1 1 = σ 1 1) (hM : keepM τ τ') (h2 : τ' 0 6 = τ 0 6) : Inv σ' τ' := Inv_size h hX hM (by rw [h1, h2]; exact h.1.1)
theorem Inv_empty {σ τ σ' τ' : jS} (h : Inv σ τ) (hX : keepX σ σ') (h1 : σ' 1 1 = 0) (hM : keepM τ τ') (h2 : τ' 0 6 = 0) : Inv σ' τ' := Inv_size h hX hM ⟨0, by omega, h1, h2⟩
/-- one bit set, one taken -/
theorem bt_one (p i : Nat) (hp : p < 32) : bt ((1 : Int32) <<< (nI p &&& 31)) i = decide (i = p) := by
  rcases Nat.lt_or_ge i 32 with h | h
  · rw [b_shl p hp 1 h]
    by_cases e : i = p
    · subst e
      simp
      decide
    · rcases Nat.lt_or_ge i p with q | q
      · simp [e, Nat.not_le.mpr q]
      · have h1 : bt 1 (i - p) = false := (by decide +kernel : ∀ j, j < 32 → 0 < j → bt 1 j = false) (i - p) (by omega) (by omega)
        simp [e, h1]
  · rw [b_big h, decide_eq_false (by omega)]
theorem bt_shr (x : Int32) (p : Nat) (hp : p < 32) : (x >>> (nI p &&& 31)) &&& 1 = 0 ↔ bt x p = false := by
  have e1 : ∀ i, i < 32 → bt ((x >>> (nI p &&& 31)) &&& 1) i = (decide (i = 0) && bt x p) := by
    intro i hi
    rw [b_and, b_sshr p hp x hi]
    by_cases h0 : i = 0
    · subst h0
      simp [hp]
      intro _
      decide
    · have h1 : bt 1 i = false := (by decide +kernel : ∀ j, j < 32 → 0 < j → bt 1 j = false) i hi (by omega)
      simp [h0, h1]
  constructor
  · intro h
    have := e1 0 (by omega)
    rw [h, b_0] at this
    simpa using this.symm
  · intro h
    apply b_ext
    intro i hi
    rw [e1 i hi, h, b_0]
    simp
theorem bitsR_set {x : Int32} {f g : Nat → Int32} (h : bitsR x f) {p : Nat} (hp : p < 16) (h1 : g p = 1) (h2 : ∀ q, q < 16 → q ≠ p → g q = f q) : bitsR (x ||| ((1 : Int32) <<< (nI p &&& 31))) g := by
  refine ⟨fun q hq => ?_, fun q hq => ?_⟩
  · rw [b_or, bt_one p q (by omega)]
    by_cases e : q = p
    · subst e
      simp [h1]
    · rw [h2 q hq e]
      exact ⟨(h.1 q hq).1, by simp [e, (h.1 q hq).2]⟩
  · rw [b_or, bt_one p q (by omega), h.2 q hq]
    simp
    omega
theorem bitsR_off {x : Int32} {f g : Nat → Int32} (h : bitsR x f) {p : Nat} (hp : p < 16) (h1 : g p = 0) (h2 : ∀ q, q < 16 → q ≠ p → g q = f q) : bitsR (x &&& (((1 : Int32) <<< (nI p &&& 31)) ^^^ (-1))) g := by
  refine ⟨fun q hq => ?_, fun q hq => ?_⟩
  · rw [b_and, b_xor, bt_one p q (by omega), b_m1 q (by omega)]
    by_cases e : q = p
    · subst e
      simp [h1]
    · rw [h2 q hq e]
      exact ⟨(h.1 q hq).1, by simp [e, (h.1 q hq).2]⟩
  · rw [b_and, h.2 q hq]
    simp
theorem bitsR_ext {x y : Int32} {f : Nat → Int32} (h : bitsR x f) (g : bitsR y f) : x = y := by
  apply b_ext
  intro i hi
  rcases Nat.lt_or_ge i 16 with q | q
  · rw [(h.1 i q).2, (g.1 i q).2]
  · rw [h.2 i q, g.2 i q]
theorem bitsR_z {x : Int32} {f : Nat → Int32} (h : bitsR x f) {p : Nat} (hp : p < 16) : (x >>> (nI p &&& 31)) &&& 1 = 0 ↔ f p = 0 := by
  rw [bt_shr x p (by omega), (h.1 p hp).2]
  rcases (h.1 p hp).1 with e | e <;> rw [e] <;> decide
/-! ===== one place of the row changed, in both worlds ===== -/
theorem cityW0_upd {t : Nat → Int32} (h : cityW0 t) {k : Nat} {v : Int32} (hv : rk k v) : cityW0 (upd t k v) := by
  intro i hi
  by_cases e : i = k
  · subst e
    rw [pk_us]
    exact hv
  · rw [pk_un e]
    exact h i hi
theorem slot_ge {c i : Nat} {m : Int32} (h : validI m i) (e : cellX c i = c) : 5 ≤ slotX i := by
  unfold validI at h
  have h1 : 209 ≤ i := by
    unfold cellX at e
    split at e
    · omega
    · split at e
      · omega
      · split at e
        · omega
        · by_cases h8 : i = 208
          · rw [if_pos h8] at e
            omega
          · omega
  unfold slotX
  rw [if_neg (by omega), if_neg (by omega), if_neg (by omega), if_neg (by omega)]
  split
  · omega
  · split <;> omega
theorem js_low {c i k : Nat} {σ : jS} {v m : Int32} (h : validI m i) (hk : k < 5) : js σ c k v (cellX c i) (slotX i) = σ (cellX c i) (slotX i) := by
  by_cases e : cellX c i = c
  · have := slot_ge h e
    rw [e, js_k σ v (by omega)]
  · rw [js_c σ _ v e]
theorem cityR_put {c : Nat} {σ : jS} {t : Nat → Int32} (h : cityR c σ t) {k : Nat} {v : Int32} (hk : validI (t 208) k) (h8 : k ≠ 208) : cityR c (js σ (cellX c k) (slotX k) v) (upd t k v) := by
  have h48 : ¬ (48 ≤ k ∧ k < 64) ∧ ¬ k < 16 := by unfold validI at hk; omega
  have hb : ∀ j, j = 3 ∨ j = 4 → js σ (cellX c k) (slotX k) v c j = σ c j := by
    intro j hj
    by_cases e : cellX c k = c
    · have := slot_ge hk e
      rw [e]
      exact js_k σ v (by omega)
    · rw [js_c σ _ v (Ne.symm e)]
  refine ⟨?_, ?_, fun i hi => ?_⟩
  · rw [hb 3 (Or.inl rfl)]
    exact bitsR_congr h.1 (fun p hp => pk_un (by omega))
  · rw [hb 4 (Or.inr rfl)]
    exact bitsR_congr h.2.1 (fun p hp => pk_un (by omega))
  · rw [pk_un (show 208 ≠ k by omega)] at hi
    by_cases e : i = k
    · subst e
      rw [js_at, pk_us]
    · rw [pk_un e]
      by_cases e1 : cellX c i = cellX c k
      · rw [e1, js_k σ v (fun e2 => e (slot_inj hi hk e1 e2)), ← e1]
        exact h.2.2 i hi
      · rw [js_c σ _ v e1]
        exact h.2.2 i hi
theorem rk_n {i n : Nat} (h : n ≤ (if i < 16 then 1 else if i < 32 then 999999999 else if i < 48 then 99999 else if i < 64 then 1 else if i < 112 then 15 else if i < 136 then 999999 else if i < 160 then 99 else if i < 184 then 9999 else if i < 208 then 9999999 else if i = 208 then 24 else if i = 209 then 999999999 else if i = 210 then 9999 else 65535)) : rk i (nI n) := ⟨n, rfl, h⟩
theorem cityR_beats {c : Nat} {σ : jS} {t : Nat → Int32} (h : cityR c σ t) {p : Nat} (hp : p < 16) (v : Int32) : cityR c (js σ (c + 1) p v) (upd t (16 + p) v) := by
  have h1 := cityR_put h (k := 16 + p) (v := v) (Or.inl ⟨by omega, by omega⟩) (by omega)
  have e1 : cellX c (16 + p) = c + 1 := by
    unfold cellX
    split <;> (try omega) <;> split <;> omega
  have e2 : slotX (16 + p) = p := by
    unfold slotX
    split <;> (try omega) <;> split <;> omega
  rw [e1, e2] at h1
  exact h1
theorem cityR_beats_at {c : Nat} {σ : jS} {t : Nat → Int32} (h : cityR c σ t) {p : Nat} (hp : p < 16) : σ (c + 1) p = t (16 + p) := by
  have h1 := h.2.2 (16 + p) (Or.inl ⟨by omega, by omega⟩)
  have e1 : cellX c (16 + p) = c + 1 := by
    unfold cellX
    split <;> (try omega) <;> split <;> omega
  have e2 : slotX (16 + p) = p := by
    unfold slotX
    split <;> (try omega) <;> split <;> omega
  rw [e1, e2] at h1
  exact h1
theorem cityR_age {c : Nat} {σ : jS} {t : Nat → Int32} (h : cityR c σ t) {p : Nat} (hp : p < 16) (v : Int32) : cityR c (js σ (c + 2) p v) (upd t (32 + p) v) := by
  have h1 := cityR_put h (k := 32 + p) (v := v) (Or.inl ⟨by omega, by omega⟩) (by omega)
  have e1 : cellX c (32 + p) = c + 2 := by
    unfold cellX
    split <;> (try omega) <;> split <;> omega
  have e2 : slotX (32 + p) = p := by
    unfold slotX
    split <;> (try omega) <;> split <;> omega
  rw [e1, e2] at h1
  exact h1
theorem cityR_age_at {c : Nat} {σ : jS} {t : Nat → Int32} (h : cityR c σ t) {p : Nat} (hp : p < 16) : σ (c + 2) p = t (32 + p) := by
  have h1 := h.2.2 (32 + p) (Or.inl ⟨by omega, by omega⟩)
  have e1 : cellX c (32 + p) = c + 2 := by
    unfold cellX
    split <;> (try omega) <;> split <;> omega
  have e2 : slotX (32 + p) = p := by
    unfold slotX
    split <;> (try omega) <;> split <;> omega
  rw [e1, e2] at h1
  exact h1
theorem cityR_from_at {c : Nat} {σ : jS} {t : Nat → Int32} (h : cityR c σ t) {l : Nat} (hl : l < 24) (hn : nI l < t 208) : σ (c + 4) l = t (64 + l) := by
  have em : (64 + l - 64) % 24 = l := by omega
  have h1 := h.2.2 (64 + l) (Or.inr (Or.inl ⟨by omega, by omega, by rw [em]; exact hn⟩))
  have e1 : cellX c (64 + l) = c + 4 := by
    unfold cellX
    rw [if_neg (by omega), if_neg (by omega), if_pos (by omega)]
    omega
  have e2 : slotX (64 + l) = l := by
    unfold slotX
    rw [if_neg (by omega), if_neg (by omega), if_pos (by omega)]
    exact em
  rw [e1, e2] at h1
  exact h1
theorem cityR_to_at {c : Nat} {σ : jS} {t : Nat → Int32} (h : cityR c σ t) {l : Nat} (hl : l < 24) (hn : nI l < t 208) : σ (c + 5) l = t (88 + l) := by
  have em : (88 + l - 64) % 24 = l := by omega
  have h1 := h.2.2 (88 + l) (Or.inr (Or.inl ⟨by omega, by omega, by rw [em]; exact hn⟩))
  have e1 : cellX c (88 + l) = c + 5 := by
    unfold cellX
    rw [if_neg (by omega), if_neg (by omega), if_pos (by omega)]
    omega
  have e2 : slotX (88 + l) = l := by
    unfold slotX
    rw [if_neg (by omega), if_neg (by omega), if_pos (by omega)]
    exact em
  rw [e1, e2] at h1
  exact h1
theorem cityR_lent_at {c : Nat} {σ : jS} {t : Nat → Int32} (h : cityR c σ t) {l : Nat} (hl : l < 24) (hn : nI l < t 208) : σ (c + 6) l = t (112 + l) := by
  have em : (112 + l - 64) % 24 = l := by omega
  have h1 := h.2.2 (112 + l) (Or.inr (Or.inl ⟨by omega, by omega, by rw [em]; exact hn⟩))
  have e1 : cellX c (112 + l) = c + 6 := by
    unfold cellX
    rw [if_neg (by omega), if_neg (by omega), if_pos (by omega)]
    omega
  have e2 : slotX (112 + l) = l := by
    unfold slotX
    rw [if_neg (by omega), if_neg (by omega), if_pos (by omega)]
    exact em
  rw [e1, e2] at h1
  exact h1
theorem cityR_rate_at {c : Nat} {σ : jS} {t : Nat → Int32} (h : cityR c σ t) {l : Nat} (hl : l < 24) (hn : nI l < t 208) : σ (c + 7) l = t (136 + l) := by
  have em : (136 + l - 64) % 24 = l := by omega
  have h1 := h.2.2 (136 + l) (Or.inr (Or.inl ⟨by omega, by omega, by rw [em]; exact hn⟩))
  have e1 : cellX c (136 + l) = c + 7 := by
    unfold cellX
    rw [if_neg (by omega), if_neg (by omega), if_pos (by omega)]
    omega
  have e2 : slotX (136 + l) = l := by
    unfold slotX
    rw [if_neg (by omega), if_neg (by omega), if_pos (by omega)]
    exact em
  rw [e1, e2] at h1
  exact h1
theorem cityR_paid_at {c : Nat} {σ : jS} {t : Nat → Int32} (h : cityR c σ t) {l : Nat} (hl : l < 24) (hn : nI l < t 208) : σ (c + 8) l = t (160 + l) := by
  have em : (160 + l - 64) % 24 = l := by omega
  have h1 := h.2.2 (160 + l) (Or.inr (Or.inl ⟨by omega, by omega, by rw [em]; exact hn⟩))
  have e1 : cellX c (160 + l) = c + 8 := by
    unfold cellX
    rw [if_neg (by omega), if_neg (by omega), if_pos (by omega)]
    omega
  have e2 : slotX (160 + l) = l := by
    unfold slotX
    rw [if_neg (by omega), if_neg (by omega), if_pos (by omega)]
    exact em
  rw [e1, e2] at h1
  exact h1
theorem cityR_due_at {c : Nat} {σ : jS} {t : Nat → Int32} (h : cityR c σ t) {l : Nat} (hl : l < 24) (hn : nI l < t 208) : σ (c + 9) l = t (184 + l) := by
  have em : (184 + l - 64) % 24 = l := by omega
  have h1 := h.2.2 (184 + l) (Or.inr (Or.inl ⟨by omega, by omega, by rw [em]; exact hn⟩))
  have e1 : cellX c (184 + l) = c + 9 := by
    unfold cellX
    rw [if_neg (by omega), if_neg (by omega), if_pos (by omega)]
    omega
  have e2 : slotX (184 + l) = l := by
    unfold slotX
    rw [if_neg (by omega), if_neg (by omega), if_pos (by omega)]
    exact em
  rw [e1, e2] at h1
  exact h1
theorem cityR_due {c : Nat} {σ : jS} {t : Nat → Int32} (h : cityR c σ t) {l : Nat} (hl : l < 24) (hn : nI l < t 208) (v : Int32) : cityR c (js σ (c + 9) l v) (upd t (184 + l) v) := by
  have em : (184 + l - 64) % 24 = l := by omega
  have h1 := cityR_put h (k := 184 + l) (v := v) (Or.inr (Or.inl ⟨by omega, by omega, by rw [em]; exact hn⟩)) (by omega)
  have e1 : cellX c (184 + l) = c + 9 := by
    unfold cellX
    rw [if_neg (by omega), if_neg (by omega), if_pos (by omega)]
    omega
  have e2 : slotX (184 + l) = l := by
    unfold slotX
    rw [if_neg (by omega), if_neg (by omega), if_pos (by omega)]
    exact em
  rw [e1, e2] at h1
  exact h1
theorem cityR_parish {c : Nat} {σ : jS} {t : Nat → Int32} (h : cityR c σ t) (v : Int32) : cityR c (js σ c 5 v) (upd t 209 v) := cityR_put h (k := 209) (v := v) (Or.inr (Or.inr ⟨by omega, by omega⟩)) (by omega)
theorem cityR_parish_at {c : Nat} {σ : jS} {t : Nat → Int32} (h : cityR c σ t) : σ c 5 = t 209 := h.2.2 209 (Or.inr (Or.inr ⟨by omega, by omega⟩))
theorem cityR_day {c : Nat} {σ : jS} {t : Nat → Int32} (h : cityR c σ t) (v : Int32) : cityR c (js σ c 6 v) (upd t 210 v) := cityR_put h (k := 210) (v := v) (Or.inr (Or.inr ⟨by omega, by omega⟩)) (by omega)
theorem cityR_day_at {c : Nat} {σ : jS} {t : Nat → Int32} (h : cityR c σ t) : σ c 6 = t 210 := h.2.2 210 (Or.inr (Or.inr ⟨by omega, by omega⟩))
theorem cityR_lot {c : Nat} {σ : jS} {t : Nat → Int32} (h : cityR c σ t) (v : Int32) : cityR c (js σ c 7 v) (upd t 211 v) := cityR_put h (k := 211) (v := v) (Or.inr (Or.inr ⟨by omega, by omega⟩)) (by omega)
theorem cityR_lot_at {c : Nat} {σ : jS} {t : Nat → Int32} (h : cityR c σ t) : σ c 7 = t 211 := h.2.2 211 (Or.inr (Or.inr ⟨by omega, by omega⟩))
theorem cityR_many_at {c : Nat} {σ : jS} {t : Nat → Int32} (h : cityR c σ t) : σ (c + 3) 6 = t 208 := h.2.2 208 (Or.inr (Or.inr ⟨by omega, by omega⟩))
theorem cityR_off {c : Nat} {σ : jS} {t : Nat → Int32} (h : cityR c σ t) {p : Nat} (hp : p < 16) : cityR c (js σ c 4 (σ c 4 &&& (((1 : Int32) <<< (nI p &&& 31)) ^^^ (-1)))) (upd t (48 + p) 0) := by
  refine ⟨?_, ?_, fun i hi => ?_⟩
  · rw [js_k σ _ (by omega)]
    exact bitsR_congr h.1 (fun q hq => pk_un (by omega))
  · rw [js_at]
    exact bitsR_off h.2.1 hp pk_us (fun q _ hq => pk_un (by omega))
  · rw [pk_un (show 208 ≠ 48 + p by omega)] at hi
    have h9 : i ≠ 48 + p := by unfold validI at hi; omega
    rw [pk_un h9, ← h.2.2 i hi]
    exact js_low hi (by omega)
theorem cityR_told {c : Nat} {σ : jS} {t : Nat → Int32} (h : cityR c σ t) {p : Nat} (hp : p < 16) : cityR c (js (js σ c 3 (σ c 3 ||| ((1 : Int32) <<< (nI p &&& 31)))) c 4 (σ c 4 ||| ((1 : Int32) <<< (nI p &&& 31)))) (upd (upd t p 1) (48 + p) 1) := by
  refine ⟨?_, ?_, fun i hi => ?_⟩
  · rw [js_k _ _ (by omega), js_at]
    exact bitsR_set h.1 hp (by rw [pk_un (by omega), pk_us]) (fun q h16 hq => by rw [pk_un (by omega), pk_un hq])
  · rw [js_at]
    exact bitsR_set h.2.1 hp pk_us (fun q h16 hq => by rw [pk_un (by omega), pk_un (by omega)])
  · rw [pk_un (show 208 ≠ 48 + p by omega), pk_un (show 208 ≠ p by omega)] at hi
    have h9 : i ≠ 48 + p ∧ i ≠ p := by unfold validI at hi; omega
    rw [pk_un h9.1, pk_un h9.2, ← h.2.2 i hi, js_low hi (by omega), js_low hi (by omega)]
