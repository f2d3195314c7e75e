/-! ===== PURE: literals, order, states ===== -/
theorem q0 : (0 : Int32) = nI 0 := rfl
theorem q1 : (1 : Int32) = nI 1 := rfl
theorem jin_nI {i n : Nat} (hi : i < n) (hn : n < 2 ^ 31) : jin (nI i) n = true := by
  unfold jin
  rw [nI_clamp (by omega)]
  simp [nI_pos (show i < 2 ^ 31 by omega), hi]
theorem js_at (σ : jS) (c k : Nat) (v : Int32) : js σ c k v c k = v := by simp [js, va_up, upd]
theorem js_k (σ : jS) {c k j : Nat} (v : Int32) (h : j ≠ k) : js σ c k v c j = σ c j := by simp [js, va_up, upd, h]
theorem js_c (σ : jS) {c d : Nat} (k : Nat) (v : Int32) (h : d ≠ c) : js σ c k v d = σ d := by
  funext j
  simp [js, va_up, h]
theorem js_row (σ : jS) (c k : Nat) (v : Int32) : js σ c k v c = upd (σ c) k v := by
  funext j
  simp [js, va_up]
/-- 1 if it lies between, else 0 -/
def inr (x a b : Int32) : Int32 := if x < a then 0 else if b < x then 0 else 1
theorem isW (F : Nat) (x a b : Int32) (σ : jS) : mX11_isWithin F x a b σ = some (inr x a b) := by
  unfold mX11_isWithin inr
  by_cases h : x < a
  · simp [h]
  · by_cases h2 : b < x <;> simp [h, h2]
theorem isI (F : Nat) (x a b : Int32) (σ : jS) : mX12_in F x a b σ = some (inr x a b) := by
  unfold mX12_in inr
  by_cases h : x < a
  · simp [h]
  · by_cases h2 : b < x <;> simp [h, h2]
theorem inr_c (x a b : Int32) : inr x a b = 0 ∨ (inr x a b = 1 ∧ ¬ x < a ∧ ¬ b < x) := by
  unfold inr
  by_cases h : x < a
  · simp [h]
  · by_cases h2 : b < x <;> simp [h, h2]
theorem inr_nat {x : Int32} {a b : Nat} (hb : b < 2 ^ 31) (ha : a ≤ b) (h1 : ¬ x < nI a) (h2 : ¬ nI b < x) : ∃ p, a ≤ p ∧ p ≤ b ∧ x = nI p := by
  rw [fa_lt, nI_toInt (by omega)] at h1 h2
  refine ⟨x.toInt.toNat, by omega, by omega, ?_⟩
  rw [fa_eq, nI_toInt (by omega)]
  omega
/-! ===== the state of the city, in the reference's row ===== -/
def bitsR (x : Int32) (f : Nat → Int32) : Prop := (∀ p, p < 16 → (f p = 0 ∨ f p = 1) ∧ bt x p = decide (f p = 1)) ∧ ∀ p, 16 ≤ p → bt x p = false
/-- what may stand at a place of the row -/
def rk (i : Nat) (v : Int32) : Prop := ∃ n : Nat, v = nI n ∧ n ≤ (if i < 16 then 1 else if i < 32 then 999999999 else if i < 48 then 99999 else if i < 64 then 1 else if i < 112 then 15 else if i < 136 then 999999 else if i < 160 then 99 else if i < 184 then 9999 else if i < 208 then 9999999 else if i = 208 then 24 else if i = 209 then 999999999 else if i = 210 then 9999 else 65535)
def cityW0 (t : Nat → Int32) : Prop := ∀ i, i < 212 → rk i (t i)
def aliveW (t : Nat → Int32) : Prop := ∀ p, p < 16 → t (48 + p) = 1 → t p = 1 ∧ t (16 + p) ≠ 0
def cityW (t : Nat → Int32) : Prop := cityW0 t ∧ aliveW t
def cellX (c i : Nat) : Nat := if i < 32 then c + 1 else if i < 48 then c + 2 else if i < 208 then c + 4 + (i - 64) / 24 else if i = 208 then c + 3 else c
def slotX (i : Nat) : Nat := if i < 32 then i - 16 else if i < 48 then i - 32 else if i < 208 then (i - 64) % 24 else if i = 208 then 6 else if i = 209 then 5 else if i = 210 then 6 else 7
def validI (m : Int32) (i : Nat) : Prop := (16 ≤ i ∧ i < 48) ∨ (64 ≤ i ∧ i < 208 ∧ nI ((i - 64) % 24) < m) ∨ (208 ≤ i ∧ i < 212)
def cityR (c : Nat) (σ : jS) (t : Nat → Int32) : Prop := bitsR (σ c 3) t ∧ bitsR (σ c 4) (fun p => t (48 + p)) ∧ ∀ i, validI (t 208) i → σ (cellX c i) (slotX i) = t i
theorem cellX_lt {c i : Nat} : c ≤ cellX c i ∧ cellX c i < c + 10 := by
  unfold cellX
  split <;> try omega
  split <;> try omega
  split <;> try omega
  split <;> omega
theorem slot_inj {c i k : Nat} {m : Int32} (h1 : validI m i) (h2 : validI m k) (e1 : cellX c i = cellX c k) (e2 : slotX i = slotX k) : i = k := by
  unfold validI at h1 h2
  unfold cellX at e1
  unfold slotX at e2
  split at e1 <;> split at e1 <;> (try split at e1) <;> (try split at e1) <;> (try split at e1) <;> (try split at e1) <;> (try split at e1) <;> (try split at e1) <;> simp_all <;> first | omega | (split at e2 <;> (try split at e2) <;> (try split at e2) <;> (try split at e2) <;> omega)
def tapeR (σ τ : jS) : Prop := (∃ n, n ≤ 260 ∧ σ 1 1 = nI n ∧ τ 0 6 = nI n) ∧ ∀ i, i < 260 → σ 2 i = τ 6 i &&& 255
def keptR (σ τ : jS) : Prop := (σ 0 13 = 0 ∧ τ 0 50 = 0) ∨ (σ 0 13 = 1 ∧ τ 0 50 = 1 ∧ cityW (τ 3) ∧ cityR 13 σ (τ 3))
def routR (σ τ : jS) : Prop := (∀ i, i < 384 → σ 34 i = τ 4 i ∧ ∃ d, d < 7 ∧ τ 4 i = nI d) ∧ ∀ p, p < 16 → σ 35 p = τ 5 p
theorem cityR_congr {c : Nat} {σ σ' : jS} {t : Nat → Int32} (h : cityR c σ t) (e : ∀ j, j < 10 → σ' (c + j) = σ (c + j)) : cityR c σ' t := by
  have e0 : σ' c = σ c := e 0 (by omega)
  obtain ⟨h1, h2, h3⟩ := h
  refine ⟨by rw [e0]; exact h1, by rw [e0]; exact h2, fun i hi => ?_⟩
  have hc := cellX_lt (c := c) (i := i)
  have e1 := e (cellX c i - c) (by omega)
  rw [show c + (cellX c i - c) = cellX c i by omega] at e1
  rw [e1]
  exact h3 i hi
