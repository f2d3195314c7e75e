/-! ===== how many bits are set ===== -/
def fN (k : Nat) : Nat :=
  let y1 := Nat.sub k (Nat.land (Nat.div k 2) 1431655765)
  let y2 := Nat.add (Nat.land y1 858993459) (Nat.land (Nat.div y1 4) 858993459)
  let y3 := Nat.land (Nat.add y2 (Nat.div y2 16)) 252645135
  let y4 := Nat.add y3 (Nat.div y3 256)
  let y5 := Nat.add y4 (Nat.div y4 65536)
  Nat.land y5 63
theorem fN_a : ∀ a, a < 64 → ∀ b, b < 256 → fN (Nat.add (Nat.mul 256 a) b) = Nat.add (fN a) (fN b) := by decide +kernel
theorem fN_b : ∀ a, a < 64 → ∀ b, b < 256 → fN (Nat.add (Nat.mul 256 (Nat.add 64 a)) b) = Nat.add (fN (Nat.add 64 a)) (fN b) := by decide +kernel
theorem fN_c : ∀ a, a < 64 → ∀ b, b < 256 → fN (Nat.add (Nat.mul 256 (Nat.add 128 a)) b) = Nat.add (fN (Nat.add 128 a)) (fN b) := by decide +kernel
theorem fN_d : ∀ a, a < 64 → ∀ b, b < 256 → fN (Nat.add (Nat.mul 256 (Nat.add 192 a)) b) = Nat.add (fN (Nat.add 192 a)) (fN b) := by decide +kernel
theorem fN_two {a b : Nat} (ha : a < 256) (hb : b < 256) : fN (256 * a + b) = fN a + fN b := by
  rcases (show a < 64 ∨ (64 ≤ a ∧ a < 128) ∨ (128 ≤ a ∧ a < 192) ∨ 192 ≤ a by omega) with h | h | h | h
  · exact fN_a a h b hb
  · have := fN_b (a - 64) (by omega) b hb
    rw [show Nat.add 64 (a - 64) = a from by show 64 + (a - 64) = a; omega] at this
    exact this
  · have := fN_c (a - 128) (by omega) b hb
    rw [show Nat.add 128 (a - 128) = a from by show 128 + (a - 128) = a; omega] at this
    exact this
  · have := fN_d (a - 192) (by omega) b hb
    rw [show Nat.add 192 (a - 192) = a from by show 192 + (a - 192) = a; omega] at this
    exact this
theorem fN_8 : ∀ a, a < 256 → fN a = fa_cnt (fun i => a.testBit i) 8 := by decide +kernel
theorem fN_16 {k : Nat} (hk : k < 65536) : fN k = fa_cnt (fun i => k.testBit i) 16 := by
  have h1 : k = 256 * (k / 256) + k % 256 := by omega
  have h2 : k / 256 < 256 := by omega
  have h3 : k % 256 < 256 := by omega
  rw [h1, fN_two h2 h3, fN_8 _ h2, fN_8 _ h3, ← h1]
  have e1 : ∀ i, i < 8 → (k % 256).testBit i = k.testBit i := by
    intro i hi
    rw [show (256 : Nat) = 2 ^ 8 from rfl, Nat.testBit_mod_two_pow]
    simp [hi]
  have e2 : ∀ i, (k / 256).testBit i = k.testBit (8 + i) := by
    intro i
    rw [show (256 : Nat) = 2 ^ 8 from rfl, ← Nat.shiftRight_eq_div_pow, Nat.testBit_shiftRight]
  have e3 : ∀ m, fa_cnt (fun i => k.testBit i) (8 + m) = fa_cnt (fun i => k.testBit i) 8 + fa_cnt (fun i => (k / 256).testBit i) m := by
    intro m
    induction m with
    | zero => rfl
    | succ m ih =>
      cases h : k.testBit (8 + m) with
      | true => rw [show 8 + (m + 1) = 8 + m + 1 by omega, fa_cnt_yes (p := fun i => k.testBit i) h, fa_cnt_yes (p := fun i => (k / 256).testBit i) (by rw [e2]; exact h), ih]; omega
      | false => rw [show 8 + (m + 1) = 8 + m + 1 by omega, fa_cnt_no (p := fun i => k.testBit i) h, fa_cnt_no (p := fun i => (k / 256).testBit i) (by rw [e2]; exact h), ih]
  rw [show (16 : Nat) = 8 + 8 from rfl, e3 8, fa_cnt_cong (p := fun i => (k % 256).testBit i) (q := fun i => k.testBit i) (fun i hi => e1 i hi)]
  omega
theorem bt_nat {k i : Nat} (hk : k < 65536) : bt (nI k) i = k.testBit i := by
  show (BitVec.ofNat 32 k).getLsbD i = _
  rw [BitVec.getLsbD_ofNat]
  by_cases h : i < 32
  · simp [h]
  · have : k.testBit i = false := Nat.testBit_lt_two_pow (Nat.lt_of_lt_of_le (show k < 2 ^ 16 by omega) (Nat.pow_le_pow_right (by omega) (by omega)))
    simp [h, this]
theorem j_bits (F : Nat) (σ : jS) {x : Int32} (hx : ∀ q, 16 ≤ q → bt x q = false) : mJ6_bitCount_0f7a4 F x σ = some (nI (fa_cnt (bt x) 16)) := by
  have e : x = x &&& 65535 := by
    apply b_ext
    intro i hi
    rw [b_and, b_65535]
    by_cases h : i < 16
    · simp [h]
    · rw [hx i (by omega)]; rfl
  obtain ⟨k, hk, ek⟩ := nx_mask x
  rw [ek] at e
  subst e
  have ec : fa_cnt (bt (nI k)) 16 = fN k := by
    rw [fN_16 hk]
    exact fa_cnt_cong (fun i _ => bt_nat hk)
  rw [ec]
  unfold mJ6_bitCount_0f7a4
  simp only [ltE]
  have h1 : (((nI k).toUInt32 >>> ((1 : Int32).toUInt32 &&& Int32.toUInt32 31)).toInt32) = nI (k / 2) := pk_ushrN (by omega) 1 1 (by decide)
  have l1 : Nat.land (k / 2) 1431655765 ≤ k := Nat.le_trans (show k / 2 &&& 1431655765 ≤ k / 2 from Nat.and_le_left) (by omega)
  have s1 : nI k - (nI (k / 2) &&& (1431655765 : Int32)) = nI (Nat.sub k (Nat.land (Nat.div k 2) 1431655765)) := by
    show nI k - (nI (k / 2) &&& nI 1431655765) = _
    rw [fa_and]
    exact pk_sub l1
  rw [h1, s1]
  have b1 : Nat.sub k (Nat.land (Nat.div k 2) 1431655765) < 65536 := Nat.lt_of_le_of_lt (Nat.sub_le _ _) hk
  generalize hy1 : Nat.sub k (Nat.land (Nat.div k 2) 1431655765) = y1 at b1
  have h2 : (((nI y1).toUInt32 >>> ((2 : Int32).toUInt32 &&& Int32.toUInt32 31)).toInt32) = nI (y1 / 4) := pk_ushrN (by omega) 2 2 (by decide)
  have s2 : (nI y1 &&& (858993459 : Int32)) + (nI (y1 / 4) &&& (858993459 : Int32)) = nI (Nat.add (Nat.land y1 858993459) (Nat.land (Nat.div y1 4) 858993459)) := by
    show (nI y1 &&& nI 858993459) + (nI (y1 / 4) &&& nI 858993459) = _
    rw [fa_and, fa_and, nI_add]
    rfl
  rw [h2, s2]
  have b2 : Nat.add (Nat.land y1 858993459) (Nat.land (Nat.div y1 4) 858993459) < 131072 := by
    have c1 : Nat.land y1 858993459 ≤ y1 := Nat.and_le_left
    have c2 : Nat.land (Nat.div y1 4) 858993459 ≤ Nat.div y1 4 := Nat.and_le_left
    have c3 : Nat.div y1 4 ≤ y1 := Nat.div_le_self _ _
    show Nat.land y1 858993459 + Nat.land (Nat.div y1 4) 858993459 < 131072
    omega
  generalize hy2 : Nat.add (Nat.land y1 858993459) (Nat.land (Nat.div y1 4) 858993459) = y2 at b2
  have h3 : (((nI y2).toUInt32 >>> ((4 : Int32).toUInt32 &&& Int32.toUInt32 31)).toInt32) = nI (y2 / 16) := pk_ushrN (by omega) 4 4 (by decide)
  have s3 : (nI y2 + nI (y2 / 16)) &&& (252645135 : Int32) = nI (Nat.land (Nat.add y2 (Nat.div y2 16)) 252645135) := by
    show (nI y2 + nI (y2 / 16)) &&& nI 252645135 = _
    rw [nI_add, fa_and]
    rfl
  rw [h3, s3]
  have b3 : Nat.land (Nat.add y2 (Nat.div y2 16)) 252645135 < 262144 := by
    have c1 : Nat.land (Nat.add y2 (Nat.div y2 16)) 252645135 ≤ Nat.add y2 (Nat.div y2 16) := Nat.and_le_left
    have c2 : Nat.div y2 16 ≤ y2 := Nat.div_le_self _ _
    have c3 : Nat.add y2 (Nat.div y2 16) = y2 + Nat.div y2 16 := rfl
    omega
  generalize hy3 : Nat.land (Nat.add y2 (Nat.div y2 16)) 252645135 = y3 at b3
  have h4 : (((nI y3).toUInt32 >>> ((8 : Int32).toUInt32 &&& Int32.toUInt32 31)).toInt32) = nI (y3 / 256) := pk_ushrN (by omega) 8 8 (by decide)
  rw [h4, nI_add]
  have h5 : (((nI (y3 + y3 / 256)).toUInt32 >>> ((16 : Int32).toUInt32 &&& Int32.toUInt32 31)).toInt32) = nI ((y3 + y3 / 256) / 65536) := pk_ushrN (by omega) 16 16 (by decide)
  rw [h5, nI_add]
  have s6 : nI (y3 + y3 / 256 + (y3 + y3 / 256) / 65536) &&& (63 : Int32) = nI (Nat.land (Nat.add (Nat.add y3 (Nat.div y3 256)) (Nat.div (Nat.add y3 (Nat.div y3 256)) 65536)) 63) := by
    show nI _ &&& nI 63 = _
    rw [fa_and]
    rfl
  rw [s6]
  unfold fN
  simp only [hy1, hy2, hy3]
theorem cnt_off {x : Int32} {p : Nat} (hp : p < 16) (h : bt x p = true) : fa_cnt (bt (x &&& (((1 : Int32) <<< (nI p &&& 31)) ^^^ (-1)))) 16 + 1 = fa_cnt (bt x) 16 := by
  have hb : ∀ q, q < 16 → bt (x &&& (((1 : Int32) <<< (nI p &&& 31)) ^^^ (-1))) q = (decide (q ≠ p) && bt x q) := by
    intro q hq
    rw [b_and, b_xor, bt_one p q (by omega), b_m1 q (by omega)]
    by_cases e : q = p
    · subst e; simp
    · simp [e]
  have key : ∀ m, m ≤ 16 → fa_cnt (bt (x &&& (((1 : Int32) <<< (nI p &&& 31)) ^^^ (-1)))) m + (if p < m then 1 else 0) = fa_cnt (bt x) m := by
    intro m
    induction m with
    | zero => intro _; rfl
    | succ m ih =>
      intro hm
      have ih := ih (by omega)
      by_cases e : m = p
      · subst e
        rw [fa_cnt_yes h, fa_cnt_no (by rw [hb m hp]; simp), if_pos (by omega)]
        rw [if_neg (by omega)] at ih
        omega
      · have c : (if p < m + 1 then 1 else 0) = (if p < m then 1 else 0) := by
          by_cases c : p < m
          · rw [if_pos (by omega), if_pos c]
          · rw [if_neg (by omega), if_neg c]
        cases hx : bt x m with
        | true => rw [fa_cnt_yes hx, fa_cnt_yes (by rw [hb m (by omega), hx]; simp [e]), c]; omega
        | false => rw [fa_cnt_no hx, fa_cnt_no (by rw [hb m (by omega), hx]; simp), c]; exact ih
  have := key 16 (by omega)
  rw [if_pos hp] at this
  exact this
