def lt {α : Type} {β : Type} (a : α) (f : α → β) : β := f a
def kX (c : Nat) : Nat := [11, 10, 99, 0, 99, 99, 6, 99, 99, 99, 99, 99, 99, 0, 99, 99, 6, 99, 99, 99, 99, 99, 99, 0, 99, 99, 6, 99, 99, 99, 99, 99, 99, 8, 99, 99, 99, 5, 6, 99, 99, 99, 99, 99, 99, 4, 3, 99, 99, 99, 99, 99, 3, 99, 99, 99, 99, 99, 2, 99, 7, 99, 1, 99, 99, 99, 99, 9, 99, 99].getD c 98
def lX (c : Nat) : Nat := [0, 0, 260, 0, 16, 16, 0, 24, 24, 24, 24, 24, 24, 0, 16, 16, 0, 24, 24, 24, 24, 24, 24, 0, 16, 16, 0, 24, 24, 24, 24, 24, 24, 0, 384, 16, 24, 0, 0, 24, 24, 24, 24, 24, 24, 0, 0, 240, 16, 16, 16, 16, 0, 240, 16, 16, 16, 16, 0, 32, 0, 16, 0, 5, 5, 5, 5, 0, 256, 256].getD c 0
def flX (ad : Nat → Nat) (k c : Nat) (r : Nat → Int32) : List Value := match k with
  | 0 => [.ref (ad (c + 1)), .ref (ad (c + 2)), .ref (ad (c + 3)), .int (r 3), .int (r 4), .int (r 5), .int (r 6), .int (r 7)]
  | 1 => [.ref (ad (c + 1)), .ref (ad (c + 2)), .ref (ad (c + 3)), .ref (ad (c + 4)), .int (r 4), .int (r 5)]
  | 2 => [.ref (ad 33), .ref (ad (c + 1)), .ref (ad (r 2).toNatClampNeg), .ref (ad (r 3).toNatClampNeg), .int (r 4), .int (r 5), .int (r 6), .int (r 7), .int (r 8), .int (r 9)]
  | 3 => [.ref (ad (c + 1)), .ref (ad (c + 2)), .ref (ad (c + 3)), .ref (ad (c + 4)), .ref (ad (c + 5)), .int (r 5), .int (r 6)]
  | 4 => [.ref (ad 1)]
  | 5 => [.ref (ad 1), .ref (ad 38)]
  | 6 => [.ref (ad (c + 1)), .ref (ad (c + 2)), .ref (ad (c + 3)), .ref (ad (c + 4)), .ref (ad (c + 5)), .ref (ad (c + 6)), .int (r 6)]
  | 7 => [.ref (ad (c + 1)), .int (r 1), .int (r 2)]
  | 8 => [.ref (ad 1), .ref (ad (c + 1)), .ref (ad (c + 2)), .ref (ad (c + 3)), .int (r 4)]
  | 9 => [.ref (ad 1), .ref (ad (c + 1)), .ref (ad (c + 2))]
  | 10 => [.ref (ad (c + 1)), .int (r 1), .int (r 2), .int (r 3), .int (r 4), .int (r 5)]
  | _ => [.ref (ad 1), .ref (ad 3), .ref (ad 13), .ref (ad 23), .ref (ad 33), .ref (ad 37), .ref (ad 45), .ref (ad 58), .ref (ad 60), .ref (ad 62), .ref (ad 67), .ref (ad (r 11).toNatClampNeg), .ref (ad (r 12).toNatClampNeg), .int (r 13)]
def cfX : jF := fun V c r => if kX c = 99 then .inl (vcI V, lX c, .inl r) else .inr (kX c, flX (vad V) (kX c) c r)
def kM (c : Nat) : Nat := [12, 99, 99, 99, 99, 99, 97, 99, 99, 99, 99, 99, 99, 99, 99, 99, 99, 99, 99, 99, 99, 99, 99, 99, 99, 99, 99, 99, 99, 99, 99, 99, 99].getD c 98
def lM (c : Nat) : Nat := [0, 212, 212, 212, 384, 16, 260, 260, 260, 16, 16, 16, 16, 260, 16, 16, 16, 16, 260, 9, 24, 2, 2, 2, 120, 16, 16, 256, 5, 5, 20, 20, 10000].getD c 0
def flM (ad : Nat → Nat) (r : Nat → Int32) : List Value := [.ref (ad 1), .ref (ad 2), .ref (ad 3), .ref (ad 4), .ref (ad 5), .ref (ad 6), .int (r 6), .int (r 7), .int (r 8), .int (r 9), .int (r 10), .int (r 11), .int (r 12), .int (r 13), .int (r 14), .int (r 15), .ref (ad 7), .ref (ad 8), .ref (ad 9), .ref (ad 10), .ref (ad 11), .ref (ad 12), .ref (ad 13), .ref (ad 14), .ref (ad 15), .ref (ad 16), .ref (ad 17), .ref (ad 18), .ref (ad 19), .ref (ad 20), .ref (ad 21), .ref (ad 22), .ref (ad 23), .int (r 33), .int (r 34), .int (r 35), .int (r 36), .ref (ad 24), .int (r 38), .int (r 39), .ref (ad 25), .ref (ad 26), .int (r 42), .int (r 43), .ref (ad 27), .ref (ad 28), .ref (ad 29), .ref (ad 30), .ref (ad 31), .ref (ad 32), .int (r 50)]
def cfM : jF := fun V c r => if kM c = 99 then .inl (vcI V, lM c, .inl r) else if kM c = 97 then .inl (vcB V, lM c, .inl r) else .inr (kM c, flM (vad V) r)
abbrev JX (G : jG) (pc : Nat) (ls : jL) (st : List Value) (σ : jS) (res : Int32 × jS) : Prop := J cfX 70 G pc ls st σ res
abbrev JM (G : jG) (pc : Nat) (ls : jL) (st : List Value) (σ : jS) (res : Int32 × jS) : Prop := J cfM 33 G pc ls st σ res
theorem kX_lt {c k : Nat} (h : kX c = k) (hk : k ≠ 98) : c < 70 := by
  rcases Nat.lt_or_ge c 70 with q | q
  · exact q
  · refine absurd h ?_
    have e : kX c = 98 := by
      unfold kX
      rw [List.getD_eq_getElem?_getD, List.getElem?_eq_none (by simpa using q)]
      rfl
    rw [e]
    exact Ne.symm hk
theorem kM_lt {c k : Nat} (h : kM c = k) (hk : k ≠ 98) : c < 33 := by
  rcases Nat.lt_or_ge c 33 with q | q
  · exact q
  · refine absurd h ?_
    have e : kM c = 98 := by
      unfold kM
      rw [List.getD_eq_getElem?_getD, List.getElem?_eq_none (by simpa using q)]
      rfl
    rw [e]
    exact Ne.symm hk
theorem cx_0 {V : jV} {c : Nat} {r : Nat → Int32} (h : kX c = 0) : cfX V c r = .inr (0, [.ref (vad V (c + 1)), .ref (vad V (c + 2)), .ref (vad V (c + 3)), .int (r 3), .int (r 4), .int (r 5), .int (r 6), .int (r 7)]) := by
  unfold cfX
  rw [h]
  rfl
theorem cx_1 {V : jV} {c : Nat} {r : Nat → Int32} (h : kX c = 1) : cfX V c r = .inr (1, [.ref (vad V (c + 1)), .ref (vad V (c + 2)), .ref (vad V (c + 3)), .ref (vad V (c + 4)), .int (r 4), .int (r 5)]) := by
  unfold cfX
  rw [h]
  rfl
theorem cx_2 {V : jV} {c : Nat} {r : Nat → Int32} (h : kX c = 2) : cfX V c r = .inr (2, [.ref (vad V 33), .ref (vad V (c + 1)), .ref (vad V (r 2).toNatClampNeg), .ref (vad V (r 3).toNatClampNeg), .int (r 4), .int (r 5), .int (r 6), .int (r 7), .int (r 8), .int (r 9)]) := by
  unfold cfX
  rw [h]
  rfl
theorem cx_3 {V : jV} {c : Nat} {r : Nat → Int32} (h : kX c = 3) : cfX V c r = .inr (3, [.ref (vad V (c + 1)), .ref (vad V (c + 2)), .ref (vad V (c + 3)), .ref (vad V (c + 4)), .ref (vad V (c + 5)), .int (r 5), .int (r 6)]) := by
  unfold cfX
  rw [h]
  rfl
theorem cx_4 {V : jV} {c : Nat} {r : Nat → Int32} (h : kX c = 4) : cfX V c r = .inr (4, [.ref (vad V 1)]) := by
  unfold cfX
  rw [h]
  rfl
theorem cx_5 {V : jV} {c : Nat} {r : Nat → Int32} (h : kX c = 5) : cfX V c r = .inr (5, [.ref (vad V 1), .ref (vad V 38)]) := by
  unfold cfX
  rw [h]
  rfl
theorem cx_6 {V : jV} {c : Nat} {r : Nat → Int32} (h : kX c = 6) : cfX V c r = .inr (6, [.ref (vad V (c + 1)), .ref (vad V (c + 2)), .ref (vad V (c + 3)), .ref (vad V (c + 4)), .ref (vad V (c + 5)), .ref (vad V (c + 6)), .int (r 6)]) := by
  unfold cfX
  rw [h]
  rfl
theorem cx_7 {V : jV} {c : Nat} {r : Nat → Int32} (h : kX c = 7) : cfX V c r = .inr (7, [.ref (vad V (c + 1)), .int (r 1), .int (r 2)]) := by
  unfold cfX
  rw [h]
  rfl
theorem cx_8 {V : jV} {c : Nat} {r : Nat → Int32} (h : kX c = 8) : cfX V c r = .inr (8, [.ref (vad V 1), .ref (vad V (c + 1)), .ref (vad V (c + 2)), .ref (vad V (c + 3)), .int (r 4)]) := by
  unfold cfX
  rw [h]
  rfl
theorem cx_9 {V : jV} {c : Nat} {r : Nat → Int32} (h : kX c = 9) : cfX V c r = .inr (9, [.ref (vad V 1), .ref (vad V (c + 1)), .ref (vad V (c + 2))]) := by
  unfold cfX
  rw [h]
  rfl
theorem cx_10 {V : jV} {c : Nat} {r : Nat → Int32} (h : kX c = 10) : cfX V c r = .inr (10, [.ref (vad V (c + 1)), .int (r 1), .int (r 2), .int (r 3), .int (r 4), .int (r 5)]) := by
  unfold cfX
  rw [h]
  rfl
theorem cx_11 {V : jV} {c : Nat} {r : Nat → Int32} (h : kX c = 11) : cfX V c r = .inr (11, [.ref (vad V 1), .ref (vad V 3), .ref (vad V 13), .ref (vad V 23), .ref (vad V 33), .ref (vad V 37), .ref (vad V 45), .ref (vad V 58), .ref (vad V 60), .ref (vad V 62), .ref (vad V 67), .ref (vad V (r 11).toNatClampNeg), .ref (vad V (r 12).toNatClampNeg), .int (r 13)]) := by
  unfold cfX
  rw [h]
  rfl
theorem cx_a {V : jV} {c n : Nat} (h : kX c = 99) (hl : lX c = n) (r : Nat → Int32) : cfX V c r = .inl (vcI V, n, .inl r) := by
  unfold cfX
  rw [if_pos h, hl]
theorem cm_12 {V : jV} {c : Nat} {r : Nat → Int32} (h : kM c = 12) : cfM V c r = .inr (12, flM (vad V) r) := by
  unfold cfM
  rw [h]
  rfl
theorem cm_a {V : jV} {c n : Nat} (h : kM c = 99) (hl : lM c = n) (r : Nat → Int32) : cfM V c r = .inl (vcI V, n, .inl r) := by
  unfold cfM
  rw [if_pos h, hl]
theorem cm_b {V : jV} {c n : Nat} (h : kM c = 97) (hl : lM c = n) (r : Nat → Int32) : cfM V c r = .inl (vcB V, n, .inl r) := by
  unfold cfM
  rw [if_neg (by rw [h]; decide), if_pos h, hl]
theorem kx_0 : kX 0 = 11 := rfl
theorem kx_1 : kX 1 = 10 := rfl
theorem kx_2 : kX 2 = 99 := rfl
theorem lx_2 : lX 2 = 260 := rfl
theorem kx_3 : kX 3 = 0 := rfl
theorem kx_4 : kX 4 = 99 := rfl
theorem lx_4 : lX 4 = 16 := rfl
theorem kx_5 : kX 5 = 99 := rfl
theorem lx_5 : lX 5 = 16 := rfl
theorem kx_6 : kX 6 = 6 := rfl
theorem kx_7 : kX 7 = 99 := rfl
theorem lx_7 : lX 7 = 24 := rfl
theorem kx_8 : kX 8 = 99 := rfl
theorem lx_8 : lX 8 = 24 := rfl
theorem kx_9 : kX 9 = 99 := rfl
theorem lx_9 : lX 9 = 24 := rfl
theorem kx_10 : kX 10 = 99 := rfl
theorem lx_10 : lX 10 = 24 := rfl
theorem kx_11 : kX 11 = 99 := rfl
theorem lx_11 : lX 11 = 24 := rfl
theorem kx_12 : kX 12 = 99 := rfl
theorem lx_12 : lX 12 = 24 := rfl
theorem kx_13 : kX 13 = 0 := rfl
theorem kx_14 : kX 14 = 99 := rfl
theorem lx_14 : lX 14 = 16 := rfl
theorem kx_15 : kX 15 = 99 := rfl
theorem lx_15 : lX 15 = 16 := rfl
theorem kx_16 : kX 16 = 6 := rfl
theorem kx_17 : kX 17 = 99 := rfl
theorem lx_17 : lX 17 = 24 := rfl
theorem kx_18 : kX 18 = 99 := rfl
theorem lx_18 : lX 18 = 24 := rfl
theorem kx_19 : kX 19 = 99 := rfl
theorem lx_19 : lX 19 = 24 := rfl
theorem kx_20 : kX 20 = 99 := rfl
theorem lx_20 : lX 20 = 24 := rfl
theorem kx_21 : kX 21 = 99 := rfl
theorem lx_21 : lX 21 = 24 := rfl
theorem kx_22 : kX 22 = 99 := rfl
theorem lx_22 : lX 22 = 24 := rfl
theorem kx_23 : kX 23 = 0 := rfl
theorem kx_24 : kX 24 = 99 := rfl
theorem lx_24 : lX 24 = 16 := rfl
theorem kx_25 : kX 25 = 99 := rfl
theorem lx_25 : lX 25 = 16 := rfl
theorem kx_26 : kX 26 = 6 := rfl
theorem kx_27 : kX 27 = 99 := rfl
theorem lx_27 : lX 27 = 24 := rfl
theorem kx_28 : kX 28 = 99 := rfl
theorem lx_28 : lX 28 = 24 := rfl
theorem kx_29 : kX 29 = 99 := rfl
theorem lx_29 : lX 29 = 24 := rfl
theorem kx_30 : kX 30 = 99 := rfl
theorem lx_30 : lX 30 = 24 := rfl
theorem kx_31 : kX 31 = 99 := rfl
theorem lx_31 : lX 31 = 24 := rfl
theorem kx_32 : kX 32 = 99 := rfl
theorem lx_32 : lX 32 = 24 := rfl
theorem kx_33 : kX 33 = 8 := rfl
theorem kx_34 : kX 34 = 99 := rfl
theorem lx_34 : lX 34 = 384 := rfl
theorem kx_35 : kX 35 = 99 := rfl
theorem lx_35 : lX 35 = 16 := rfl
theorem kx_36 : kX 36 = 99 := rfl
theorem lx_36 : lX 36 = 24 := rfl
theorem kx_37 : kX 37 = 5 := rfl
theorem kx_38 : kX 38 = 6 := rfl
theorem kx_39 : kX 39 = 99 := rfl
theorem lx_39 : lX 39 = 24 := rfl
theorem kx_40 : kX 40 = 99 := rfl
theorem lx_40 : lX 40 = 24 := rfl
theorem kx_41 : kX 41 = 99 := rfl
theorem lx_41 : lX 41 = 24 := rfl
theorem kx_42 : kX 42 = 99 := rfl
theorem lx_42 : lX 42 = 24 := rfl
theorem kx_43 : kX 43 = 99 := rfl
theorem lx_43 : lX 43 = 24 := rfl
theorem kx_44 : kX 44 = 99 := rfl
theorem lx_44 : lX 44 = 24 := rfl
theorem kx_45 : kX 45 = 4 := rfl
theorem kx_46 : kX 46 = 3 := rfl
theorem kx_47 : kX 47 = 99 := rfl
theorem lx_47 : lX 47 = 240 := rfl
theorem kx_48 : kX 48 = 99 := rfl
theorem lx_48 : lX 48 = 16 := rfl
theorem kx_49 : kX 49 = 99 := rfl
theorem lx_49 : lX 49 = 16 := rfl
theorem kx_50 : kX 50 = 99 := rfl
theorem lx_50 : lX 50 = 16 := rfl
theorem kx_51 : kX 51 = 99 := rfl
theorem lx_51 : lX 51 = 16 := rfl
theorem kx_52 : kX 52 = 3 := rfl
theorem kx_53 : kX 53 = 99 := rfl
theorem lx_53 : lX 53 = 240 := rfl
theorem kx_54 : kX 54 = 99 := rfl
theorem lx_54 : lX 54 = 16 := rfl
theorem kx_55 : kX 55 = 99 := rfl
theorem lx_55 : lX 55 = 16 := rfl
theorem kx_56 : kX 56 = 99 := rfl
theorem lx_56 : lX 56 = 16 := rfl
theorem kx_57 : kX 57 = 99 := rfl
theorem lx_57 : lX 57 = 16 := rfl
theorem kx_58 : kX 58 = 2 := rfl
theorem kx_59 : kX 59 = 99 := rfl
theorem lx_59 : lX 59 = 32 := rfl
theorem kx_60 : kX 60 = 7 := rfl
theorem kx_61 : kX 61 = 99 := rfl
theorem lx_61 : lX 61 = 16 := rfl
theorem kx_62 : kX 62 = 1 := rfl
theorem kx_63 : kX 63 = 99 := rfl
theorem lx_63 : lX 63 = 5 := rfl
theorem kx_64 : kX 64 = 99 := rfl
theorem lx_64 : lX 64 = 5 := rfl
theorem kx_65 : kX 65 = 99 := rfl
theorem lx_65 : lX 65 = 5 := rfl
theorem kx_66 : kX 66 = 99 := rfl
theorem lx_66 : lX 66 = 5 := rfl
theorem kx_67 : kX 67 = 9 := rfl
theorem kx_68 : kX 68 = 99 := rfl
theorem lx_68 : lX 68 = 256 := rfl
theorem kx_69 : kX 69 = 99 := rfl
theorem lx_69 : lX 69 = 256 := rfl
theorem km_0 : kM 0 = 12 := rfl
theorem km_1 : kM 1 = 99 := rfl
theorem lm_1 : lM 1 = 212 := rfl
theorem km_2 : kM 2 = 99 := rfl
theorem lm_2 : lM 2 = 212 := rfl
theorem km_3 : kM 3 = 99 := rfl
theorem lm_3 : lM 3 = 212 := rfl
theorem km_4 : kM 4 = 99 := rfl
theorem lm_4 : lM 4 = 384 := rfl
theorem km_5 : kM 5 = 99 := rfl
theorem lm_5 : lM 5 = 16 := rfl
theorem km_6 : kM 6 = 97 := rfl
theorem lm_6 : lM 6 = 260 := rfl
theorem km_7 : kM 7 = 99 := rfl
theorem lm_7 : lM 7 = 260 := rfl
theorem km_8 : kM 8 = 99 := rfl
theorem lm_8 : lM 8 = 260 := rfl
theorem km_9 : kM 9 = 99 := rfl
theorem lm_9 : lM 9 = 16 := rfl
theorem km_10 : kM 10 = 99 := rfl
theorem lm_10 : lM 10 = 16 := rfl
theorem km_11 : kM 11 = 99 := rfl
theorem lm_11 : lM 11 = 16 := rfl
theorem km_12 : kM 12 = 99 := rfl
theorem lm_12 : lM 12 = 16 := rfl
theorem km_13 : kM 13 = 99 := rfl
theorem lm_13 : lM 13 = 260 := rfl
theorem km_14 : kM 14 = 99 := rfl
theorem lm_14 : lM 14 = 16 := rfl
theorem km_15 : kM 15 = 99 := rfl
theorem lm_15 : lM 15 = 16 := rfl
theorem km_16 : kM 16 = 99 := rfl
theorem lm_16 : lM 16 = 16 := rfl
theorem km_17 : kM 17 = 99 := rfl
theorem lm_17 : lM 17 = 16 := rfl
theorem km_18 : kM 18 = 99 := rfl
theorem lm_18 : lM 18 = 260 := rfl
theorem km_19 : kM 19 = 99 := rfl
theorem lm_19 : lM 19 = 9 := rfl
theorem km_20 : kM 20 = 99 := rfl
theorem lm_20 : lM 20 = 24 := rfl
theorem km_21 : kM 21 = 99 := rfl
theorem lm_21 : lM 21 = 2 := rfl
theorem km_22 : kM 22 = 99 := rfl
theorem lm_22 : lM 22 = 2 := rfl
theorem km_23 : kM 23 = 99 := rfl
theorem lm_23 : lM 23 = 2 := rfl
theorem km_24 : kM 24 = 99 := rfl
theorem lm_24 : lM 24 = 120 := rfl
theorem km_25 : kM 25 = 99 := rfl
theorem lm_25 : lM 25 = 16 := rfl
theorem km_26 : kM 26 = 99 := rfl
theorem lm_26 : lM 26 = 16 := rfl
theorem km_27 : kM 27 = 99 := rfl
theorem lm_27 : lM 27 = 256 := rfl
theorem km_28 : kM 28 = 99 := rfl
theorem lm_28 : lM 28 = 5 := rfl
theorem km_29 : kM 29 = 99 := rfl
theorem lm_29 : lM 29 = 5 := rfl
theorem km_30 : kM 30 = 99 := rfl
theorem lm_30 : lM 30 = 20 := rfl
theorem km_31 : kM 31 = 99 := rfl
theorem lm_31 : lM 31 = 20 := rfl
theorem km_32 : kM 32 = 99 := rfl
theorem lm_32 : lM 32 = 10000 := rfl
theorem of_0_1 {c : Nat} (h : kX c = 0) : kX (c + 1) = 99 := (show ∀ c, c < 70 → kX c = 0 → kX (c + 1) = 99 by decide +kernel) c (kX_lt h (by decide)) h
theorem ol_0_1 {c : Nat} (h : kX c = 0) : lX (c + 1) = 16 := (show ∀ c, c < 70 → kX c = 0 → lX (c + 1) = 16 by decide +kernel) c (kX_lt h (by decide)) h
theorem of_0_2 {c : Nat} (h : kX c = 0) : kX (c + 2) = 99 := (show ∀ c, c < 70 → kX c = 0 → kX (c + 2) = 99 by decide +kernel) c (kX_lt h (by decide)) h
theorem ol_0_2 {c : Nat} (h : kX c = 0) : lX (c + 2) = 16 := (show ∀ c, c < 70 → kX c = 0 → lX (c + 2) = 16 by decide +kernel) c (kX_lt h (by decide)) h
theorem of_0_3 {c : Nat} (h : kX c = 0) : kX (c + 3) = 6 := (show ∀ c, c < 70 → kX c = 0 → kX (c + 3) = 6 by decide +kernel) c (kX_lt h (by decide)) h
theorem of_6_1 {c : Nat} (h : kX c = 6) : kX (c + 1) = 99 := (show ∀ c, c < 70 → kX c = 6 → kX (c + 1) = 99 by decide +kernel) c (kX_lt h (by decide)) h
theorem ol_6_1 {c : Nat} (h : kX c = 6) : lX (c + 1) = 24 := (show ∀ c, c < 70 → kX c = 6 → lX (c + 1) = 24 by decide +kernel) c (kX_lt h (by decide)) h
theorem of_6_2 {c : Nat} (h : kX c = 6) : kX (c + 2) = 99 := (show ∀ c, c < 70 → kX c = 6 → kX (c + 2) = 99 by decide +kernel) c (kX_lt h (by decide)) h
theorem ol_6_2 {c : Nat} (h : kX c = 6) : lX (c + 2) = 24 := (show ∀ c, c < 70 → kX c = 6 → lX (c + 2) = 24 by decide +kernel) c (kX_lt h (by decide)) h
theorem of_6_3 {c : Nat} (h : kX c = 6) : kX (c + 3) = 99 := (show ∀ c, c < 70 → kX c = 6 → kX (c + 3) = 99 by decide +kernel) c (kX_lt h (by decide)) h
theorem ol_6_3 {c : Nat} (h : kX c = 6) : lX (c + 3) = 24 := (show ∀ c, c < 70 → kX c = 6 → lX (c + 3) = 24 by decide +kernel) c (kX_lt h (by decide)) h
theorem of_6_4 {c : Nat} (h : kX c = 6) : kX (c + 4) = 99 := (show ∀ c, c < 70 → kX c = 6 → kX (c + 4) = 99 by decide +kernel) c (kX_lt h (by decide)) h
theorem ol_6_4 {c : Nat} (h : kX c = 6) : lX (c + 4) = 24 := (show ∀ c, c < 70 → kX c = 6 → lX (c + 4) = 24 by decide +kernel) c (kX_lt h (by decide)) h
theorem of_6_5 {c : Nat} (h : kX c = 6) : kX (c + 5) = 99 := (show ∀ c, c < 70 → kX c = 6 → kX (c + 5) = 99 by decide +kernel) c (kX_lt h (by decide)) h
theorem ol_6_5 {c : Nat} (h : kX c = 6) : lX (c + 5) = 24 := (show ∀ c, c < 70 → kX c = 6 → lX (c + 5) = 24 by decide +kernel) c (kX_lt h (by decide)) h
theorem of_6_6 {c : Nat} (h : kX c = 6) : kX (c + 6) = 99 := (show ∀ c, c < 70 → kX c = 6 → kX (c + 6) = 99 by decide +kernel) c (kX_lt h (by decide)) h
theorem ol_6_6 {c : Nat} (h : kX c = 6) : lX (c + 6) = 24 := (show ∀ c, c < 70 → kX c = 6 → lX (c + 6) = 24 by decide +kernel) c (kX_lt h (by decide)) h
theorem of_3_1 {c : Nat} (h : kX c = 3) : kX (c + 1) = 99 := (show ∀ c, c < 70 → kX c = 3 → kX (c + 1) = 99 by decide +kernel) c (kX_lt h (by decide)) h
theorem ol_3_1 {c : Nat} (h : kX c = 3) : lX (c + 1) = 240 := (show ∀ c, c < 70 → kX c = 3 → lX (c + 1) = 240 by decide +kernel) c (kX_lt h (by decide)) h
theorem of_3_2 {c : Nat} (h : kX c = 3) : kX (c + 2) = 99 := (show ∀ c, c < 70 → kX c = 3 → kX (c + 2) = 99 by decide +kernel) c (kX_lt h (by decide)) h
theorem ol_3_2 {c : Nat} (h : kX c = 3) : lX (c + 2) = 16 := (show ∀ c, c < 70 → kX c = 3 → lX (c + 2) = 16 by decide +kernel) c (kX_lt h (by decide)) h
theorem of_3_3 {c : Nat} (h : kX c = 3) : kX (c + 3) = 99 := (show ∀ c, c < 70 → kX c = 3 → kX (c + 3) = 99 by decide +kernel) c (kX_lt h (by decide)) h
theorem ol_3_3 {c : Nat} (h : kX c = 3) : lX (c + 3) = 16 := (show ∀ c, c < 70 → kX c = 3 → lX (c + 3) = 16 by decide +kernel) c (kX_lt h (by decide)) h
theorem of_3_4 {c : Nat} (h : kX c = 3) : kX (c + 4) = 99 := (show ∀ c, c < 70 → kX c = 3 → kX (c + 4) = 99 by decide +kernel) c (kX_lt h (by decide)) h
theorem ol_3_4 {c : Nat} (h : kX c = 3) : lX (c + 4) = 16 := (show ∀ c, c < 70 → kX c = 3 → lX (c + 4) = 16 by decide +kernel) c (kX_lt h (by decide)) h
theorem of_3_5 {c : Nat} (h : kX c = 3) : kX (c + 5) = 99 := (show ∀ c, c < 70 → kX c = 3 → kX (c + 5) = 99 by decide +kernel) c (kX_lt h (by decide)) h
theorem ol_3_5 {c : Nat} (h : kX c = 3) : lX (c + 5) = 16 := (show ∀ c, c < 70 → kX c = 3 → lX (c + 5) = 16 by decide +kernel) c (kX_lt h (by decide)) h
