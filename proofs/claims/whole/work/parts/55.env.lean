def tmS (i : Nat) : Term := [Term.string RX8 81, Term.string RX4 105, Term.string RX4 85, Term.string RX4 94].getD i (Term.string RX8 81)
def lenS : List Nat := [7, 9, 3, 5]
def bytS : List (List Int32) := [[115, 99, 119, 114, 108, 102, 111], [107, 100, 104, 97, 98, 110, 109, 116, 119], [60, 62, 61], [43, 45, 42, 47, 37]]
theorem four {P : Nat → Prop} (h0 : P 0) (h1 : P 1) (h2 : P 2) (h3 : P 3) : ∀ i, i < 4 → P i := by
  intro i hi
  match i, hi with
  | 0, _ => exact h0
  | 1, _ => exact h1
  | 2, _ => exact h2
  | 3, _ => exact h3
  | i + 4, hi => exact absurd hi (by omega)
theorem el_0 {args : Array Value} {s : State} (hs : ∀ c ∈ flatC (Jvm.Cond.and given_1 narrow_1), c.before args s = true) : ∀ j : Nat, j < lenS.getD 0 0 → (Cond.eq (.elem (.field (tmS 0) "java/lang/String" "value" "[B") (.int (Int32.ofNat j))) (.int ((bytS.getD 0 []).getD j 0))).before args s = true := by
  intro j hj
  match j, hj with
  | 0, _ => exact hs _ (by decide +kernel)
  | 1, _ => exact hs _ (by decide +kernel)
  | 2, _ => exact hs _ (by decide +kernel)
  | 3, _ => exact hs _ (by decide +kernel)
  | 4, _ => exact hs _ (by decide +kernel)
  | 5, _ => exact hs _ (by decide +kernel)
  | 6, _ => exact hs _ (by decide +kernel)
  | j + 7, hj => exact absurd hj (Nat.not_lt.mpr (Nat.le_add_left 7 j))
theorem el_1 {args : Array Value} {s : State} (hs : ∀ c ∈ flatC (Jvm.Cond.and given_1 narrow_1), c.before args s = true) : ∀ j : Nat, j < lenS.getD 1 0 → (Cond.eq (.elem (.field (tmS 1) "java/lang/String" "value" "[B") (.int (Int32.ofNat j))) (.int ((bytS.getD 1 []).getD j 0))).before args s = true := by
  intro j hj
  match j, hj with
  | 0, _ => exact hs _ (by decide +kernel)
  | 1, _ => exact hs _ (by decide +kernel)
  | 2, _ => exact hs _ (by decide +kernel)
  | 3, _ => exact hs _ (by decide +kernel)
  | 4, _ => exact hs _ (by decide +kernel)
  | 5, _ => exact hs _ (by decide +kernel)
  | 6, _ => exact hs _ (by decide +kernel)
  | 7, _ => exact hs _ (by decide +kernel)
  | 8, _ => exact hs _ (by decide +kernel)
  | j + 9, hj => exact absurd hj (Nat.not_lt.mpr (Nat.le_add_left 9 j))
theorem el_2 {args : Array Value} {s : State} (hs : ∀ c ∈ flatC (Jvm.Cond.and given_1 narrow_1), c.before args s = true) : ∀ j : Nat, j < lenS.getD 2 0 → (Cond.eq (.elem (.field (tmS 2) "java/lang/String" "value" "[B") (.int (Int32.ofNat j))) (.int ((bytS.getD 2 []).getD j 0))).before args s = true := by
  intro j hj
  match j, hj with
  | 0, _ => exact hs _ (by decide +kernel)
  | 1, _ => exact hs _ (by decide +kernel)
  | 2, _ => exact hs _ (by decide +kernel)
  | j + 3, hj => exact absurd hj (Nat.not_lt.mpr (Nat.le_add_left 3 j))
theorem el_3 {args : Array Value} {s : State} (hs : ∀ c ∈ flatC (Jvm.Cond.and given_1 narrow_1), c.before args s = true) : ∀ j : Nat, j < lenS.getD 3 0 → (Cond.eq (.elem (.field (tmS 3) "java/lang/String" "value" "[B") (.int (Int32.ofNat j))) (.int ((bytS.getD 3 []).getD j 0))).before args s = true := by
  intro j hj
  match j, hj with
  | 0, _ => exact hs _ (by decide +kernel)
  | 1, _ => exact hs _ (by decide +kernel)
  | 2, _ => exact hs _ (by decide +kernel)
  | 3, _ => exact hs _ (by decide +kernel)
  | 4, _ => exact hs _ (by decide +kernel)
  | j + 5, hj => exact absurd hj (Nat.not_lt.mpr (Nat.le_add_left 5 j))
theorem str_env {args : Array Value} {s : State} (hT : ∀ w ∈ lw_tbl, w.before args s = true) (hs : ∀ c ∈ flatC (Jvm.Cond.and given_1 narrow_1), c.before args s = true) : ∃ ak av : Nat → Nat, ∀ (l : Launch) (D : va_G) (ad : Nat → Nat) (cI cB : ClassId), jE (l, D, ad, (cI, cB), ak, av) (fun q => s.heap.size ≤ q) s s.heap := by
  have hA : ∀ a : Nat, a < s.heap.size → ¬ (fun q : Nat => s.heap.size ≤ q) a := fun a h => Nat.not_le.mpr h
  obtain ⟨ak, av, h1, h2⟩ := vk_Sof (args := args) (s := s) (N := 4) (tm := tmS) (len := lenS) (byt := bytS) (A := fun q => s.heap.size ≤ q) (by decide)
    (four (hs _ (by decide +kernel)) (hs _ (by decide +kernel)) (hs _ (by decide +kernel)) (hs _ (by decide +kernel)))
    (four (hs _ (by decide +kernel)) (hs _ (by decide +kernel)) (hs _ (by decide +kernel)) (hs _ (by decide +kernel)))
    (four (hs _ (by decide +kernel)) (hs _ (by decide +kernel)) (hs _ (by decide +kernel)) (hs _ (by decide +kernel)))
    (four (hs _ (by decide +kernel)) (hs _ (by decide +kernel)) (hs _ (by decide +kernel)) (hs _ (by decide +kernel)))
    (four (el_0 hs) (el_1 hs) (el_2 hs) (el_3 hs))
    (by
      intro i j hi hj
      refine four (P := fun i => ∀ j, j < 4 → i ≠ j → (Cond.not (Cond.eq (tmS i) (tmS j))).before args s = true ∨ (Cond.not (Cond.eq (tmS j) (tmS i))).before args s = true) ?_ ?_ ?_ ?_ i hi j hj
      · exact four (fun h => absurd rfl h) (fun _ => Or.inr (hs _ (by decide +kernel))) (fun _ => Or.inr (hs _ (by decide +kernel))) (fun _ => Or.inr (hs _ (by decide +kernel)))
      · exact four (fun _ => Or.inl (hs _ (by decide +kernel))) (fun h => absurd rfl h) (fun _ => Or.inl (hs _ (by decide +kernel))) (fun _ => Or.inl (hs _ (by decide +kernel)))
      · exact four (fun _ => Or.inl (hs _ (by decide +kernel))) (fun _ => Or.inr (hs _ (by decide +kernel))) (fun h => absurd rfl h) (fun _ => Or.inr (hs _ (by decide +kernel)))
      · exact four (fun _ => Or.inl (hs _ (by decide +kernel))) (fun _ => Or.inr (hs _ (by decide +kernel))) (fun _ => Or.inl (hs _ (by decide +kernel))) (fun h => absurd rfl h))
    hA
  refine ⟨ak, av, fun l D ad cI cB => ⟨⟨?_, ?_, ?_, ?_⟩, h1, ?_⟩⟩
  · exact vk_R.of (A := args) (hT (.stringRef RX8 81 "scwrlfo") (by decide +kernel)) (h2 0 (by decide))
  · exact vk_R.of (A := args) (hT (.stringRef RX4 105 "kdhabnmtw") (by decide +kernel)) (h2 1 (by decide))
  · exact vk_R.of (A := args) (hT (.stringRef RX4 85 "<>=") (by decide +kernel)) (h2 2 (by decide))
  · exact vk_R.of (A := args) (hT (.stringRef RX4 94 "+-*/%") (by decide +kernel)) (h2 3 (by decide))
  · exact va_Zof (hT (.laysStatic "java/lang/String" "COMPACT_STRINGS" "Z") (by decide +kernel)) (hT (.initialized "java/lang/String") (by decide +kernel)) (va_eqi (hs _ (by decide +kernel))) hA
