def SimAll : Prop := ∃ (F : Nat) (I : jS → jS → Prop), I σ0 τ0 ∧ S_person F I ∧ S_feed F I ∧ S_law F I ∧ S_routine F I ∧ S_ledger F I ∧ S_days F I ∧ S_tried F I ∧ S_personIs F I ∧ S_loanIs F I ∧ S_dies F I ∧ S_costs F I ∧ S_paidOff F I ∧ S_dueAfter F I ∧ S_hiccups F I ∧ S_left F I ∧ S_longest F I ∧ S_stillest F I ∧ S_alike F I ∧ S_rings F I ∧ S_settled F I ∧ S_joy F I ∧ S_run F I ∧ S_table F I ∧ S_atOnce F I ∧ S_pulse F I ∧ S_stairs F I ∧ S_bells F I ∧ S_seed F I ∧ S_keep F I ∧ S_undo F I ∧ S_check F I ∧ S_count F I
set_option maxHeartbeats 8000000 in
set_option maxRecDepth 100000 in
theorem whole_open (hsim : SimAll) {p : Program} {e : Env} {s : State} {m : MethodId} {below : List Frame} {meth : Method} {c : Code} (l : Launch) {b L : Nat} {xs : Nat → Int32} (hL : L ≤ 3072) (C0 : lw_At p s m meth c b L xs) : W p l e room_1 s m #[Value.ref b] below meth c s.heap [] 0 0 (lw_Z below #[Value.ref b] s) (entryFrame m ([Value.ref b] : List Value).toArray 4) := by
  obtain ⟨hx, hb, hr, hml, hown, hts, hX, hbl, hlocks, hgv⟩ := id C0
  have hs := flat_of_before _ hgv
  have htsT : ∀ w ∈ jT, w.before #[Value.ref b] s = true := fun w hw => hts w (List.mem_filter.mp hw).1
  have hN : ∀ w ∈ jN, va_Nw w s := by
    intro w hw
    have h1 := hts w (List.mem_filter.mp hw).1
    have h2 := (List.mem_filter.mp hw).2
    cases w <;> first | exact va_Nw.of rfl h1 | (simp [jnest] at h2)
  obtain ⟨c0, i0, hKn0⟩ := u_known (ws := jT) (C := RX0) (T := TX0) (N := 8) (n := 8) htsT hi_X0 (htsT (.instantiable RX0 8) tw_1_67)
  obtain ⟨c1, i1, hKn1⟩ := u_known (ws := jT) (C := RX1) (T := TX1) (N := 6) (n := 6) htsT hi_X1 (htsT (.instantiable RX1 6) tw_2_48)
  obtain ⟨c2, i2, hKn2⟩ := u_known (ws := jT) (C := RX2) (T := TX2) (N := 10) (n := 10) htsT hi_X2 (htsT (.instantiable RX2 10) tw_1_233)
  obtain ⟨c3, i3, hKn3⟩ := u_known (ws := jT) (C := RX3) (T := TX3) (N := 7) (n := 7) htsT hi_X3 (htsT (.instantiable RX3 7) tw_1_196)
  obtain ⟨c4, i4, hKn4⟩ := u_known (ws := jT) (C := RX4) (T := TX4) (N := 1) (n := 1) htsT hi_X4 (htsT (.instantiable RX4 1) tw_1_186)
  obtain ⟨c5, i5, hKn5⟩ := u_known (ws := jT) (C := RX5) (T := TX5) (N := 2) (n := 2) htsT hi_X5 (htsT (.instantiable RX5 2) tw_1_170)
  obtain ⟨c6, i6, hKn6⟩ := u_known (ws := jT) (C := RX6) (T := TX6) (N := 7) (n := 7) htsT hi_X6 (htsT (.instantiable RX6 7) tw_1_73)
  obtain ⟨c7, i7, hKn7⟩ := u_known (ws := jT) (C := RX7) (T := TX7) (N := 3) (n := 3) htsT hi_X7 (htsT (.instantiable RX7 3) tw_2_30)
  obtain ⟨c8, i8, hKn8⟩ := u_known (ws := jT) (C := RX8) (T := TX8) (N := 5) (n := 5) htsT hi_X8 (htsT (.instantiable RX8 5) tw_1_148)
  obtain ⟨c9, i9, hKn9⟩ := u_known (ws := jT) (C := RX9) (T := TX9) (N := 3) (n := 3) htsT hi_X9 (htsT (.instantiable RX9 3) tw_2_74)
  obtain ⟨c10, i10, hKn10⟩ := u_known (ws := jT) (C := RX10) (T := TX10) (N := 6) (n := 6) htsT hi_X10 (htsT (.instantiable RX10 6) tw_1_31)
  obtain ⟨c11, i11, hKn11⟩ := u_known (ws := jT) (C := RX11) (T := TX11) (N := 14) (n := 14) htsT hi_X11 (htsT (.instantiable RX11 14) tw_1_23)
  obtain ⟨c12, i12, hKn12⟩ := u_known (ws := jT) (C := RX12) (T := TX12) (N := 51) (n := 51) htsT hi_X12 (htsT (.instantiable RX12 51) tw_5_83)
  obtain ⟨cI, kI, compI, hfI, hkI, hkindI⟩ := Cond.arrayClass_spec (htsT (.arrayClass .int) tw_1_65)
  obtain ⟨cB, kB, compB, hfB, hkB, hkindB⟩ := Cond.arrayClass_spec (htsT (.arrayClass .byte) tw_3_94)
  obtain ⟨ak, av, hE⟩ := str_env hts hs
  obtain ⟨dC, dI, hKc⟩ : ∃ (dC : Nat → ClassId) (dI : Nat → Nat → Nat), ∀ (k : Nat) (q : vw_C), vwCl[k]? = some q → u_Kn s q.1 q.2.1 q.2.2 (dC k) (dI k) := by
    refine ⟨fun k => [c0, c1, c2, c3, c4, c5, c6, c7, c8, c9, c10, c11, c12].getD k c0, fun k => [i0, i1, i2, i3, i4, i5, i6, i7, i8, i9, i10, i11, i12].getD k i0, ?_⟩
    intro k q hq
    match k, hq with
    | 0, hq => cases hq; exact hKn0
    | 1, hq => cases hq; exact hKn1
    | 2, hq => cases hq; exact hKn2
    | 3, hq => cases hq; exact hKn3
    | 4, hq => cases hq; exact hKn4
    | 5, hq => cases hq; exact hKn5
    | 6, hq => cases hq; exact hKn6
    | 7, hq => cases hq; exact hKn7
    | 8, hq => cases hq; exact hKn8
    | 9, hq => cases hq; exact hKn9
    | 10, hq => cases hq; exact hKn10
    | 11, hq => cases hq; exact hKn11
    | 12, hq => cases hq; exact hKn12
    | k + 13, hq => simp [vwCl] at hq
  have hK : va_K (dC, dI) vwCl [(cI, .int), (cB, .byte)] s := by
    refine ⟨hKc, fun k q hk => ?_⟩
    match k, hk with
    | 0, hk => cases hk; exact ⟨fun n z => ⟨fun k h => (by cases h), kI, hkI, compI, hkindI⟩, hfI⟩
    | 1, hk => cases hk; exact ⟨fun n z => ⟨fun k h => (by cases h), kB, hkB, compB, hkindB⟩, hfB⟩
    | k + 2, hk => simp at hk
  have hl := lv_entry ([.ref b]) (n := 4) (Nat.le_of_ble_eq_true rfl)
  rw [lg_entry_eq]
  generalize (lg_sl ([.ref b]) ++ List.replicate (4 - (lg_sl ([.ref b])).length) Slot.unset).toArray = ls at hl ⊢
  have hl : lv_has ls 4 [(0, .ref b)] := hl
  let G : jG := ((l, (dC, dI), (fun _ => 0), (cI, cB), ak, av), (p, e, room_1, s, m, #[Value.ref b], below, meth, c), (4, none, fun q => s.heap.size ≤ q))
  have C : nc G cL_law RL 4 1400 600000 7302250 := ⟨hx, hb, hml, hown, htsT, trivial, rfl, hlocks, hK, fun _ h => h, hN, trivial, rfl, rfl, Nat.le_of_ble_eq_true rfl, Nat.le_of_ble_eq_true rfl⟩
  have key : jQ G (lw_Z below #[Value.ref b] s) [] 0 [(0, .ref b)] [] 0 0 := by
    refine n_new (ci := 11) (nf := 14) (T := TX11) (fs := [.null, .null, .null, .null, .null, .null, .null, .null, .null, .null, .null, .null, .null, .int 0]) (ws' := fun q => [(q, .inr (11, [.null, .null, .null, .null, .null, .null, .null, .null, .null, .null, .null, .null, .null, .int 0]))]) (pc := 0) C tyX11 tyX11_ok hi_X11 tw_1_22 tw_1_23 tw_1_1 rfl (by intro j hj; match j, hj with | 0, _ => rfl | 1, _ => rfl | 2, _ => rfl | 3, _ => rfl | 4, _ => rfl | 5, _ => rfl | 6, _ => rfl | 7, _ => rfl | 8, _ => rfl | 9, _ => rfl | 10, _ => rfl | 11, _ => rfl | 12, _ => rfl | 13, _ => rfl | j + 14, hj => exact absurd hj (by omega)) (Nat.le_of_ble_eq_true rfl) (Nat.le_of_ble_eq_true rfl) (fun _ => rfl) dL_law_0 (fun a1 => ?_)
    refine n_dup (pc := 3) C dL_law_3 rfl ?_
    refine n_call (wr := []) (a := a1) (as := []) (mc' := 69) (ms' := 2646) (ws' := fun f => WD_X11_init a1 cI cB f) (pc := 4) C (n_runI (n := 0) (as := []) C (kt_X11_init (V := gV G)) tw_1_24 tw_1_25 tw_1_1 tw_1_26 rfl (by decide +kernel) (Nat.le_of_ble_eq_true rfl) (by decide) rfl (Nat.le_of_ble_eq_true rfl) ⟨Nat.le_of_ble_eq_true rfl, Nat.le_of_ble_eq_true rfl⟩ dL_law_4) rfl (fun _ => rfl) (fun f1 => ?_)
    refine n_astore (ls' := [(1, .ref a1), (0, .ref b)]) (pc := 7) C dL_law_7 rfl (by decide) rfl ?_
    refine n_new (ci := 12) (nf := 51) (T := TX12) (fs := [.null, .null, .null, .null, .null, .null, .int 0, .int 0, .int 0, .int 0, .int 0, .int 0, .int 0, .int 0, .int 0, .int 0, .null, .null, .null, .null, .null, .null, .null, .null, .null, .null, .null, .null, .null, .null, .null, .null, .null, .int 0, .int 0, .int 0, .int 0, .null, .int 0, .int 0, .null, .null, .int 0, .int 0, .null, .null, .null, .null, .null, .null, .int 0]) (ws' := fun q => WD_X11_init a1 cI cB f1 ++ [(q, .inr (12, [.null, .null, .null, .null, .null, .null, .int 0, .int 0, .int 0, .int 0, .int 0, .int 0, .int 0, .int 0, .int 0, .int 0, .null, .null, .null, .null, .null, .null, .null, .null, .null, .null, .null, .null, .null, .null, .null, .null, .null, .int 0, .int 0, .int 0, .int 0, .null, .int 0, .int 0, .null, .null, .int 0, .int 0, .null, .null, .null, .null, .null, .null, .int 0]))]) (pc := 8) C tyX12 tyX12_ok hi_X12 tw_5_82 tw_5_83 tw_1_13 rfl (by intro j hj; match j, hj with | 0, _ => rfl | 1, _ => rfl | 2, _ => rfl | 3, _ => rfl | 4, _ => rfl | 5, _ => rfl | 6, _ => rfl | 7, _ => rfl | 8, _ => rfl | 9, _ => rfl | 10, _ => rfl | 11, _ => rfl | 12, _ => rfl | 13, _ => rfl | 14, _ => rfl | 15, _ => rfl | 16, _ => rfl | 17, _ => rfl | 18, _ => rfl | 19, _ => rfl | 20, _ => rfl | 21, _ => rfl | 22, _ => rfl | 23, _ => rfl | 24, _ => rfl | 25, _ => rfl | 26, _ => rfl | 27, _ => rfl | 28, _ => rfl | 29, _ => rfl | 30, _ => rfl | 31, _ => rfl | 32, _ => rfl | 33, _ => rfl | 34, _ => rfl | 35, _ => rfl | 36, _ => rfl | 37, _ => rfl | 38, _ => rfl | 39, _ => rfl | 40, _ => rfl | 41, _ => rfl | 42, _ => rfl | 43, _ => rfl | 44, _ => rfl | 45, _ => rfl | 46, _ => rfl | 47, _ => rfl | 48, _ => rfl | 49, _ => rfl | 50, _ => rfl | j + 51, hj => exact absurd hj (by omega)) (Nat.le_of_ble_eq_true rfl) (Nat.le_of_ble_eq_true rfl) (fun _ => rfl) dL_law_8 (fun a2 => ?_)
    refine n_dup (pc := 11) C dL_law_11 rfl ?_
    refine n_call (wr := WD_X11_init a1 cI cB f1) (a := a2) (as := []) (mc' := 32) (ms' := 12961) (ws' := fun f => WD_X11_init a1 cI cB f1 ++ WD_X12_init a2 cI cB f) (pc := 12) C (n_runI (n := 0) (as := []) C (kt_X12_init (V := gV G)) tw_5_84 tw_5_85 tw_1_13 tw_5_86 rfl (by decide +kernel) (Nat.le_of_ble_eq_true rfl) (by decide) rfl (Nat.le_of_ble_eq_true rfl) ⟨Nat.le_of_ble_eq_true rfl, Nat.le_of_ble_eq_true rfl⟩ dL_law_12) rfl (fun _ => rfl) (fun f2 => ?_)
    refine n_astore (ls' := [(2, .ref a2), (1, .ref a1), (0, .ref b)]) (pc := 15) C dL_law_15 rfl (by decide) rfl ?_
    refine n_iconst (v := 0) (pc := 16) C dL_law_16 (by decide) ?_
    refine n_istore (ls' := [(3, .int 0), (2, .ref a2), (1, .ref a1), (0, .ref b)]) (pc := 17) C dL_law_17 rfl (by decide) rfl ?_
    obtain ⟨F, I, hI, s0, s1, s2, s3, s4, s5, s6, s7, s8, s9, s10, s11, s12, s13, s14, s15, s16, s17, s18, s19, s20, s21, s22, s23, s24, s25, s26, s27, s28, s29, s30, s31⟩ := hsim
    intro H locs la hP hD hS hL4
    let G2 : lG := ((p, e, s, m, below, meth, c), (b, L, xs), (l, (dC, dI), (fun i => if i = 0 then a1 else f1 i), (cI, cB), ak, av), (fun i => if i = 0 then a2 else f2 i))
    have e1 : WD_X11_init a1 cI cB f1 = wd cfX 70 (l1 G2) σ0 := wd_X0 a1 (l1 G2) f1
    have e2 : WD_X12_init a2 cI cB f2 = wd cfM 33 (l2 G2) τ0 := wd_M0 a2 (l2 G2) f2
    rw [e1, e2] at hP hD
    have len1 : (wd cfX 70 (l1 G2) σ0).length = 70 := by simp [wd]
    have get1 : ∀ (i : Nat) (q : Nat × va_E), (wd cfX 70 (l1 G2) σ0)[i]? = some q → (wd cfX 70 (l1 G2) σ0 ++ wd cfM 33 (l2 G2) τ0)[i]? = some q := by
      intro i q hi
      rw [List.getElem?_append_left (List.getElem?_eq_some_iff.mp hi).1]
      exact hi
    have get2 : ∀ (i : Nat) (q : Nat × va_E), (wd cfM 33 (l2 G2) τ0)[i]? = some q → (wd cfX 70 (l1 G2) σ0 ++ wd cfM 33 (l2 G2) τ0)[70 + i]? = some q := by
      intro i q hi
      rw [List.getElem?_append_right (by omega), len1, show 70 + i - 70 = i by omega]
      exact hi
    have C2 : lc G2 := by
      refine ⟨hx, hb, hr, hml, hown, htsT, hX, hbl, hlocks, hK, fun σ => ?_, fun τ => ?_, fun i j hi hj ee => ?_, hN, hE _ _ _ _ _⟩
      · refine wd_D (σ := σ0) ⟨fun i j p q hi hj ee => hD.1 i j p q (get1 i p hi) (get1 j q hj) ee, fun k q hk => hD.2 k q (get1 k q hk)⟩ σ
      · refine wd_D (σ := τ0) ⟨fun i j p q hi hj ee => ?_, fun k q hk => hD.2 (70 + k) q (get2 k q hk)⟩ τ
        have := hD.1 (70 + i) (70 + j) p q (get2 i p hi) (get2 j q hj) ee
        omega
      · have := hD.1 i (70 + j) _ _ (get1 i _ (wd_at hi)) (get2 j _ (wd_at hj)) ee
        omega
    refine W.widen (k := 600000) (n := 7302250) (Nat.le_of_ble_eq_true rfl) (Nat.le_of_ble_eq_true rfl) ?_
    exact law_loop C2 hL s0 s1 s2 s3 s4 s5 s6 s7 s8 s9 s10 s11 s12 s13 s14 s15 s16 s17 s18 s19 s20 s21 s22 s23 s24 s25 s26 s27 s28 s29 s30 s31 (L + 13) 0 0 σ0 τ0 (by omega) (by show L + 12 - 0 < L + 13; omega) rfl hI H locs la (fun k q hk => hP k q (get1 k q hk)) (fun k q hk => hP (70 + k) q (get2 k q hk)) hS (lv_sub hL4 [3, 2, 1, 0] rfl)
  exact key s.heap [] ls (fun k q h => by simp at h) ⟨fun i j p q h => by simp at h, fun k q h => by simp at h⟩ va_S.rf hl
