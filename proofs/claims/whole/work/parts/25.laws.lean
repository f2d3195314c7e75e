theorem dX4_opens_0 : decode cX4_opens 0 = .ok (.iload_n 1, 1) := by decide +kernel
theorem dX4_opens_1 : decode cX4_opens 1 = .ok (.bipush 6, 2) := by decide +kernel
theorem dX4_opens_3 : decode cX4_opens 3 = .ok (.if_icmp .lt 20, 3) := by decide +kernel
theorem dX4_opens_6 : decode cX4_opens 6 = .ok (.aload_n 0, 1) := by decide +kernel
theorem dX4_opens_7 : decode cX4_opens 7 = .ok (.getfield 9, 3) := by decide +kernel
theorem dX4_opens_10 : decode cX4_opens 10 = .ok (.iconst 5, 1) := by decide +kernel
theorem dX4_opens_11 : decode cX4_opens 11 = .ok (.aload_n 0, 1) := by decide +kernel
theorem dX4_opens_12 : decode cX4_opens 12 = .ok (.getfield 9, 3) := by decide +kernel
theorem dX4_opens_15 : decode cX4_opens 15 = .ok (.getfield 38, 3) := by decide +kernel
theorem dX4_opens_18 : decode cX4_opens 18 = .ok (.invokevirtual 41, 3) := by decide +kernel
theorem dX4_opens_21 : decode cX4_opens 21 = .ok (.iconst 0, 1) := by decide +kernel
theorem dX4_opens_22 : decode cX4_opens 22 = .ok (.ireturn, 1) := by decide +kernel
theorem dX4_opens_23 : decode cX4_opens 23 = .ok (.aload_n 0, 1) := by decide +kernel
theorem dX4_opens_24 : decode cX4_opens 24 = .ok (.getfield 9, 3) := by decide +kernel
theorem dX4_opens_27 : decode cX4_opens 27 = .ok (.invokevirtual 48, 3) := by decide +kernel
theorem dX4_opens_30 : decode cX4_opens 30 = .ok (.iconst 1, 1) := by decide +kernel
theorem dX4_opens_31 : decode cX4_opens 31 = .ok (.ireturn, 1) := by decide +kernel
def mX4_opens (F : Nat) (x1 : Int32) (σ : jS) : Option (Int32 × jS) := (if x1 < (6 : Int32) then (Option.bind (mX10_step F σ) fun q1 => some ((1 : Int32), q1)) else (Option.bind (mX10_fail F (5 : Int32) ((σ 1 3)) σ) fun q2 => some ((0 : Int32), q2)))
set_option maxHeartbeats 4000000 in
set_option maxRecDepth 100000 in
theorem kX4_opens {V : jV} {F : Nat} {x1 : Int32} {σ : jS} {v : (Int32 × jS)} (hm : mX4_opens F x1 σ = some v) : Ct cfX 70 V yX4_opens cX4_opens 2 (some .boolean) 1 [.ref (vad V 45), .int x1] σ v := by
  refine j_start (own := RX4) (by decide) rfl (Nat.le_of_ble_eq_true rfl) ?_
  intro G hV C
  subst hV
  unfold mX4_opens at hm
  show JX G 0 [(0, .ref (vad (gV G) 45)), (1, .int x1)] [] σ v
  refine j_iloadn (pc := 0) C 1 dX4_opens_0 rfl rfl ?_
  refine j_bipush (v := 6) (pc := 1) C dX4_opens_1 (by decide) ?_
  refine j_icmp_lt (tgt := 23) (pc := 3) C dX4_opens_3 (by decide) hm (fun _ hm => ?_) (fun _ hm => ?_)
  · refine j_aloadn (pc := 23) C 0 dX4_opens_23 rfl rfl ?_
    refine gf_X4_9 (c := 45) (pc := 24) C kx_45 dX4_opens_24 ?_
    obtain ⟨q1, hq1, hm⟩ := Option.bind_eq_some_iff.mp hm
    refine cl_X4_48 (c := 1) (pc := 27) C kx_1 (kX10_step hq1) (by decide) (Nat.le_of_ble_eq_true rfl) dX4_opens_27 ?_
    refine j_iconst (v := 1) (pc := 30) C dX4_opens_30 (by decide) ?_
    exact j_zretS (pc := 31) C rfl rfl dX4_opens_31 hm
  · refine j_aloadn (pc := 6) C 0 dX4_opens_6 rfl rfl ?_
    refine gf_X4_9 (c := 45) (pc := 7) C kx_45 dX4_opens_7 ?_
    refine j_iconst (v := 5) (pc := 10) C dX4_opens_10 (by decide) ?_
    refine j_aloadn (pc := 11) C 0 dX4_opens_11 rfl rfl ?_
    refine gf_X4_9 (c := 45) (pc := 12) C kx_45 dX4_opens_12 ?_
    refine gf_X4_38 (c := 1) (pc := 15) C kx_1 dX4_opens_15 ?_
    obtain ⟨q2, hq2, hm⟩ := Option.bind_eq_some_iff.mp hm
    refine cl_X4_41 (c := 1) (pc := 18) C kx_1 (kX10_fail hq2) (by decide) (Nat.le_of_ble_eq_true rfl) dX4_opens_18 ?_
    refine j_iconst (v := 0) (pc := 21) C dX4_opens_21 (by decide) ?_
    exact j_zretS (pc := 22) C rfl rfl dX4_opens_22 hm

theorem dX4_putWaiting_0 : decode cX4_putWaiting 0 = .ok (.iload_n 1, 1) := by decide +kernel
theorem dX4_putWaiting_1 : decode cX4_putWaiting 1 = .ok (.iconst (-1), 1) := by decide +kernel
theorem dX4_putWaiting_2 : decode cX4_putWaiting 2 = .ok (.if_icmp .eq 9, 3) := by decide +kernel
theorem dX4_putWaiting_5 : decode cX4_putWaiting 5 = .ok (.aload_n 0, 1) := by decide +kernel
theorem dX4_putWaiting_6 : decode cX4_putWaiting 6 = .ok (.iload_n 1, 1) := by decide +kernel
theorem dX4_putWaiting_7 : decode cX4_putWaiting 7 = .ok (.iconst 0, 1) := by decide +kernel
theorem dX4_putWaiting_8 : decode cX4_putWaiting 8 = .ok (.invokevirtual 82, 3) := by decide +kernel
theorem dX4_putWaiting_11 : decode cX4_putWaiting 11 = .ok (.return_, 1) := by decide +kernel
def mX4_putWaiting (F : Nat) (e0 : Nat) (x1 : Int32) (σ : jS) : Option jS := (if x1 = (-1 : Int32) then some σ else (Option.bind (mX3_put F e0 x1 (0 : Int32) σ) fun q1 => some q1))
set_option maxHeartbeats 4000000 in
set_option maxRecDepth 100000 in
theorem kX4_putWaiting {V : jV} {F : Nat} {e0 : Nat} (he0 : kX e0 = 3) {x1 : Int32} {σ : jS} {v : jS} (hm : mX4_putWaiting F e0 x1 σ = some v) : Ct cfX 70 V yX4_putWaiting cX4_putWaiting 2 none 1 [.ref (vad V e0), .int x1] σ (0, v) := by
  refine j_start (own := RX4) (by decide) rfl (Nat.le_of_ble_eq_true rfl) ?_
  intro G hV C
  subst hV
  unfold mX4_putWaiting at hm
  show JX G 0 [(0, .ref (vad (gV G) e0)), (1, .int x1)] [] σ (0, v)
  refine j_iloadn (pc := 0) C 1 dX4_putWaiting_0 rfl rfl ?_
  refine j_iconst (v := -1) (pc := 1) C dX4_putWaiting_1 (by decide) ?_
  refine j_icmp_eq (tgt := 11) (pc := 2) C dX4_putWaiting_2 (by decide) hm (fun _ hm => ?_) (fun _ hm => ?_)
  · exact j_vret (pc := 11) C rfl dX4_putWaiting_11 hm
  · refine j_aloadn (pc := 5) C 0 dX4_putWaiting_5 rfl rfl ?_
    refine j_iloadn (pc := 6) C 1 dX4_putWaiting_6 rfl rfl ?_
    refine j_iconst (v := 0) (pc := 7) C dX4_putWaiting_7 (by decide) ?_
    obtain ⟨q1, hq1, hm⟩ := Option.bind_eq_some_iff.mp hm
    refine cl_X4_82 (c := e0) (pc := 8) C he0 (kX3_put he0 hq1) (by decide) (Nat.le_of_ble_eq_true rfl) dX4_putWaiting_8 ?_
    exact j_vret (pc := 11) C rfl dX4_putWaiting_11 hm

theorem dX4_readFactor_0 : decode cX4_readFactor 0 = .ok (.aload_n 0, 1) := by decide +kernel
theorem dX4_readFactor_1 : decode cX4_readFactor 1 = .ok (.ldc 105, 2) := by decide +kernel
theorem dX4_readFactor_3 : decode cX4_readFactor 3 = .ok (.iconst 0, 1) := by decide +kernel
theorem dX4_readFactor_4 : decode cX4_readFactor 4 = .ok (.invokevirtual 87, 3) := by decide +kernel
theorem dX4_readFactor_7 : decode cX4_readFactor 7 = .ok (.istore_n 3, 1) := by decide +kernel
theorem dX4_readFactor_8 : decode cX4_readFactor 8 = .ok (.aload_n 0, 1) := by decide +kernel
theorem dX4_readFactor_9 : decode cX4_readFactor 9 = .ok (.getfield 9, 3) := by decide +kernel
theorem dX4_readFactor_12 : decode cX4_readFactor 12 = .ok (.bipush 91, 2) := by decide +kernel
theorem dX4_readFactor_14 : decode cX4_readFactor 14 = .ok (.invokevirtual 68, 3) := by decide +kernel
theorem dX4_readFactor_17 : decode cX4_readFactor 17 = .ok (.ifCond .eq 31, 3) := by decide +kernel
theorem dX4_readFactor_20 : decode cX4_readFactor 20 = .ok (.aload_n 0, 1) := by decide +kernel
theorem dX4_readFactor_21 : decode cX4_readFactor 21 = .ok (.iload_n 2, 1) := by decide +kernel
theorem dX4_readFactor_22 : decode cX4_readFactor 22 = .ok (.invokevirtual 79, 3) := by decide +kernel
theorem dX4_readFactor_25 : decode cX4_readFactor 25 = .ok (.ifCond .eq 57, 3) := by decide +kernel
theorem dX4_readFactor_28 : decode cX4_readFactor 28 = .ok (.aload_n 0, 1) := by decide +kernel
theorem dX4_readFactor_29 : decode cX4_readFactor 29 = .ok (.aload_n 1, 1) := by decide +kernel
theorem dX4_readFactor_30 : decode cX4_readFactor 30 = .ok (.iload_n 2, 1) := by decide +kernel
theorem dX4_readFactor_31 : decode cX4_readFactor 31 = .ok (.iconst 1, 1) := by decide +kernel
theorem dX4_readFactor_32 : decode cX4_readFactor 32 = .ok (.iadd, 1) := by decide +kernel
theorem dX4_readFactor_33 : decode cX4_readFactor 33 = .ok (.invokevirtual 54, 3) := by decide +kernel
theorem dX4_readFactor_36 : decode cX4_readFactor 36 = .ok (.aload_n 0, 1) := by decide +kernel
theorem dX4_readFactor_37 : decode cX4_readFactor 37 = .ok (.getfield 9, 3) := by decide +kernel
theorem dX4_readFactor_40 : decode cX4_readFactor 40 = .ok (.bipush 93, 2) := by decide +kernel
theorem dX4_readFactor_42 : decode cX4_readFactor 42 = .ok (.invokevirtual 30, 3) := by decide +kernel
theorem dX4_readFactor_45 : decode cX4_readFactor 45 = .ok (.goto 37, 3) := by decide +kernel
theorem dX4_readFactor_48 : decode cX4_readFactor 48 = .ok (.iload_n 3, 1) := by decide +kernel
theorem dX4_readFactor_49 : decode cX4_readFactor 49 = .ok (.iconst (-1), 1) := by decide +kernel
theorem dX4_readFactor_50 : decode cX4_readFactor 50 = .ok (.if_icmp .eq 19, 3) := by decide +kernel
theorem dX4_readFactor_53 : decode cX4_readFactor 53 = .ok (.aload_n 0, 1) := by decide +kernel
theorem dX4_readFactor_54 : decode cX4_readFactor 54 = .ok (.getfield 9, 3) := by decide +kernel
theorem dX4_readFactor_57 : decode cX4_readFactor 57 = .ok (.invokevirtual 48, 3) := by decide +kernel
theorem dX4_readFactor_60 : decode cX4_readFactor 60 = .ok (.aload_n 1, 1) := by decide +kernel
theorem dX4_readFactor_61 : decode cX4_readFactor 61 = .ok (.iconst 1, 1) := by decide +kernel
theorem dX4_readFactor_62 : decode cX4_readFactor 62 = .ok (.iload_n 3, 1) := by decide +kernel
theorem dX4_readFactor_63 : decode cX4_readFactor 63 = .ok (.invokevirtual 82, 3) := by decide +kernel
theorem dX4_readFactor_66 : decode cX4_readFactor 66 = .ok (.goto 16, 3) := by decide +kernel
theorem dX4_readFactor_69 : decode cX4_readFactor 69 = .ok (.aload_n 1, 1) := by decide +kernel
theorem dX4_readFactor_70 : decode cX4_readFactor 70 = .ok (.iconst 0, 1) := by decide +kernel
theorem dX4_readFactor_71 : decode cX4_readFactor 71 = .ok (.aload_n 0, 1) := by decide +kernel
theorem dX4_readFactor_72 : decode cX4_readFactor 72 = .ok (.getfield 9, 3) := by decide +kernel
theorem dX4_readFactor_75 : decode cX4_readFactor 75 = .ok (.iconst 5, 1) := by decide +kernel
theorem dX4_readFactor_76 : decode cX4_readFactor 76 = .ok (.invokevirtual 107, 3) := by decide +kernel
theorem dX4_readFactor_79 : decode cX4_readFactor 79 = .ok (.invokevirtual 82, 3) := by decide +kernel
theorem dX4_readFactor_82 : decode cX4_readFactor 82 = .ok (.return_, 1) := by decide +kernel
theorem dX4_readSum_0 : decode cX4_readSum 0 = .ok (.iconst (-1), 1) := by decide +kernel
theorem dX4_readSum_1 : decode cX4_readSum 1 = .ok (.istore_n 3, 1) := by decide +kernel
theorem dX4_readSum_2 : decode cX4_readSum 2 = .ok (.aload_n 0, 1) := by decide +kernel
theorem dX4_readSum_3 : decode cX4_readSum 3 = .ok (.aload_n 1, 1) := by decide +kernel
theorem dX4_readSum_4 : decode cX4_readSum 4 = .ok (.iload_n 2, 1) := by decide +kernel
theorem dX4_readSum_5 : decode cX4_readSum 5 = .ok (.invokevirtual 91, 3) := by decide +kernel
theorem dX4_readSum_8 : decode cX4_readSum 8 = .ok (.aload_n 0, 1) := by decide +kernel
theorem dX4_readSum_9 : decode cX4_readSum 9 = .ok (.ldc 94, 2) := by decide +kernel
theorem dX4_readSum_11 : decode cX4_readSum 11 = .ok (.iconst 5, 1) := by decide +kernel
theorem dX4_readSum_12 : decode cX4_readSum 12 = .ok (.invokevirtual 87, 3) := by decide +kernel
theorem dX4_readSum_15 : decode cX4_readSum 15 = .ok (.istore 4, 2) := by decide +kernel
theorem dX4_readSum_17 : decode cX4_readSum 17 = .ok (.iconst 1, 1) := by decide +kernel
theorem dX4_readSum_18 : decode cX4_readSum 18 = .ok (.istore 5, 2) := by decide +kernel
theorem dX4_readSum_20 : decode cX4_readSum 20 = .ok (.iload 5, 2) := by decide +kernel
theorem dX4_readSum_22 : decode cX4_readSum 22 = .ok (.sipush 240, 3) := by decide +kernel
theorem dX4_readSum_25 : decode cX4_readSum 25 = .ok (.if_icmp .ge 82, 3) := by decide +kernel
theorem dX4_readSum_28 : decode cX4_readSum 28 = .ok (.iload 4, 2) := by decide +kernel
theorem dX4_readSum_30 : decode cX4_readSum 30 = .ok (.iconst (-1), 1) := by decide +kernel
theorem dX4_readSum_31 : decode cX4_readSum 31 = .ok (.if_icmp .eq 76, 3) := by decide +kernel
theorem dX4_readSum_34 : decode cX4_readSum 34 = .ok (.aload_n 0, 1) := by decide +kernel
theorem dX4_readSum_35 : decode cX4_readSum 35 = .ok (.getfield 9, 3) := by decide +kernel
theorem dX4_readSum_38 : decode cX4_readSum 38 = .ok (.invokevirtual 48, 3) := by decide +kernel
theorem dX4_readSum_41 : decode cX4_readSum 41 = .ok (.iload 4, 2) := by decide +kernel
theorem dX4_readSum_43 : decode cX4_readSum 43 = .ok (.iconst 5, 1) := by decide +kernel
theorem dX4_readSum_44 : decode cX4_readSum 44 = .ok (.if_icmp .eq 10, 3) := by decide +kernel
theorem dX4_readSum_47 : decode cX4_readSum 47 = .ok (.iload 4, 2) := by decide +kernel
theorem dX4_readSum_49 : decode cX4_readSum 49 = .ok (.bipush 6, 2) := by decide +kernel
theorem dX4_readSum_51 : decode cX4_readSum 51 = .ok (.if_icmp .ne 7, 3) := by decide +kernel
theorem dX4_readSum_54 : decode cX4_readSum 54 = .ok (.iconst 1, 1) := by decide +kernel
theorem dX4_readSum_55 : decode cX4_readSum 55 = .ok (.goto 4, 3) := by decide +kernel
theorem dX4_readSum_58 : decode cX4_readSum 58 = .ok (.iconst 0, 1) := by decide +kernel
theorem dX4_readSum_59 : decode cX4_readSum 59 = .ok (.istore 6, 2) := by decide +kernel
theorem dX4_readSum_61 : decode cX4_readSum 61 = .ok (.iload 6, 2) := by decide +kernel
theorem dX4_readSum_63 : decode cX4_readSum 63 = .ok (.ifCond .eq 11, 3) := by decide +kernel
theorem dX4_readSum_66 : decode cX4_readSum 66 = .ok (.aload_n 1, 1) := by decide +kernel
theorem dX4_readSum_67 : decode cX4_readSum 67 = .ok (.iload_n 3, 1) := by decide +kernel
theorem dX4_readSum_68 : decode cX4_readSum 68 = .ok (.invokestatic 96, 3) := by decide +kernel
theorem dX4_readSum_71 : decode cX4_readSum 71 = .ok (.iload 4, 2) := by decide +kernel
theorem dX4_readSum_73 : decode cX4_readSum 73 = .ok (.istore_n 3, 1) := by decide +kernel
theorem dX4_readSum_74 : decode cX4_readSum 74 = .ok (.aload_n 0, 1) := by decide +kernel
theorem dX4_readSum_75 : decode cX4_readSum 75 = .ok (.aload_n 1, 1) := by decide +kernel
theorem dX4_readSum_76 : decode cX4_readSum 76 = .ok (.iload_n 2, 1) := by decide +kernel
theorem dX4_readSum_77 : decode cX4_readSum 77 = .ok (.invokevirtual 91, 3) := by decide +kernel
theorem dX4_readSum_80 : decode cX4_readSum 80 = .ok (.iload 6, 2) := by decide +kernel
theorem dX4_readSum_82 : decode cX4_readSum 82 = .ok (.ifCond .ne 10, 3) := by decide +kernel
theorem dX4_readSum_85 : decode cX4_readSum 85 = .ok (.aload_n 1, 1) := by decide +kernel
theorem dX4_readSum_86 : decode cX4_readSum 86 = .ok (.iload 4, 2) := by decide +kernel
theorem dX4_readSum_88 : decode cX4_readSum 88 = .ok (.iconst 0, 1) := by decide +kernel
theorem dX4_readSum_89 : decode cX4_readSum 89 = .ok (.invokevirtual 82, 3) := by decide +kernel
theorem dX4_readSum_92 : decode cX4_readSum 92 = .ok (.aload_n 0, 1) := by decide +kernel
theorem dX4_readSum_93 : decode cX4_readSum 93 = .ok (.ldc 94, 2) := by decide +kernel
theorem dX4_readSum_95 : decode cX4_readSum 95 = .ok (.iconst 5, 1) := by decide +kernel
theorem dX4_readSum_96 : decode cX4_readSum 96 = .ok (.invokevirtual 87, 3) := by decide +kernel
theorem dX4_readSum_99 : decode cX4_readSum 99 = .ok (.istore 4, 2) := by decide +kernel
theorem dX4_readSum_101 : decode cX4_readSum 101 = .ok (.iinc 5 1, 3) := by decide +kernel
theorem dX4_readSum_104 : decode cX4_readSum 104 = .ok (.goto (-84), 3) := by decide +kernel
theorem dX4_readSum_107 : decode cX4_readSum 107 = .ok (.aload_n 1, 1) := by decide +kernel
theorem dX4_readSum_108 : decode cX4_readSum 108 = .ok (.iload_n 3, 1) := by decide +kernel
theorem dX4_readSum_109 : decode cX4_readSum 109 = .ok (.invokestatic 96, 3) := by decide +kernel
theorem dX4_readSum_112 : decode cX4_readSum 112 = .ok (.return_, 1) := by decide +kernel
def bX4_readFactor (F : Nat) (e1 : Nat) (f_X4_readSum : Nat → Int32 → jS → Option jS) (x2 : Int32) (σ : jS) : Option jS := (Option.bind (mX4_stepOf F 1 (0 : Int32) σ) fun q1 => (Option.bind (mX10_stands F (91 : Int32) σ) fun q2 => (if q2 = 0 then (if q1 = (-1 : Int32) then (Option.bind (mX10_number F (5 : Int32) σ) fun q3 => (Option.bind (mX3_put F e1 (0 : Int32) q3.1 q3.2) fun q4 => some q4)) else (Option.bind (mX10_step F σ) fun q5 => (Option.bind (mX3_put F e1 (1 : Int32) q1 q5) fun q6 => some q6))) else (Option.bind (mX4_opens F x2 σ) fun q7 => (if q7.1 = 0 then some q7.2 else (Option.bind (f_X4_readSum e1 ((x2 + (1 : Int32))) q7.2) fun q8 => (Option.bind (mX10_take F (93 : Int32) q8) fun q9 => some q9)))))))
set_option maxHeartbeats 4000000 in
set_option maxRecDepth 100000 in
theorem kbX4_readFactor {V : jV} {F : Nat} {h2 h : Nat} {e1 : Nat} {f_X4_readSum : Nat → Int32 → jS → Option jS} (he1 : kX e1 = 3) (hf_X4_readSum : ∀ (e1 : Nat) (x2 : Int32) (σ : jS) (v : jS), kX e1 = 3 → f_X4_readSum e1 x2 σ = some v → Ct cfX 70 V yX4_readSum cX4_readSum 7 none h2 [.ref (vad V 45), .ref (vad V e1), .int x2] σ (0, v)) (hh2 : h2 + 1 ≤ h) (hb : 6 ≤ h) {x2 : Int32} {σ : jS} {v : jS} (hm : bX4_readFactor F e1 f_X4_readSum x2 σ = some v) : Ct cfX 70 V yX4_readFactor cX4_readFactor 4 none h [.ref (vad V 45), .ref (vad V e1), .int x2] σ (0, v) := by
  refine j_start (own := RX4) (by decide) rfl (Nat.le_of_ble_eq_true rfl) ?_
  intro G hV C
  subst hV
  unfold bX4_readFactor at hm
  show JX G 0 [(0, .ref (vad (gV G) 45)), (1, .ref (vad (gV G) e1)), (2, .int x2)] [] σ (0, v)
  refine j_aloadn (pc := 0) C 0 dX4_readFactor_0 rfl rfl ?_
  refine j_lds1 (pc := 1) C dX4_readFactor_1 ?_
  refine j_iconst (v := 0) (pc := 3) C dX4_readFactor_3 (by decide) ?_
  obtain ⟨q1, hq1, hm⟩ := Option.bind_eq_some_iff.mp hm
  refine cl_X4_87 (c := 45) (pc := 4) C kx_45 (kX4_stepOf (by decide) hq1) (by omega) (Nat.le_of_ble_eq_true rfl) dX4_readFactor_4 ?_
  refine j_istoren (ls' := [(3, .int q1), (0, .ref (vad (gV G) 45)), (1, .ref (vad (gV G) e1)), (2, .int x2)]) (pc := 7) C dX4_readFactor_7 rfl (by decide) rfl ?_
  refine j_aloadn (pc := 8) C 1 dX4_readFactor_8 rfl rfl ?_
  refine gf_X4_9 (c := 45) (pc := 9) C kx_45 dX4_readFactor_9 ?_
  refine j_bipush (v := 91) (pc := 12) C dX4_readFactor_12 (by decide) ?_
  obtain ⟨q2, hq2, hm⟩ := Option.bind_eq_some_iff.mp hm
  refine cl_X4_68 (c := 1) (pc := 14) C kx_1 (kX10_stands hq2) (by omega) (Nat.le_of_ble_eq_true rfl) dX4_readFactor_14 ?_
  refine j_if_eq (tgt := 48) (pc := 17) C dX4_readFactor_17 (by decide) hm (fun _ hm => ?_) (fun _ hm => ?_)
  · refine j_iloadn (pc := 48) C 0 dX4_readFactor_48 rfl rfl ?_
    refine j_iconst (v := -1) (pc := 49) C dX4_readFactor_49 (by decide) ?_
    refine j_icmp_eq (tgt := 69) (pc := 50) C dX4_readFactor_50 (by decide) hm (fun _ hm => ?_) (fun _ hm => ?_)
    · refine j_aloadn (pc := 69) C 2 dX4_readFactor_69 rfl rfl ?_
      refine j_iconst (v := 0) (pc := 70) C dX4_readFactor_70 (by decide) ?_
      refine j_aloadn (pc := 71) C 1 dX4_readFactor_71 rfl rfl ?_
      refine gf_X4_9 (c := 45) (pc := 72) C kx_45 dX4_readFactor_72 ?_
      refine j_iconst (v := 5) (pc := 75) C dX4_readFactor_75 (by decide) ?_
      obtain ⟨q3, hq3, hm⟩ := Option.bind_eq_some_iff.mp hm
      refine cl_X4_107 (c := 1) (pc := 76) C kx_1 (kX10_number hq3) (by omega) (Nat.le_of_ble_eq_true rfl) dX4_readFactor_76 ?_
      obtain ⟨q4, hq4, hm⟩ := Option.bind_eq_some_iff.mp hm
      refine cl_X4_82 (c := e1) (pc := 79) C he1 (kX3_put he1 hq4) (by omega) (Nat.le_of_ble_eq_true rfl) dX4_readFactor_79 ?_
      exact j_vret (pc := 82) C rfl dX4_readFactor_82 hm
    · refine j_aloadn (pc := 53) C 1 dX4_readFactor_53 rfl rfl ?_
      refine gf_X4_9 (c := 45) (pc := 54) C kx_45 dX4_readFactor_54 ?_
      obtain ⟨q5, hq5, hm⟩ := Option.bind_eq_some_iff.mp hm
      refine cl_X4_48 (c := 1) (pc := 57) C kx_1 (kX10_step hq5) (by omega) (Nat.le_of_ble_eq_true rfl) dX4_readFactor_57 ?_
      refine j_aloadn (pc := 60) C 2 dX4_readFactor_60 rfl rfl ?_
      refine j_iconst (v := 1) (pc := 61) C dX4_readFactor_61 (by decide) ?_
      refine j_iloadn (pc := 62) C 0 dX4_readFactor_62 rfl rfl ?_
      obtain ⟨q6, hq6, hm⟩ := Option.bind_eq_some_iff.mp hm
      refine cl_X4_82 (c := e1) (pc := 63) C he1 (kX3_put he1 hq6) (by omega) (Nat.le_of_ble_eq_true rfl) dX4_readFactor_63 ?_
      refine j_goto (tgt := 82) (pc := 66) C dX4_readFactor_66 (by decide) ?_
      exact j_vret (pc := 82) C rfl dX4_readFactor_82 hm
  · refine j_aloadn (pc := 20) C 1 dX4_readFactor_20 rfl rfl ?_
    refine j_iloadn (pc := 21) C 3 dX4_readFactor_21 rfl rfl ?_
    obtain ⟨q7, hq7, hm⟩ := Option.bind_eq_some_iff.mp hm
    refine cl_X4_79 (c := 45) (pc := 22) C kx_45 (kX4_opens hq7) (by omega) (Nat.le_of_ble_eq_true rfl) dX4_readFactor_22 ?_
    refine j_if_eq (tgt := 82) (pc := 25) C dX4_readFactor_25 (by decide) hm (fun _ hm => ?_) (fun _ hm => ?_)
    · exact j_vret (pc := 82) C rfl dX4_readFactor_82 hm
    · refine j_aloadn (pc := 28) C 1 dX4_readFactor_28 rfl rfl ?_
      refine j_aloadn (pc := 29) C 2 dX4_readFactor_29 rfl rfl ?_
      refine j_iloadn (pc := 30) C 3 dX4_readFactor_30 rfl rfl ?_
      refine j_iconst (v := 1) (pc := 31) C dX4_readFactor_31 (by decide) ?_
      refine j_iadd (pc := 32) C dX4_readFactor_32 ?_
      obtain ⟨q8, hq8, hm⟩ := Option.bind_eq_some_iff.mp hm
      refine cl_X4_54 (c := 45) (pc := 33) C kx_45 (hf_X4_readSum _ _ _ _ he1 hq8) hh2 (Nat.le_of_ble_eq_true rfl) dX4_readFactor_33 ?_
      refine j_aloadn (pc := 36) C 1 dX4_readFactor_36 rfl rfl ?_
      refine gf_X4_9 (c := 45) (pc := 37) C kx_45 dX4_readFactor_37 ?_
      refine j_bipush (v := 93) (pc := 40) C dX4_readFactor_40 (by decide) ?_
      obtain ⟨q9, hq9, hm⟩ := Option.bind_eq_some_iff.mp hm
      refine cl_X4_30 (c := 1) (pc := 42) C kx_1 (kX10_take hq9) (by omega) (Nat.le_of_ble_eq_true rfl) dX4_readFactor_42 ?_
      refine j_goto (tgt := 82) (pc := 45) C dX4_readFactor_45 (by decide) ?_
      exact j_vret (pc := 82) C rfl dX4_readFactor_82 hm

def jn_X4_readSum_74 (F : Nat) (e1 : Nat) (f_X4_readFactor : Nat → Int32 → jS → Option jS) (k20 : Int32 → Int32 → Int32 → Int32 → jS → Option jS) (x2 : Int32) (x3 : Int32) (x4 : Int32) (x5 : Int32) (x6 : Int32) (σ : jS) : Option jS := (Option.bind (f_X4_readFactor e1 x2 σ) fun q5 => (if x6 = 0 then (Option.bind (mX3_put F e1 x4 (0 : Int32) q5) fun q6 => (Option.bind (mX4_stepOf F 3 (5 : Int32) q6) fun q7 => (k20 x2 x3 q7 ((x5 + (1 : Int32))) q6))) else (Option.bind (mX4_stepOf F 3 (5 : Int32) q5) fun q8 => (k20 x2 x3 q8 ((x5 + (1 : Int32))) q5))))
set_option maxHeartbeats 4000000 in
set_option maxRecDepth 100000 in
theorem jn_X4_readSum_74_ok {G : jG} {h2 h : Nat} (C : jc cfX 70 G cX4_readSum RX4 7 none h) (F : Nat) (e1 : Nat) (f_X4_readFactor : Nat → Int32 → jS → Option jS) (he1 : kX e1 = 3) (hf_X4_readFactor : ∀ (e1 : Nat) (x2 : Int32) (σ : jS) (v : jS), kX e1 = 3 → f_X4_readFactor e1 x2 σ = some v → Ct cfX 70 (gV G) yX4_readFactor cX4_readFactor 4 none h2 [.ref (vad (gV G) 45), .ref (vad (gV G) e1), .int x2] σ (0, v)) (hh2 : h2 + 1 ≤ h) (hb : 6 ≤ h) {v : jS} (k20 : Int32 → Int32 → Int32 → Int32 → jS → Option jS) (hk20 : ∀ (x2 : Int32) (x3 : Int32) (x4 : Int32) (x5 : Int32) (σ : jS), k20 x2 x3 x4 x5 σ = some v → JX G 20 [(0, .ref (vad (gV G) 45)), (1, .ref (vad (gV G) e1)), (2, .int x2), (3, .int x3), (4, .int x4), (5, .int x5)] [] σ (0, v)) : ∀ (x2 : Int32) (x3 : Int32) (x4 : Int32) (x5 : Int32) (x6 : Int32) (σ : jS), jn_X4_readSum_74 F e1 f_X4_readFactor k20 x2 x3 x4 x5 x6 σ = some v → JX G 74 [(0, .ref (vad (gV G) 45)), (1, .ref (vad (gV G) e1)), (2, .int x2), (3, .int x3), (4, .int x4), (5, .int x5), (6, .int x6)] [] σ (0, v) := by
  intro x2 x3 x4 x5 x6 σ hm
  unfold jn_X4_readSum_74 at hm
  refine j_aloadn (pc := 74) C 0 dX4_readSum_74 rfl rfl ?_
  refine j_aloadn (pc := 75) C 1 dX4_readSum_75 rfl rfl ?_
  refine j_iloadn (pc := 76) C 2 dX4_readSum_76 rfl rfl ?_
  obtain ⟨q5, hq5, hm⟩ := Option.bind_eq_some_iff.mp hm
  refine cl_X4_91 (c := 45) (pc := 77) C kx_45 (hf_X4_readFactor _ _ _ _ he1 hq5) hh2 (Nat.le_of_ble_eq_true rfl) dX4_readSum_77 ?_
  refine j_iload (pc := 80) C 6 dX4_readSum_80 rfl ?_
  refine j_if_ne (tgt := 92) (pc := 82) C dX4_readSum_82 (by decide) hm (fun _ hm => ?_) (fun _ hm => ?_)
  · refine j_aloadn (pc := 85) C 1 dX4_readSum_85 rfl rfl ?_
    refine j_iload (pc := 86) C 4 dX4_readSum_86 rfl ?_
    refine j_iconst (v := 0) (pc := 88) C dX4_readSum_88 (by decide) ?_
    obtain ⟨q6, hq6, hm⟩ := Option.bind_eq_some_iff.mp hm
    refine cl_X4_82 (c := e1) (pc := 89) C he1 (kX3_put he1 hq6) (by omega) (Nat.le_of_ble_eq_true rfl) dX4_readSum_89 ?_
    refine j_aloadn (pc := 92) C 0 dX4_readSum_92 rfl rfl ?_
    refine j_lds3 (pc := 93) C dX4_readSum_93 ?_
    refine j_iconst (v := 5) (pc := 95) C dX4_readSum_95 (by decide) ?_
    obtain ⟨q7, hq7, hm⟩ := Option.bind_eq_some_iff.mp hm
    refine cl_X4_87 (c := 45) (pc := 96) C kx_45 (kX4_stepOf (by decide) hq7) (by omega) (Nat.le_of_ble_eq_true rfl) dX4_readSum_96 ?_
    refine j_istore (ls' := [(4, .int q7), (0, .ref (vad (gV G) 45)), (1, .ref (vad (gV G) e1)), (2, .int x2), (3, .int x3), (5, .int x5), (6, .int x6)]) (pc := 99) C dX4_readSum_99 (by decide) rfl ?_
    refine j_iinc (v := (x5 + (1 : Int32))) (ls' := [(5, .int (x5 + (1 : Int32))), (4, .int q7), (0, .ref (vad (gV G) 45)), (1, .ref (vad (gV G) e1)), (2, .int x2), (3, .int x3), (6, .int x6)]) (pc := 101) C 5 dX4_readSum_101 rfl rfl (by decide) rfl ?_
    refine j_goto (tgt := 20) (pc := 104) C dX4_readSum_104 (by decide) ?_
    refine j_ls [2, 3, 4, 5, 1, 0] rfl ?_
    exact hk20 _ _ _ _ _ hm
  · refine j_aloadn (pc := 92) C 0 dX4_readSum_92 rfl rfl ?_
    refine j_lds3 (pc := 93) C dX4_readSum_93 ?_
    refine j_iconst (v := 5) (pc := 95) C dX4_readSum_95 (by decide) ?_
    obtain ⟨q8, hq8, hm⟩ := Option.bind_eq_some_iff.mp hm
    refine cl_X4_87 (c := 45) (pc := 96) C kx_45 (kX4_stepOf (by decide) hq8) (by omega) (Nat.le_of_ble_eq_true rfl) dX4_readSum_96 ?_
    refine j_istore (ls' := [(4, .int q8), (0, .ref (vad (gV G) 45)), (1, .ref (vad (gV G) e1)), (2, .int x2), (3, .int x3), (5, .int x5), (6, .int x6)]) (pc := 99) C dX4_readSum_99 (by decide) rfl ?_
    refine j_iinc (v := (x5 + (1 : Int32))) (ls' := [(5, .int (x5 + (1 : Int32))), (4, .int q8), (0, .ref (vad (gV G) 45)), (1, .ref (vad (gV G) e1)), (2, .int x2), (3, .int x3), (6, .int x6)]) (pc := 101) C 5 dX4_readSum_101 rfl rfl (by decide) rfl ?_
    refine j_goto (tgt := 20) (pc := 104) C dX4_readSum_104 (by decide) ?_
    refine j_ls [2, 3, 4, 5, 1, 0] rfl ?_
    exact hk20 _ _ _ _ _ hm

def jn_X4_readSum_59 (F : Nat) (e1 : Nat) (f_X4_readFactor : Nat → Int32 → jS → Option jS) (k20 : Int32 → Int32 → Int32 → Int32 → jS → Option jS) (x2 : Int32) (x3 : Int32) (x4 : Int32) (x5 : Int32) (s0 : Int32) (σ : jS) : Option jS := (if s0 = 0 then (jn_X4_readSum_74 F e1 f_X4_readFactor (k20) x2 x3 x4 x5 s0 σ) else (Option.bind (mX4_putWaiting F e1 x3 σ) fun q9 => (jn_X4_readSum_74 F e1 f_X4_readFactor (k20) x2 x4 x4 x5 s0 q9)))
set_option maxHeartbeats 4000000 in
set_option maxRecDepth 100000 in
theorem jn_X4_readSum_59_ok {G : jG} {h2 h : Nat} (C : jc cfX 70 G cX4_readSum RX4 7 none h) (F : Nat) (e1 : Nat) (f_X4_readFactor : Nat → Int32 → jS → Option jS) (he1 : kX e1 = 3) (hf_X4_readFactor : ∀ (e1 : Nat) (x2 : Int32) (σ : jS) (v : jS), kX e1 = 3 → f_X4_readFactor e1 x2 σ = some v → Ct cfX 70 (gV G) yX4_readFactor cX4_readFactor 4 none h2 [.ref (vad (gV G) 45), .ref (vad (gV G) e1), .int x2] σ (0, v)) (hh2 : h2 + 1 ≤ h) (hb : 6 ≤ h) {v : jS} (k20 : Int32 → Int32 → Int32 → Int32 → jS → Option jS) (hk20 : ∀ (x2 : Int32) (x3 : Int32) (x4 : Int32) (x5 : Int32) (σ : jS), k20 x2 x3 x4 x5 σ = some v → JX G 20 [(0, .ref (vad (gV G) 45)), (1, .ref (vad (gV G) e1)), (2, .int x2), (3, .int x3), (4, .int x4), (5, .int x5)] [] σ (0, v)) : ∀ (x2 : Int32) (x3 : Int32) (x4 : Int32) (x5 : Int32) (s0 : Int32) (σ : jS), jn_X4_readSum_59 F e1 f_X4_readFactor k20 x2 x3 x4 x5 s0 σ = some v → JX G 59 [(0, .ref (vad (gV G) 45)), (1, .ref (vad (gV G) e1)), (2, .int x2), (3, .int x3), (4, .int x4), (5, .int x5)] [.int s0] σ (0, v) := by
  intro x2 x3 x4 x5 s0 σ hm
  unfold jn_X4_readSum_59 at hm
  refine j_istore (ls' := [(6, .int s0), (0, .ref (vad (gV G) 45)), (1, .ref (vad (gV G) e1)), (2, .int x2), (3, .int x3), (4, .int x4), (5, .int x5)]) (pc := 59) C dX4_readSum_59 (by decide) rfl ?_
  refine j_iload (pc := 61) C 0 dX4_readSum_61 rfl ?_
  refine j_if_eq (tgt := 74) (pc := 63) C dX4_readSum_63 (by decide) hm (fun _ hm => ?_) (fun _ hm => ?_)
  · refine j_ls [1, 2, 3, 4, 5, 6, 0] rfl ?_
    exact jn_X4_readSum_74_ok C F e1 f_X4_readFactor he1 hf_X4_readFactor hh2 hb _ (fun _ _ _ _ _ hm => hk20 _ _ _ _ _ hm) _ _ _ _ _ _ hm
  · refine j_aloadn (pc := 66) C 2 dX4_readSum_66 rfl rfl ?_
    refine j_iloadn (pc := 67) C 4 dX4_readSum_67 rfl rfl ?_
    obtain ⟨q9, hq9, hm⟩ := Option.bind_eq_some_iff.mp hm
    refine cl_X4_96 (pc := 68) C (kX4_putWaiting he1 hq9) (by omega) (Nat.le_of_ble_eq_true rfl) dX4_readSum_68 ?_
    refine j_iload (pc := 71) C 5 dX4_readSum_71 rfl ?_
    refine j_istoren (ls' := [(3, .int x4), (6, .int s0), (0, .ref (vad (gV G) 45)), (1, .ref (vad (gV G) e1)), (2, .int x2), (4, .int x4), (5, .int x5)]) (pc := 73) C dX4_readSum_73 rfl (by decide) rfl ?_
    refine j_ls [2, 3, 4, 0, 5, 6, 1] rfl ?_
    exact jn_X4_readSum_74_ok C F e1 f_X4_readFactor he1 hf_X4_readFactor hh2 hb _ (fun _ _ _ _ _ hm => hk20 _ _ _ _ _ hm) _ _ _ _ _ _ hm

def jn_X4_readSum_54 (F : Nat) (e1 : Nat) (f_X4_readFactor : Nat → Int32 → jS → Option jS) (k20 : Int32 → Int32 → Int32 → Int32 → jS → Option jS) (x2 : Int32) (x3 : Int32) (x4 : Int32) (x5 : Int32) (σ : jS) : Option jS := (jn_X4_readSum_59 F e1 f_X4_readFactor (k20) x2 x3 x4 x5 (1 : Int32) σ)
set_option maxHeartbeats 4000000 in
set_option maxRecDepth 100000 in
theorem jn_X4_readSum_54_ok {G : jG} {h2 h : Nat} (C : jc cfX 70 G cX4_readSum RX4 7 none h) (F : Nat) (e1 : Nat) (f_X4_readFactor : Nat → Int32 → jS → Option jS) (he1 : kX e1 = 3) (hf_X4_readFactor : ∀ (e1 : Nat) (x2 : Int32) (σ : jS) (v : jS), kX e1 = 3 → f_X4_readFactor e1 x2 σ = some v → Ct cfX 70 (gV G) yX4_readFactor cX4_readFactor 4 none h2 [.ref (vad (gV G) 45), .ref (vad (gV G) e1), .int x2] σ (0, v)) (hh2 : h2 + 1 ≤ h) (hb : 6 ≤ h) {v : jS} (k20 : Int32 → Int32 → Int32 → Int32 → jS → Option jS) (hk20 : ∀ (x2 : Int32) (x3 : Int32) (x4 : Int32) (x5 : Int32) (σ : jS), k20 x2 x3 x4 x5 σ = some v → JX G 20 [(0, .ref (vad (gV G) 45)), (1, .ref (vad (gV G) e1)), (2, .int x2), (3, .int x3), (4, .int x4), (5, .int x5)] [] σ (0, v)) : ∀ (x2 : Int32) (x3 : Int32) (x4 : Int32) (x5 : Int32) (σ : jS), jn_X4_readSum_54 F e1 f_X4_readFactor k20 x2 x3 x4 x5 σ = some v → JX G 54 [(0, .ref (vad (gV G) 45)), (1, .ref (vad (gV G) e1)), (2, .int x2), (3, .int x3), (4, .int x4), (5, .int x5)] [] σ (0, v) := by
  intro x2 x3 x4 x5 σ hm
  unfold jn_X4_readSum_54 at hm
  refine j_iconst (v := 1) (pc := 54) C dX4_readSum_54 (by decide) ?_
  refine j_goto (tgt := 59) (pc := 55) C dX4_readSum_55 (by decide) ?_
  exact jn_X4_readSum_59_ok C F e1 f_X4_readFactor he1 hf_X4_readFactor hh2 hb _ (fun _ _ _ _ _ hm => hk20 _ _ _ _ _ hm) _ _ _ _ _ _ hm

def lp_X4_readSum_20 (F : Nat) (e1 : Nat) (f_X4_readFactor : Nat → Int32 → jS → Option jS) : Nat → Int32 → Int32 → Int32 → Int32 → jS → Option jS
  | 0, _, _, _, _, _ => none
  | n + 1, x2, x3, x4, x5, σ => (if x5 < (240 : Int32) then (if x4 = (-1 : Int32) then (Option.bind (mX4_putWaiting F e1 x3 σ) fun q3 => some q3) else (Option.bind (mX10_step F σ) fun q4 => (if x4 = (5 : Int32) then (jn_X4_readSum_54 F e1 f_X4_readFactor (lp_X4_readSum_20 F e1 f_X4_readFactor n) x2 x3 x4 x5 q4) else (if x4 = (6 : Int32) then (jn_X4_readSum_54 F e1 f_X4_readFactor (lp_X4_readSum_20 F e1 f_X4_readFactor n) x2 x3 x4 x5 q4) else (jn_X4_readSum_59 F e1 f_X4_readFactor (lp_X4_readSum_20 F e1 f_X4_readFactor n) x2 x3 x4 x5 (0 : Int32) q4))))) else (Option.bind (mX4_putWaiting F e1 x3 σ) fun q10 => some q10))
set_option maxHeartbeats 4000000 in
set_option maxRecDepth 100000 in
theorem lp_X4_readSum_20_ok {G : jG} {h2 h : Nat} (C : jc cfX 70 G cX4_readSum RX4 7 none h) (F : Nat) (e1 : Nat) (f_X4_readFactor : Nat → Int32 → jS → Option jS) (he1 : kX e1 = 3) (hf_X4_readFactor : ∀ (e1 : Nat) (x2 : Int32) (σ : jS) (v : jS), kX e1 = 3 → f_X4_readFactor e1 x2 σ = some v → Ct cfX 70 (gV G) yX4_readFactor cX4_readFactor 4 none h2 [.ref (vad (gV G) 45), .ref (vad (gV G) e1), .int x2] σ (0, v)) (hh2 : h2 + 1 ≤ h) (hb : 6 ≤ h) {v : jS} : ∀ (n : Nat) (x2 : Int32) (x3 : Int32) (x4 : Int32) (x5 : Int32) (σ : jS), lp_X4_readSum_20 F e1 f_X4_readFactor n x2 x3 x4 x5 σ = some v → JX G 20 [(0, .ref (vad (gV G) 45)), (1, .ref (vad (gV G) e1)), (2, .int x2), (3, .int x3), (4, .int x4), (5, .int x5)] [] σ (0, v) := by
  intro n
  induction n with
  | zero =>
    intro x2 x3 x4 x5 σ hm
    rw [lp_X4_readSum_20] at hm
    cases hm
  | succ n ih =>
    intro x2 x3 x4 x5 σ hm
    rw [lp_X4_readSum_20] at hm
    refine j_iload (pc := 20) C 5 dX4_readSum_20 rfl ?_
    refine j_sipush (v := 240) (pc := 22) C dX4_readSum_22 (by decide) ?_
    refine j_icmp_ge (tgt := 107) (pc := 25) C dX4_readSum_25 (by decide) hm (fun _ hm => ?_) (fun _ hm => ?_)
    · refine j_iload (pc := 28) C 4 dX4_readSum_28 rfl ?_
      refine j_iconst (v := -1) (pc := 30) C dX4_readSum_30 (by decide) ?_
      refine j_icmp_eq (tgt := 107) (pc := 31) C dX4_readSum_31 (by decide) hm (fun _ hm => ?_) (fun _ hm => ?_)
      · refine j_aloadn (pc := 107) C 1 dX4_readSum_107 rfl rfl ?_
        refine j_iloadn (pc := 108) C 3 dX4_readSum_108 rfl rfl ?_
        obtain ⟨q3, hq3, hm⟩ := Option.bind_eq_some_iff.mp hm
        refine cl_X4_96 (pc := 109) C (kX4_putWaiting he1 hq3) (by omega) (Nat.le_of_ble_eq_true rfl) dX4_readSum_109 ?_
        exact j_vret (pc := 112) C rfl dX4_readSum_112 hm
      · refine j_aloadn (pc := 34) C 0 dX4_readSum_34 rfl rfl ?_
        refine gf_X4_9 (c := 45) (pc := 35) C kx_45 dX4_readSum_35 ?_
        obtain ⟨q4, hq4, hm⟩ := Option.bind_eq_some_iff.mp hm
        refine cl_X4_48 (c := 1) (pc := 38) C kx_1 (kX10_step hq4) (by omega) (Nat.le_of_ble_eq_true rfl) dX4_readSum_38 ?_
        refine j_iload (pc := 41) C 4 dX4_readSum_41 rfl ?_
        refine j_iconst (v := 5) (pc := 43) C dX4_readSum_43 (by decide) ?_
        refine j_icmp_eq (tgt := 54) (pc := 44) C dX4_readSum_44 (by decide) hm (fun _ hm => ?_) (fun _ hm => ?_)
        · exact jn_X4_readSum_54_ok C F e1 f_X4_readFactor he1 hf_X4_readFactor hh2 hb _ (fun _ _ _ _ _ hm => ih _ _ _ _ _ hm) _ _ _ _ _ hm
        · refine j_iload (pc := 47) C 4 dX4_readSum_47 rfl ?_
          refine j_bipush (v := 6) (pc := 49) C dX4_readSum_49 (by decide) ?_
          refine j_icmp_ne (tgt := 58) (pc := 51) C dX4_readSum_51 (by decide) hm (fun _ hm => ?_) (fun _ hm => ?_)
          · exact jn_X4_readSum_54_ok C F e1 f_X4_readFactor he1 hf_X4_readFactor hh2 hb _ (fun _ _ _ _ _ hm => ih _ _ _ _ _ hm) _ _ _ _ _ hm
          · refine j_iconst (v := 0) (pc := 58) C dX4_readSum_58 (by decide) ?_
            exact jn_X4_readSum_59_ok C F e1 f_X4_readFactor he1 hf_X4_readFactor hh2 hb _ (fun _ _ _ _ _ hm => ih _ _ _ _ _ hm) _ _ _ _ _ _ hm
    · refine j_aloadn (pc := 107) C 1 dX4_readSum_107 rfl rfl ?_
      refine j_iloadn (pc := 108) C 3 dX4_readSum_108 rfl rfl ?_
      obtain ⟨q10, hq10, hm⟩ := Option.bind_eq_some_iff.mp hm
      refine cl_X4_96 (pc := 109) C (kX4_putWaiting he1 hq10) (by omega) (Nat.le_of_ble_eq_true rfl) dX4_readSum_109 ?_
      exact j_vret (pc := 112) C rfl dX4_readSum_112 hm

def bX4_readSum (F : Nat) (e1 : Nat) (f_X4_readFactor : Nat → Int32 → jS → Option jS) (x2 : Int32) (σ : jS) : Option jS := (Option.bind (f_X4_readFactor e1 x2 σ) fun q1 => (Option.bind (mX4_stepOf F 3 (5 : Int32) q1) fun q2 => (lp_X4_readSum_20 F e1 f_X4_readFactor F x2 (-1 : Int32) q2 (1 : Int32) q1)))
set_option maxHeartbeats 4000000 in
set_option maxRecDepth 100000 in
theorem kbX4_readSum {V : jV} {F : Nat} {h2 h : Nat} {e1 : Nat} {f_X4_readFactor : Nat → Int32 → jS → Option jS} (he1 : kX e1 = 3) (hf_X4_readFactor : ∀ (e1 : Nat) (x2 : Int32) (σ : jS) (v : jS), kX e1 = 3 → f_X4_readFactor e1 x2 σ = some v → Ct cfX 70 V yX4_readFactor cX4_readFactor 4 none h2 [.ref (vad V 45), .ref (vad V e1), .int x2] σ (0, v)) (hh2 : h2 + 1 ≤ h) (hb : 6 ≤ h) {x2 : Int32} {σ : jS} {v : jS} (hm : bX4_readSum F e1 f_X4_readFactor x2 σ = some v) : Ct cfX 70 V yX4_readSum cX4_readSum 7 none h [.ref (vad V 45), .ref (vad V e1), .int x2] σ (0, v) := by
  refine j_start (own := RX4) (by decide) rfl (Nat.le_of_ble_eq_true rfl) ?_
  intro G hV C
  subst hV
  unfold bX4_readSum at hm
  show JX G 0 [(0, .ref (vad (gV G) 45)), (1, .ref (vad (gV G) e1)), (2, .int x2)] [] σ (0, v)
  refine j_iconst (v := -1) (pc := 0) C dX4_readSum_0 (by decide) ?_
  refine j_istoren (ls' := [(3, .int (-1 : Int32)), (0, .ref (vad (gV G) 45)), (1, .ref (vad (gV G) e1)), (2, .int x2)]) (pc := 1) C dX4_readSum_1 rfl (by decide) rfl ?_
  refine j_aloadn (pc := 2) C 1 dX4_readSum_2 rfl rfl ?_
  refine j_aloadn (pc := 3) C 2 dX4_readSum_3 rfl rfl ?_
  refine j_iloadn (pc := 4) C 3 dX4_readSum_4 rfl rfl ?_
  obtain ⟨q1, hq1, hm⟩ := Option.bind_eq_some_iff.mp hm
  refine cl_X4_91 (c := 45) (pc := 5) C kx_45 (hf_X4_readFactor _ _ _ _ he1 hq1) hh2 (Nat.le_of_ble_eq_true rfl) dX4_readSum_5 ?_
  refine j_aloadn (pc := 8) C 1 dX4_readSum_8 rfl rfl ?_
  refine j_lds3 (pc := 9) C dX4_readSum_9 ?_
  refine j_iconst (v := 5) (pc := 11) C dX4_readSum_11 (by decide) ?_
  obtain ⟨q2, hq2, hm⟩ := Option.bind_eq_some_iff.mp hm
  refine cl_X4_87 (c := 45) (pc := 12) C kx_45 (kX4_stepOf (by decide) hq2) (by omega) (Nat.le_of_ble_eq_true rfl) dX4_readSum_12 ?_
  refine j_istore (ls' := [(4, .int q2), (3, .int (-1 : Int32)), (0, .ref (vad (gV G) 45)), (1, .ref (vad (gV G) e1)), (2, .int x2)]) (pc := 15) C dX4_readSum_15 (by decide) rfl ?_
  refine j_iconst (v := 1) (pc := 17) C dX4_readSum_17 (by decide) ?_
  refine j_istore (ls' := [(5, .int (1 : Int32)), (4, .int q2), (3, .int (-1 : Int32)), (0, .ref (vad (gV G) 45)), (1, .ref (vad (gV G) e1)), (2, .int x2)]) (pc := 18) C dX4_readSum_18 (by decide) rfl ?_
  refine j_ls [3, 4, 5, 2, 1, 0] rfl ?_
  exact lp_X4_readSum_20_ok C F e1 f_X4_readFactor he1 hf_X4_readFactor hh2 hb  F _ _ _ _ _ hm

def rX4_readSum (F : Nat) : Nat → Nat → Int32 → jS → Option jS
  | 0, _, _, _ => none
  | d + 1, e1, x2, σ => bX4_readSum F e1 (fun e1 x2 σ => bX4_readFactor F e1 (rX4_readSum F d) x2 σ) x2 σ
theorem krX4_readSum {V : jV} {F : Nat} : ∀ (d e1 : Nat) (x2 : Int32) (σ v : jS), kX e1 = 3 → rX4_readSum F d e1 x2 σ = some v → Ct cfX 70 V yX4_readSum cX4_readSum 7 none (6 + 2 * d) [.ref (vad V 45), .ref (vad V e1), .int x2] σ (0, v) := by
  intro d
  induction d with
  | zero =>
    intro e1 x2 σ v he hm
    rw [rX4_readSum] at hm
    cases hm
  | succ d ih =>
    intro e1 x2 σ v he hm
    rw [rX4_readSum] at hm
    exact kbX4_readSum (h2 := 6 + 2 * d + 1) he (fun e x σ v he hm => kbX4_readFactor (h2 := 6 + 2 * d) he ih (by omega) (by omega) hm) (by omega) (by omega) hm
def mX4_readSum (F : Nat) (e1 : Nat) (x2 : Int32) (σ : jS) : Option jS := rX4_readSum F 9 e1 x2 σ
theorem kX4_readSum {V : jV} {F : Nat} {e1 : Nat} (he : kX e1 = 3) {x2 : Int32} {σ v : jS} (hm : mX4_readSum F e1 x2 σ = some v) : Ct cfX 70 V yX4_readSum cX4_readSum 7 none 24 [.ref (vad V 45), .ref (vad V e1), .int x2] σ (0, v) := krX4_readSum 9 e1 x2 σ v he hm
theorem dX4_readCase_0 : decode cX4_readCase 0 = .ok (.iconst (-1), 1) := by decide +kernel
theorem dX4_readCase_1 : decode cX4_readCase 1 = .ok (.istore_n 3, 1) := by decide +kernel
theorem dX4_readCase_2 : decode cX4_readCase 2 = .ok (.iconst (-1), 1) := by decide +kernel
theorem dX4_readCase_3 : decode cX4_readCase 3 = .ok (.istore 4, 2) := by decide +kernel
theorem dX4_readCase_5 : decode cX4_readCase 5 = .ok (.aload_n 0, 1) := by decide +kernel
theorem dX4_readCase_6 : decode cX4_readCase 6 = .ok (.aload_n 1, 1) := by decide +kernel
theorem dX4_readCase_7 : decode cX4_readCase 7 = .ok (.iload_n 2, 1) := by decide +kernel
theorem dX4_readCase_8 : decode cX4_readCase 8 = .ok (.invokevirtual 65, 3) := by decide +kernel
theorem dX4_readCase_11 : decode cX4_readCase 11 = .ok (.iconst 1, 1) := by decide +kernel
theorem dX4_readCase_12 : decode cX4_readCase 12 = .ok (.istore 5, 2) := by decide +kernel
theorem dX4_readCase_14 : decode cX4_readCase 14 = .ok (.iload 5, 2) := by decide +kernel
theorem dX4_readCase_16 : decode cX4_readCase 16 = .ok (.sipush 240, 3) := by decide +kernel
theorem dX4_readCase_19 : decode cX4_readCase 19 = .ok (.if_icmp .ge 86, 3) := by decide +kernel
theorem dX4_readCase_22 : decode cX4_readCase 22 = .ok (.aload_n 0, 1) := by decide +kernel
theorem dX4_readCase_23 : decode cX4_readCase 23 = .ok (.getfield 9, 3) := by decide +kernel
theorem dX4_readCase_26 : decode cX4_readCase 26 = .ok (.bipush 38, 2) := by decide +kernel
theorem dX4_readCase_28 : decode cX4_readCase 28 = .ok (.invokevirtual 68, 3) := by decide +kernel
theorem dX4_readCase_31 : decode cX4_readCase 31 = .ok (.ifCond .ne 15, 3) := by decide +kernel
theorem dX4_readCase_34 : decode cX4_readCase 34 = .ok (.aload_n 0, 1) := by decide +kernel
theorem dX4_readCase_35 : decode cX4_readCase 35 = .ok (.getfield 9, 3) := by decide +kernel
theorem dX4_readCase_38 : decode cX4_readCase 38 = .ok (.bipush 124, 2) := by decide +kernel
theorem dX4_readCase_40 : decode cX4_readCase 40 = .ok (.invokevirtual 68, 3) := by decide +kernel
theorem dX4_readCase_43 : decode cX4_readCase 43 = .ok (.ifCond .eq 62, 3) := by decide +kernel
theorem dX4_readCase_46 : decode cX4_readCase 46 = .ok (.aload_n 0, 1) := by decide +kernel
theorem dX4_readCase_47 : decode cX4_readCase 47 = .ok (.getfield 9, 3) := by decide +kernel
theorem dX4_readCase_50 : decode cX4_readCase 50 = .ok (.bipush 38, 2) := by decide +kernel
theorem dX4_readCase_52 : decode cX4_readCase 52 = .ok (.invokevirtual 68, 3) := by decide +kernel
theorem dX4_readCase_55 : decode cX4_readCase 55 = .ok (.ifCond .eq 15, 3) := by decide +kernel
theorem dX4_readCase_58 : decode cX4_readCase 58 = .ok (.aload_n 1, 1) := by decide +kernel
theorem dX4_readCase_59 : decode cX4_readCase 59 = .ok (.iconst 4, 1) := by decide +kernel
theorem dX4_readCase_60 : decode cX4_readCase 60 = .ok (.iload 4, 2) := by decide +kernel
theorem dX4_readCase_62 : decode cX4_readCase 62 = .ok (.invokevirtual 72, 3) := by decide +kernel
theorem dX4_readCase_65 : decode cX4_readCase 65 = .ok (.istore 4, 2) := by decide +kernel
theorem dX4_readCase_67 : decode cX4_readCase 67 = .ok (.goto 19, 3) := by decide +kernel
theorem dX4_readCase_70 : decode cX4_readCase 70 = .ok (.aload_n 1, 1) := by decide +kernel
theorem dX4_readCase_71 : decode cX4_readCase 71 = .ok (.iload 4, 2) := by decide +kernel
theorem dX4_readCase_73 : decode cX4_readCase 73 = .ok (.invokevirtual 76, 3) := by decide +kernel
theorem dX4_readCase_76 : decode cX4_readCase 76 = .ok (.iconst (-1), 1) := by decide +kernel
theorem dX4_readCase_77 : decode cX4_readCase 77 = .ok (.istore 4, 2) := by decide +kernel
theorem dX4_readCase_79 : decode cX4_readCase 79 = .ok (.aload_n 1, 1) := by decide +kernel
theorem dX4_readCase_80 : decode cX4_readCase 80 = .ok (.iconst 3, 1) := by decide +kernel
theorem dX4_readCase_81 : decode cX4_readCase 81 = .ok (.iload_n 3, 1) := by decide +kernel
theorem dX4_readCase_82 : decode cX4_readCase 82 = .ok (.invokevirtual 72, 3) := by decide +kernel
theorem dX4_readCase_85 : decode cX4_readCase 85 = .ok (.istore_n 3, 1) := by decide +kernel
theorem dX4_readCase_86 : decode cX4_readCase 86 = .ok (.aload_n 0, 1) := by decide +kernel
theorem dX4_readCase_87 : decode cX4_readCase 87 = .ok (.getfield 9, 3) := by decide +kernel
theorem dX4_readCase_90 : decode cX4_readCase 90 = .ok (.invokevirtual 48, 3) := by decide +kernel
theorem dX4_readCase_93 : decode cX4_readCase 93 = .ok (.aload_n 0, 1) := by decide +kernel
theorem dX4_readCase_94 : decode cX4_readCase 94 = .ok (.aload_n 1, 1) := by decide +kernel
theorem dX4_readCase_95 : decode cX4_readCase 95 = .ok (.iload_n 2, 1) := by decide +kernel
theorem dX4_readCase_96 : decode cX4_readCase 96 = .ok (.invokevirtual 65, 3) := by decide +kernel
theorem dX4_readCase_99 : decode cX4_readCase 99 = .ok (.iinc 5 1, 3) := by decide +kernel
theorem dX4_readCase_102 : decode cX4_readCase 102 = .ok (.goto (-88), 3) := by decide +kernel
theorem dX4_readCase_105 : decode cX4_readCase 105 = .ok (.aload_n 1, 1) := by decide +kernel
theorem dX4_readCase_106 : decode cX4_readCase 106 = .ok (.iload 4, 2) := by decide +kernel
theorem dX4_readCase_108 : decode cX4_readCase 108 = .ok (.invokevirtual 76, 3) := by decide +kernel
theorem dX4_readCase_111 : decode cX4_readCase 111 = .ok (.aload_n 1, 1) := by decide +kernel
theorem dX4_readCase_112 : decode cX4_readCase 112 = .ok (.iload_n 3, 1) := by decide +kernel
theorem dX4_readCase_113 : decode cX4_readCase 113 = .ok (.invokevirtual 76, 3) := by decide +kernel
theorem dX4_readCase_116 : decode cX4_readCase 116 = .ok (.return_, 1) := by decide +kernel
theorem dX4_readTest_0 : decode cX4_readTest 0 = .ok (.aload_n 0, 1) := by decide +kernel
theorem dX4_readTest_1 : decode cX4_readTest 1 = .ok (.getfield 9, 3) := by decide +kernel
theorem dX4_readTest_4 : decode cX4_readTest 4 = .ok (.bipush 33, 2) := by decide +kernel
theorem dX4_readTest_6 : decode cX4_readTest 6 = .ok (.invokevirtual 68, 3) := by decide +kernel
theorem dX4_readTest_9 : decode cX4_readTest 9 = .ok (.ifCond .eq 28, 3) := by decide +kernel
theorem dX4_readTest_12 : decode cX4_readTest 12 = .ok (.aload_n 0, 1) := by decide +kernel
theorem dX4_readTest_13 : decode cX4_readTest 13 = .ok (.iload_n 2, 1) := by decide +kernel
theorem dX4_readTest_14 : decode cX4_readTest 14 = .ok (.invokevirtual 79, 3) := by decide +kernel
theorem dX4_readTest_17 : decode cX4_readTest 17 = .ok (.ifCond .eq 115, 3) := by decide +kernel
theorem dX4_readTest_20 : decode cX4_readTest 20 = .ok (.aload_n 0, 1) := by decide +kernel
theorem dX4_readTest_21 : decode cX4_readTest 21 = .ok (.aload_n 1, 1) := by decide +kernel
theorem dX4_readTest_22 : decode cX4_readTest 22 = .ok (.iload_n 2, 1) := by decide +kernel
theorem dX4_readTest_23 : decode cX4_readTest 23 = .ok (.iconst 1, 1) := by decide +kernel
theorem dX4_readTest_24 : decode cX4_readTest 24 = .ok (.iadd, 1) := by decide +kernel
theorem dX4_readTest_25 : decode cX4_readTest 25 = .ok (.invokevirtual 65, 3) := by decide +kernel
theorem dX4_readTest_28 : decode cX4_readTest 28 = .ok (.aload_n 1, 1) := by decide +kernel
theorem dX4_readTest_29 : decode cX4_readTest 29 = .ok (.iconst 2, 1) := by decide +kernel
theorem dX4_readTest_30 : decode cX4_readTest 30 = .ok (.iconst 0, 1) := by decide +kernel
theorem dX4_readTest_31 : decode cX4_readTest 31 = .ok (.invokevirtual 82, 3) := by decide +kernel
theorem dX4_readTest_34 : decode cX4_readTest 34 = .ok (.goto 98, 3) := by decide +kernel
theorem dX4_readTest_37 : decode cX4_readTest 37 = .ok (.aload_n 0, 1) := by decide +kernel
theorem dX4_readTest_38 : decode cX4_readTest 38 = .ok (.getfield 9, 3) := by decide +kernel
theorem dX4_readTest_41 : decode cX4_readTest 41 = .ok (.bipush 40, 2) := by decide +kernel
theorem dX4_readTest_43 : decode cX4_readTest 43 = .ok (.invokevirtual 68, 3) := by decide +kernel
theorem dX4_readTest_46 : decode cX4_readTest 46 = .ok (.ifCond .eq 31, 3) := by decide +kernel
theorem dX4_readTest_49 : decode cX4_readTest 49 = .ok (.aload_n 0, 1) := by decide +kernel
theorem dX4_readTest_50 : decode cX4_readTest 50 = .ok (.iload_n 2, 1) := by decide +kernel
theorem dX4_readTest_51 : decode cX4_readTest 51 = .ok (.invokevirtual 79, 3) := by decide +kernel
theorem dX4_readTest_54 : decode cX4_readTest 54 = .ok (.ifCond .eq 78, 3) := by decide +kernel
theorem dX4_readTest_57 : decode cX4_readTest 57 = .ok (.aload_n 0, 1) := by decide +kernel
theorem dX4_readTest_58 : decode cX4_readTest 58 = .ok (.aload_n 1, 1) := by decide +kernel
theorem dX4_readTest_59 : decode cX4_readTest 59 = .ok (.iload_n 2, 1) := by decide +kernel
theorem dX4_readTest_60 : decode cX4_readTest 60 = .ok (.iconst 1, 1) := by decide +kernel
theorem dX4_readTest_61 : decode cX4_readTest 61 = .ok (.iadd, 1) := by decide +kernel
theorem dX4_readTest_62 : decode cX4_readTest 62 = .ok (.invokevirtual 58, 3) := by decide +kernel
theorem dX4_readTest_65 : decode cX4_readTest 65 = .ok (.aload_n 0, 1) := by decide +kernel
theorem dX4_readTest_66 : decode cX4_readTest 66 = .ok (.getfield 9, 3) := by decide +kernel
theorem dX4_readTest_69 : decode cX4_readTest 69 = .ok (.bipush 41, 2) := by decide +kernel
theorem dX4_readTest_71 : decode cX4_readTest 71 = .ok (.invokevirtual 30, 3) := by decide +kernel
theorem dX4_readTest_74 : decode cX4_readTest 74 = .ok (.goto 58, 3) := by decide +kernel
theorem dX4_readTest_77 : decode cX4_readTest 77 = .ok (.aload_n 0, 1) := by decide +kernel
theorem dX4_readTest_78 : decode cX4_readTest 78 = .ok (.aload_n 1, 1) := by decide +kernel
theorem dX4_readTest_79 : decode cX4_readTest 79 = .ok (.iload_n 2, 1) := by decide +kernel
theorem dX4_readTest_80 : decode cX4_readTest 80 = .ok (.invokevirtual 54, 3) := by decide +kernel
theorem dX4_readTest_83 : decode cX4_readTest 83 = .ok (.aload_n 0, 1) := by decide +kernel
theorem dX4_readTest_84 : decode cX4_readTest 84 = .ok (.ldc 85, 2) := by decide +kernel
theorem dX4_readTest_86 : decode cX4_readTest 86 = .ok (.bipush 10, 2) := by decide +kernel
theorem dX4_readTest_88 : decode cX4_readTest 88 = .ok (.invokevirtual 87, 3) := by decide +kernel
theorem dX4_readTest_91 : decode cX4_readTest 91 = .ok (.istore_n 3, 1) := by decide +kernel
theorem dX4_readTest_92 : decode cX4_readTest 92 = .ok (.iload_n 3, 1) := by decide +kernel
theorem dX4_readTest_93 : decode cX4_readTest 93 = .ok (.iconst (-1), 1) := by decide +kernel
theorem dX4_readTest_94 : decode cX4_readTest 94 = .ok (.if_icmp .ne 19, 3) := by decide +kernel
theorem dX4_readTest_97 : decode cX4_readTest 97 = .ok (.aload_n 0, 1) := by decide +kernel
theorem dX4_readTest_98 : decode cX4_readTest 98 = .ok (.getfield 9, 3) := by decide +kernel
theorem dX4_readTest_101 : decode cX4_readTest 101 = .ok (.iconst 1, 1) := by decide +kernel
theorem dX4_readTest_102 : decode cX4_readTest 102 = .ok (.aload_n 0, 1) := by decide +kernel
theorem dX4_readTest_103 : decode cX4_readTest 103 = .ok (.getfield 9, 3) := by decide +kernel
theorem dX4_readTest_106 : decode cX4_readTest 106 = .ok (.getfield 38, 3) := by decide +kernel
theorem dX4_readTest_109 : decode cX4_readTest 109 = .ok (.invokevirtual 41, 3) := by decide +kernel
theorem dX4_readTest_112 : decode cX4_readTest 112 = .ok (.return_, 1) := by decide +kernel
theorem dX4_readTest_113 : decode cX4_readTest 113 = .ok (.aload_n 0, 1) := by decide +kernel
theorem dX4_readTest_114 : decode cX4_readTest 114 = .ok (.getfield 9, 3) := by decide +kernel
theorem dX4_readTest_117 : decode cX4_readTest 117 = .ok (.invokevirtual 48, 3) := by decide +kernel
theorem dX4_readTest_120 : decode cX4_readTest 120 = .ok (.aload_n 0, 1) := by decide +kernel
theorem dX4_readTest_121 : decode cX4_readTest 121 = .ok (.aload_n 1, 1) := by decide +kernel
theorem dX4_readTest_122 : decode cX4_readTest 122 = .ok (.iload_n 2, 1) := by decide +kernel
theorem dX4_readTest_123 : decode cX4_readTest 123 = .ok (.invokevirtual 54, 3) := by decide +kernel
theorem dX4_readTest_126 : decode cX4_readTest 126 = .ok (.aload_n 1, 1) := by decide +kernel
theorem dX4_readTest_127 : decode cX4_readTest 127 = .ok (.iload_n 3, 1) := by decide +kernel
theorem dX4_readTest_128 : decode cX4_readTest 128 = .ok (.iconst 0, 1) := by decide +kernel
theorem dX4_readTest_129 : decode cX4_readTest 129 = .ok (.invokevirtual 82, 3) := by decide +kernel
theorem dX4_readTest_132 : decode cX4_readTest 132 = .ok (.return_, 1) := by decide +kernel
def jn_X4_readCase_46 (F : Nat) (e1 : Nat) (f_X4_readTest : Nat → Int32 → jS → Option jS) (k14 : Int32 → Int32 → Int32 → Int32 → jS → Option jS) (x2 : Int32) (x3 : Int32) (x4 : Int32) (x5 : Int32) (σ : jS) : Option jS := (Option.bind (mX10_stands F (38 : Int32) σ) fun q4 => (if q4 = 0 then (Option.bind (mX3_aim F e1 x4 σ) fun q5 => (Option.bind (mX3_putJump F e1 (3 : Int32) x3 q5) fun q6 => (Option.bind (mX10_step F q6.2) fun q7 => (Option.bind (f_X4_readTest e1 x2 q7) fun q8 => (k14 x2 q6.1 (-1 : Int32) ((x5 + (1 : Int32))) q8))))) else (Option.bind (mX3_putJump F e1 (4 : Int32) x4 σ) fun q9 => (Option.bind (mX10_step F q9.2) fun q10 => (Option.bind (f_X4_readTest e1 x2 q10) fun q11 => (k14 x2 x3 q9.1 ((x5 + (1 : Int32))) q11))))))
set_option maxHeartbeats 4000000 in
set_option maxRecDepth 100000 in
theorem jn_X4_readCase_46_ok {G : jG} {h2 h : Nat} (C : jc cfX 70 G cX4_readCase RX4 6 none h) (F : Nat) (e1 : Nat) (f_X4_readTest : Nat → Int32 → jS → Option jS) (he1 : kX e1 = 3) (hf_X4_readTest : ∀ (e1 : Nat) (x2 : Int32) (σ : jS) (v : jS), kX e1 = 3 → f_X4_readTest e1 x2 σ = some v → Ct cfX 70 (gV G) yX4_readTest cX4_readTest 4 none h2 [.ref (vad (gV G) 45), .ref (vad (gV G) e1), .int x2] σ (0, v)) (hh2 : h2 + 1 ≤ h) (hb : 30 ≤ h) {v : jS} (k14 : Int32 → Int32 → Int32 → Int32 → jS → Option jS) (hk14 : ∀ (x2 : Int32) (x3 : Int32) (x4 : Int32) (x5 : Int32) (σ : jS), k14 x2 x3 x4 x5 σ = some v → JX G 14 [(0, .ref (vad (gV G) 45)), (1, .ref (vad (gV G) e1)), (2, .int x2), (3, .int x3), (4, .int x4), (5, .int x5)] [] σ (0, v)) : ∀ (x2 : Int32) (x3 : Int32) (x4 : Int32) (x5 : Int32) (σ : jS), jn_X4_readCase_46 F e1 f_X4_readTest k14 x2 x3 x4 x5 σ = some v → JX G 46 [(0, .ref (vad (gV G) 45)), (1, .ref (vad (gV G) e1)), (2, .int x2), (3, .int x3), (4, .int x4), (5, .int x5)] [] σ (0, v) := by
  intro x2 x3 x4 x5 σ hm
  unfold jn_X4_readCase_46 at hm
  refine j_aloadn (pc := 46) C 0 dX4_readCase_46 rfl rfl ?_
  refine gf_X4_9 (c := 45) (pc := 47) C kx_45 dX4_readCase_47 ?_
  refine j_bipush (v := 38) (pc := 50) C dX4_readCase_50 (by decide) ?_
  obtain ⟨q4, hq4, hm⟩ := Option.bind_eq_some_iff.mp hm
  refine cl_X4_68 (c := 1) (pc := 52) C kx_1 (kX10_stands hq4) (by omega) (Nat.le_of_ble_eq_true rfl) dX4_readCase_52 ?_
  refine j_if_eq (tgt := 70) (pc := 55) C dX4_readCase_55 (by decide) hm (fun _ hm => ?_) (fun _ hm => ?_)
  · refine j_aloadn (pc := 70) C 1 dX4_readCase_70 rfl rfl ?_
    refine j_iload (pc := 71) C 4 dX4_readCase_71 rfl ?_
    obtain ⟨q5, hq5, hm⟩ := Option.bind_eq_some_iff.mp hm
    refine cl_X4_76 (c := e1) (pc := 73) C he1 (kX3_aim he1 hq5) (by omega) (Nat.le_of_ble_eq_true rfl) dX4_readCase_73 ?_
    refine j_iconst (v := -1) (pc := 76) C dX4_readCase_76 (by decide) ?_
    refine j_istore (ls' := [(4, .int (-1 : Int32)), (0, .ref (vad (gV G) 45)), (1, .ref (vad (gV G) e1)), (2, .int x2), (3, .int x3), (5, .int x5)]) (pc := 77) C dX4_readCase_77 (by decide) rfl ?_
    refine j_aloadn (pc := 79) C 2 dX4_readCase_79 rfl rfl ?_
    refine j_iconst (v := 3) (pc := 80) C dX4_readCase_80 (by decide) ?_
    refine j_iloadn (pc := 81) C 4 dX4_readCase_81 rfl rfl ?_
    obtain ⟨q6, hq6, hm⟩ := Option.bind_eq_some_iff.mp hm
    refine cl_X4_72 (c := e1) (pc := 82) C he1 (kX3_putJump he1 hq6) (by omega) (Nat.le_of_ble_eq_true rfl) dX4_readCase_82 ?_
    refine j_istoren (ls' := [(3, .int q6.1), (4, .int (-1 : Int32)), (0, .ref (vad (gV G) 45)), (1, .ref (vad (gV G) e1)), (2, .int x2), (5, .int x5)]) (pc := 85) C dX4_readCase_85 rfl (by decide) rfl ?_
    refine j_aloadn (pc := 86) C 2 dX4_readCase_86 rfl rfl ?_
    refine gf_X4_9 (c := 45) (pc := 87) C kx_45 dX4_readCase_87 ?_
    obtain ⟨q7, hq7, hm⟩ := Option.bind_eq_some_iff.mp hm
    refine cl_X4_48 (c := 1) (pc := 90) C kx_1 (kX10_step hq7) (by omega) (Nat.le_of_ble_eq_true rfl) dX4_readCase_90 ?_
    refine j_aloadn (pc := 93) C 2 dX4_readCase_93 rfl rfl ?_
    refine j_aloadn (pc := 94) C 3 dX4_readCase_94 rfl rfl ?_
    refine j_iloadn (pc := 95) C 4 dX4_readCase_95 rfl rfl ?_
    obtain ⟨q8, hq8, hm⟩ := Option.bind_eq_some_iff.mp hm
    refine cl_X4_65 (c := 45) (pc := 96) C kx_45 (hf_X4_readTest _ _ _ _ he1 hq8) hh2 (Nat.le_of_ble_eq_true rfl) dX4_readCase_96 ?_
    refine j_iinc (v := (x5 + (1 : Int32))) (ls' := [(5, .int (x5 + (1 : Int32))), (3, .int q6.1), (4, .int (-1 : Int32)), (0, .ref (vad (gV G) 45)), (1, .ref (vad (gV G) e1)), (2, .int x2)]) (pc := 99) C 5 dX4_readCase_99 rfl rfl (by decide) rfl ?_
    refine j_goto (tgt := 14) (pc := 102) C dX4_readCase_102 (by decide) ?_
    refine j_ls [3, 4, 5, 1, 2, 0] rfl ?_
    exact hk14 _ _ _ _ _ hm
  · refine j_aloadn (pc := 58) C 1 dX4_readCase_58 rfl rfl ?_
    refine j_iconst (v := 4) (pc := 59) C dX4_readCase_59 (by decide) ?_
    refine j_iload (pc := 60) C 4 dX4_readCase_60 rfl ?_
    obtain ⟨q9, hq9, hm⟩ := Option.bind_eq_some_iff.mp hm
    refine cl_X4_72 (c := e1) (pc := 62) C he1 (kX3_putJump he1 hq9) (by omega) (Nat.le_of_ble_eq_true rfl) dX4_readCase_62 ?_
    refine j_istore (ls' := [(4, .int q9.1), (0, .ref (vad (gV G) 45)), (1, .ref (vad (gV G) e1)), (2, .int x2), (3, .int x3), (5, .int x5)]) (pc := 65) C dX4_readCase_65 (by decide) rfl ?_
    refine j_goto (tgt := 86) (pc := 67) C dX4_readCase_67 (by decide) ?_
    refine j_aloadn (pc := 86) C 1 dX4_readCase_86 rfl rfl ?_
    refine gf_X4_9 (c := 45) (pc := 87) C kx_45 dX4_readCase_87 ?_
    obtain ⟨q10, hq10, hm⟩ := Option.bind_eq_some_iff.mp hm
    refine cl_X4_48 (c := 1) (pc := 90) C kx_1 (kX10_step hq10) (by omega) (Nat.le_of_ble_eq_true rfl) dX4_readCase_90 ?_
    refine j_aloadn (pc := 93) C 1 dX4_readCase_93 rfl rfl ?_
    refine j_aloadn (pc := 94) C 2 dX4_readCase_94 rfl rfl ?_
    refine j_iloadn (pc := 95) C 3 dX4_readCase_95 rfl rfl ?_
    obtain ⟨q11, hq11, hm⟩ := Option.bind_eq_some_iff.mp hm
    refine cl_X4_65 (c := 45) (pc := 96) C kx_45 (hf_X4_readTest _ _ _ _ he1 hq11) hh2 (Nat.le_of_ble_eq_true rfl) dX4_readCase_96 ?_
    refine j_iinc (v := (x5 + (1 : Int32))) (ls' := [(5, .int (x5 + (1 : Int32))), (4, .int q9.1), (0, .ref (vad (gV G) 45)), (1, .ref (vad (gV G) e1)), (2, .int x2), (3, .int x3)]) (pc := 99) C 5 dX4_readCase_99 rfl rfl (by decide) rfl ?_
    refine j_goto (tgt := 14) (pc := 102) C dX4_readCase_102 (by decide) ?_
    refine j_ls [2, 3, 4, 5, 1, 0] rfl ?_
    exact hk14 _ _ _ _ _ hm

def lp_X4_readCase_14 (F : Nat) (e1 : Nat) (f_X4_readTest : Nat → Int32 → jS → Option jS) (k105 : Int32 → Int32 → jS → Option jS) : Nat → Int32 → Int32 → Int32 → Int32 → jS → Option jS
  | 0, _, _, _, _, _ => none
  | n + 1, x2, x3, x4, x5, σ => (if x5 < (240 : Int32) then (Option.bind (mX10_stands F (38 : Int32) σ) fun q2 => (if q2 = 0 then (Option.bind (mX10_stands F (124 : Int32) σ) fun q3 => (if q3 = 0 then (k105 x3 x4 σ) else (jn_X4_readCase_46 F e1 f_X4_readTest (lp_X4_readCase_14 F e1 f_X4_readTest k105 n) x2 x3 x4 x5 σ))) else (jn_X4_readCase_46 F e1 f_X4_readTest (lp_X4_readCase_14 F e1 f_X4_readTest k105 n) x2 x3 x4 x5 σ))) else (k105 x3 x4 σ))
set_option maxHeartbeats 4000000 in
set_option maxRecDepth 100000 in
theorem lp_X4_readCase_14_ok {G : jG} {h2 h : Nat} (C : jc cfX 70 G cX4_readCase RX4 6 none h) (F : Nat) (e1 : Nat) (f_X4_readTest : Nat → Int32 → jS → Option jS) (he1 : kX e1 = 3) (hf_X4_readTest : ∀ (e1 : Nat) (x2 : Int32) (σ : jS) (v : jS), kX e1 = 3 → f_X4_readTest e1 x2 σ = some v → Ct cfX 70 (gV G) yX4_readTest cX4_readTest 4 none h2 [.ref (vad (gV G) 45), .ref (vad (gV G) e1), .int x2] σ (0, v)) (hh2 : h2 + 1 ≤ h) (hb : 30 ≤ h) {v : jS} (k105 : Int32 → Int32 → jS → Option jS) (hk105 : ∀ (x3 : Int32) (x4 : Int32) (σ : jS), k105 x3 x4 σ = some v → JX G 105 [(1, .ref (vad (gV G) e1)), (3, .int x3), (4, .int x4)] [] σ (0, v)) : ∀ (n : Nat) (x2 : Int32) (x3 : Int32) (x4 : Int32) (x5 : Int32) (σ : jS), lp_X4_readCase_14 F e1 f_X4_readTest k105 n x2 x3 x4 x5 σ = some v → JX G 14 [(0, .ref (vad (gV G) 45)), (1, .ref (vad (gV G) e1)), (2, .int x2), (3, .int x3), (4, .int x4), (5, .int x5)] [] σ (0, v) := by
  intro n
  induction n with
  | zero =>
    intro x2 x3 x4 x5 σ hm
    rw [lp_X4_readCase_14] at hm
    cases hm
  | succ n ih =>
    intro x2 x3 x4 x5 σ hm
    rw [lp_X4_readCase_14] at hm
    refine j_iload (pc := 14) C 5 dX4_readCase_14 rfl ?_
    refine j_sipush (v := 240) (pc := 16) C dX4_readCase_16 (by decide) ?_
    refine j_icmp_ge (tgt := 105) (pc := 19) C dX4_readCase_19 (by decide) hm (fun _ hm => ?_) (fun _ hm => ?_)
    · refine j_aloadn (pc := 22) C 0 dX4_readCase_22 rfl rfl ?_
      refine gf_X4_9 (c := 45) (pc := 23) C kx_45 dX4_readCase_23 ?_
      refine j_bipush (v := 38) (pc := 26) C dX4_readCase_26 (by decide) ?_
      obtain ⟨q2, hq2, hm⟩ := Option.bind_eq_some_iff.mp hm
      refine cl_X4_68 (c := 1) (pc := 28) C kx_1 (kX10_stands hq2) (by omega) (Nat.le_of_ble_eq_true rfl) dX4_readCase_28 ?_
      refine j_if_ne (tgt := 46) (pc := 31) C dX4_readCase_31 (by decide) hm (fun _ hm => ?_) (fun _ hm => ?_)
      · refine j_aloadn (pc := 34) C 0 dX4_readCase_34 rfl rfl ?_
        refine gf_X4_9 (c := 45) (pc := 35) C kx_45 dX4_readCase_35 ?_
        refine j_bipush (v := 124) (pc := 38) C dX4_readCase_38 (by decide) ?_
        obtain ⟨q3, hq3, hm⟩ := Option.bind_eq_some_iff.mp hm
        refine cl_X4_68 (c := 1) (pc := 40) C kx_1 (kX10_stands hq3) (by omega) (Nat.le_of_ble_eq_true rfl) dX4_readCase_40 ?_
        refine j_if_eq (tgt := 105) (pc := 43) C dX4_readCase_43 (by decide) hm (fun _ hm => ?_) (fun _ hm => ?_)
        · refine j_ls [1, 3, 4] rfl ?_
          exact hk105 _ _ _ hm
        · exact jn_X4_readCase_46_ok C F e1 f_X4_readTest he1 hf_X4_readTest hh2 hb _ (fun _ _ _ _ _ hm => ih _ _ _ _ _ hm) _ _ _ _ _ hm
      · exact jn_X4_readCase_46_ok C F e1 f_X4_readTest he1 hf_X4_readTest hh2 hb _ (fun _ _ _ _ _ hm => ih _ _ _ _ _ hm) _ _ _ _ _ hm
    · refine j_ls [1, 3, 4] rfl ?_
      exact hk105 _ _ _ hm

def bX4_readCase (F : Nat) (e1 : Nat) (f_X4_readTest : Nat → Int32 → jS → Option jS) (x2 : Int32) (σ : jS) : Option jS := (Option.bind (f_X4_readTest e1 x2 σ) fun q1 => (lp_X4_readCase_14 F e1 f_X4_readTest (fun x3_12 x4_12 σ12 => (Option.bind (mX3_aim F e1 x4_12 σ12) fun q13 => (Option.bind (mX3_aim F e1 x3_12 q13) fun q14 => some q14))) F x2 (-1 : Int32) (-1 : Int32) (1 : Int32) q1))
set_option maxHeartbeats 4000000 in
set_option maxRecDepth 100000 in
theorem kbX4_readCase {V : jV} {F : Nat} {h2 h : Nat} {e1 : Nat} {f_X4_readTest : Nat → Int32 → jS → Option jS} (he1 : kX e1 = 3) (hf_X4_readTest : ∀ (e1 : Nat) (x2 : Int32) (σ : jS) (v : jS), kX e1 = 3 → f_X4_readTest e1 x2 σ = some v → Ct cfX 70 V yX4_readTest cX4_readTest 4 none h2 [.ref (vad V 45), .ref (vad V e1), .int x2] σ (0, v)) (hh2 : h2 + 1 ≤ h) (hb : 30 ≤ h) {x2 : Int32} {σ : jS} {v : jS} (hm : bX4_readCase F e1 f_X4_readTest x2 σ = some v) : Ct cfX 70 V yX4_readCase cX4_readCase 6 none h [.ref (vad V 45), .ref (vad V e1), .int x2] σ (0, v) := by
  refine j_start (own := RX4) (by decide) rfl (Nat.le_of_ble_eq_true rfl) ?_
  intro G hV C
  subst hV
  unfold bX4_readCase at hm
  show JX G 0 [(0, .ref (vad (gV G) 45)), (1, .ref (vad (gV G) e1)), (2, .int x2)] [] σ (0, v)
  refine j_iconst (v := -1) (pc := 0) C dX4_readCase_0 (by decide) ?_
  refine j_istoren (ls' := [(3, .int (-1 : Int32)), (0, .ref (vad (gV G) 45)), (1, .ref (vad (gV G) e1)), (2, .int x2)]) (pc := 1) C dX4_readCase_1 rfl (by decide) rfl ?_
  refine j_iconst (v := -1) (pc := 2) C dX4_readCase_2 (by decide) ?_
  refine j_istore (ls' := [(4, .int (-1 : Int32)), (3, .int (-1 : Int32)), (0, .ref (vad (gV G) 45)), (1, .ref (vad (gV G) e1)), (2, .int x2)]) (pc := 3) C dX4_readCase_3 (by decide) rfl ?_
  refine j_aloadn (pc := 5) C 2 dX4_readCase_5 rfl rfl ?_
  refine j_aloadn (pc := 6) C 3 dX4_readCase_6 rfl rfl ?_
  refine j_iloadn (pc := 7) C 4 dX4_readCase_7 rfl rfl ?_
  obtain ⟨q1, hq1, hm⟩ := Option.bind_eq_some_iff.mp hm
  refine cl_X4_65 (c := 45) (pc := 8) C kx_45 (hf_X4_readTest _ _ _ _ he1 hq1) hh2 (Nat.le_of_ble_eq_true rfl) dX4_readCase_8 ?_
  refine j_iconst (v := 1) (pc := 11) C dX4_readCase_11 (by decide) ?_
  refine j_istore (ls' := [(5, .int (1 : Int32)), (4, .int (-1 : Int32)), (3, .int (-1 : Int32)), (0, .ref (vad (gV G) 45)), (1, .ref (vad (gV G) e1)), (2, .int x2)]) (pc := 12) C dX4_readCase_12 (by decide) rfl ?_
  refine j_ls [3, 4, 5, 2, 1, 0] rfl ?_
  refine lp_X4_readCase_14_ok C F e1 f_X4_readTest he1 hf_X4_readTest hh2 hb _ (fun x3_12 x4_12 σ12 hm => ?_) F _ _ _ _ _ hm
  refine j_aloadn (pc := 105) C 0 dX4_readCase_105 rfl rfl ?_
  refine j_iload (pc := 106) C 2 dX4_readCase_106 rfl ?_
  obtain ⟨q13, hq13, hm⟩ := Option.bind_eq_some_iff.mp hm
  refine cl_X4_76 (c := e1) (pc := 108) C he1 (kX3_aim he1 hq13) (by omega) (Nat.le_of_ble_eq_true rfl) dX4_readCase_108 ?_
  refine j_aloadn (pc := 111) C 0 dX4_readCase_111 rfl rfl ?_
  refine j_iloadn (pc := 112) C 1 dX4_readCase_112 rfl rfl ?_
  obtain ⟨q14, hq14, hm⟩ := Option.bind_eq_some_iff.mp hm
  refine cl_X4_76 (c := e1) (pc := 113) C he1 (kX3_aim he1 hq14) (by omega) (Nat.le_of_ble_eq_true rfl) dX4_readCase_113 ?_
  exact j_vret (pc := 116) C rfl dX4_readCase_116 hm

def bX4_readTest (F : Nat) (e1 : Nat) (f_X4_readCase : Nat → Int32 → jS → Option jS) (f_X4_readTest : Nat → Int32 → jS → Option jS) (x2 : Int32) (σ : jS) : Option jS := (Option.bind (mX10_stands F (33 : Int32) σ) fun q1 => (if q1 = 0 then (Option.bind (mX10_stands F (40 : Int32) σ) fun q2 => (if q2 = 0 then (Option.bind (mX4_readSum F e1 x2 σ) fun q3 => (Option.bind (mX4_stepOf F 2 (10 : Int32) q3) fun q4 => (if q4 = (-1 : Int32) then (Option.bind (mX10_fail F (1 : Int32) ((q3 1 3)) q3) fun q5 => some q5) else (Option.bind (mX10_step F q3) fun q6 => (Option.bind (mX4_readSum F e1 x2 q6) fun q7 => (Option.bind (mX3_put F e1 q4 (0 : Int32) q7) fun q8 => some q8)))))) else (Option.bind (mX4_opens F x2 σ) fun q9 => (if q9.1 = 0 then some q9.2 else (Option.bind (f_X4_readCase e1 ((x2 + (1 : Int32))) q9.2) fun q10 => (Option.bind (mX10_take F (41 : Int32) q10) fun q11 => some q11)))))) else (Option.bind (mX4_opens F x2 σ) fun q12 => (if q12.1 = 0 then some q12.2 else (Option.bind (f_X4_readTest e1 ((x2 + (1 : Int32))) q12.2) fun q13 => (Option.bind (mX3_put F e1 (2 : Int32) (0 : Int32) q13) fun q14 => some q14))))))
set_option maxHeartbeats 4000000 in
set_option maxRecDepth 100000 in
theorem kbX4_readTest {V : jV} {F : Nat} {h2 h3 h : Nat} {e1 : Nat} {f_X4_readCase : Nat → Int32 → jS → Option jS} {f_X4_readTest : Nat → Int32 → jS → Option jS} (he1 : kX e1 = 3) (hf_X4_readCase : ∀ (e1 : Nat) (x2 : Int32) (σ : jS) (v : jS), kX e1 = 3 → f_X4_readCase e1 x2 σ = some v → Ct cfX 70 V yX4_readCase cX4_readCase 6 none h2 [.ref (vad V 45), .ref (vad V e1), .int x2] σ (0, v)) (hf_X4_readTest : ∀ (e1 : Nat) (x2 : Int32) (σ : jS) (v : jS), kX e1 = 3 → f_X4_readTest e1 x2 σ = some v → Ct cfX 70 V yX4_readTest cX4_readTest 4 none h3 [.ref (vad V 45), .ref (vad V e1), .int x2] σ (0, v)) (hh2 : h2 + 1 ≤ h) (hh3 : h3 + 1 ≤ h) (hb : 30 ≤ h) {x2 : Int32} {σ : jS} {v : jS} (hm : bX4_readTest F e1 f_X4_readCase f_X4_readTest x2 σ = some v) : Ct cfX 70 V yX4_readTest cX4_readTest 4 none h [.ref (vad V 45), .ref (vad V e1), .int x2] σ (0, v) := by
  refine j_start (own := RX4) (by decide) rfl (Nat.le_of_ble_eq_true rfl) ?_
  intro G hV C
  subst hV
  unfold bX4_readTest at hm
  show JX G 0 [(0, .ref (vad (gV G) 45)), (1, .ref (vad (gV G) e1)), (2, .int x2)] [] σ (0, v)
  refine j_aloadn (pc := 0) C 0 dX4_readTest_0 rfl rfl ?_
  refine gf_X4_9 (c := 45) (pc := 1) C kx_45 dX4_readTest_1 ?_
  refine j_bipush (v := 33) (pc := 4) C dX4_readTest_4 (by decide) ?_
  obtain ⟨q1, hq1, hm⟩ := Option.bind_eq_some_iff.mp hm
  refine cl_X4_68 (c := 1) (pc := 6) C kx_1 (kX10_stands hq1) (by omega) (Nat.le_of_ble_eq_true rfl) dX4_readTest_6 ?_
  refine j_if_eq (tgt := 37) (pc := 9) C dX4_readTest_9 (by decide) hm (fun _ hm => ?_) (fun _ hm => ?_)
  · refine j_aloadn (pc := 37) C 0 dX4_readTest_37 rfl rfl ?_
    refine gf_X4_9 (c := 45) (pc := 38) C kx_45 dX4_readTest_38 ?_
    refine j_bipush (v := 40) (pc := 41) C dX4_readTest_41 (by decide) ?_
    obtain ⟨q2, hq2, hm⟩ := Option.bind_eq_some_iff.mp hm
    refine cl_X4_68 (c := 1) (pc := 43) C kx_1 (kX10_stands hq2) (by omega) (Nat.le_of_ble_eq_true rfl) dX4_readTest_43 ?_
    refine j_if_eq (tgt := 77) (pc := 46) C dX4_readTest_46 (by decide) hm (fun _ hm => ?_) (fun _ hm => ?_)
    · refine j_aloadn (pc := 77) C 0 dX4_readTest_77 rfl rfl ?_
      refine j_aloadn (pc := 78) C 1 dX4_readTest_78 rfl rfl ?_
      refine j_iloadn (pc := 79) C 2 dX4_readTest_79 rfl rfl ?_
      obtain ⟨q3, hq3, hm⟩ := Option.bind_eq_some_iff.mp hm
      refine cl_X4_54 (c := 45) (pc := 80) C kx_45 (kX4_readSum he1 hq3) (by omega) (Nat.le_of_ble_eq_true rfl) dX4_readTest_80 ?_
      refine j_aloadn (pc := 83) C 0 dX4_readTest_83 rfl rfl ?_
      refine j_lds2 (pc := 84) C dX4_readTest_84 ?_
      refine j_bipush (v := 10) (pc := 86) C dX4_readTest_86 (by decide) ?_
      obtain ⟨q4, hq4, hm⟩ := Option.bind_eq_some_iff.mp hm
      refine cl_X4_87 (c := 45) (pc := 88) C kx_45 (kX4_stepOf (by decide) hq4) (by omega) (Nat.le_of_ble_eq_true rfl) dX4_readTest_88 ?_
      refine j_istoren (ls' := [(3, .int q4), (0, .ref (vad (gV G) 45)), (1, .ref (vad (gV G) e1)), (2, .int x2)]) (pc := 91) C dX4_readTest_91 rfl (by decide) rfl ?_
      refine j_iloadn (pc := 92) C 0 dX4_readTest_92 rfl rfl ?_
      refine j_iconst (v := -1) (pc := 93) C dX4_readTest_93 (by decide) ?_
      refine j_icmp_ne (tgt := 113) (pc := 94) C dX4_readTest_94 (by decide) hm (fun _ hm => ?_) (fun _ hm => ?_)
      · refine j_aloadn (pc := 97) C 1 dX4_readTest_97 rfl rfl ?_
        refine gf_X4_9 (c := 45) (pc := 98) C kx_45 dX4_readTest_98 ?_
        refine j_iconst (v := 1) (pc := 101) C dX4_readTest_101 (by decide) ?_
        refine j_aloadn (pc := 102) C 1 dX4_readTest_102 rfl rfl ?_
        refine gf_X4_9 (c := 45) (pc := 103) C kx_45 dX4_readTest_103 ?_
        refine gf_X4_38 (c := 1) (pc := 106) C kx_1 dX4_readTest_106 ?_
        obtain ⟨q5, hq5, hm⟩ := Option.bind_eq_some_iff.mp hm
        refine cl_X4_41 (c := 1) (pc := 109) C kx_1 (kX10_fail hq5) (by omega) (Nat.le_of_ble_eq_true rfl) dX4_readTest_109 ?_
        exact j_vret (pc := 112) C rfl dX4_readTest_112 hm
      · refine j_aloadn (pc := 113) C 1 dX4_readTest_113 rfl rfl ?_
        refine gf_X4_9 (c := 45) (pc := 114) C kx_45 dX4_readTest_114 ?_
        obtain ⟨q6, hq6, hm⟩ := Option.bind_eq_some_iff.mp hm
        refine cl_X4_48 (c := 1) (pc := 117) C kx_1 (kX10_step hq6) (by omega) (Nat.le_of_ble_eq_true rfl) dX4_readTest_117 ?_
        refine j_aloadn (pc := 120) C 1 dX4_readTest_120 rfl rfl ?_
        refine j_aloadn (pc := 121) C 2 dX4_readTest_121 rfl rfl ?_
        refine j_iloadn (pc := 122) C 3 dX4_readTest_122 rfl rfl ?_
        obtain ⟨q7, hq7, hm⟩ := Option.bind_eq_some_iff.mp hm
        refine cl_X4_54 (c := 45) (pc := 123) C kx_45 (kX4_readSum he1 hq7) (by omega) (Nat.le_of_ble_eq_true rfl) dX4_readTest_123 ?_
        refine j_aloadn (pc := 126) C 2 dX4_readTest_126 rfl rfl ?_
        refine j_iloadn (pc := 127) C 0 dX4_readTest_127 rfl rfl ?_
        refine j_iconst (v := 0) (pc := 128) C dX4_readTest_128 (by decide) ?_
        obtain ⟨q8, hq8, hm⟩ := Option.bind_eq_some_iff.mp hm
        refine cl_X4_82 (c := e1) (pc := 129) C he1 (kX3_put he1 hq8) (by omega) (Nat.le_of_ble_eq_true rfl) dX4_readTest_129 ?_
        exact j_vret (pc := 132) C rfl dX4_readTest_132 hm
    · refine j_aloadn (pc := 49) C 0 dX4_readTest_49 rfl rfl ?_
      refine j_iloadn (pc := 50) C 2 dX4_readTest_50 rfl rfl ?_
      obtain ⟨q9, hq9, hm⟩ := Option.bind_eq_some_iff.mp hm
      refine cl_X4_79 (c := 45) (pc := 51) C kx_45 (kX4_opens hq9) (by omega) (Nat.le_of_ble_eq_true rfl) dX4_readTest_51 ?_
      refine j_if_eq (tgt := 132) (pc := 54) C dX4_readTest_54 (by decide) hm (fun _ hm => ?_) (fun _ hm => ?_)
      · exact j_vret (pc := 132) C rfl dX4_readTest_132 hm
      · refine j_aloadn (pc := 57) C 0 dX4_readTest_57 rfl rfl ?_
        refine j_aloadn (pc := 58) C 1 dX4_readTest_58 rfl rfl ?_
        refine j_iloadn (pc := 59) C 2 dX4_readTest_59 rfl rfl ?_
        refine j_iconst (v := 1) (pc := 60) C dX4_readTest_60 (by decide) ?_
        refine j_iadd (pc := 61) C dX4_readTest_61 ?_
        obtain ⟨q10, hq10, hm⟩ := Option.bind_eq_some_iff.mp hm
        refine cl_X4_58 (c := 45) (pc := 62) C kx_45 (hf_X4_readCase _ _ _ _ he1 hq10) hh2 (Nat.le_of_ble_eq_true rfl) dX4_readTest_62 ?_
        refine j_aloadn (pc := 65) C 0 dX4_readTest_65 rfl rfl ?_
        refine gf_X4_9 (c := 45) (pc := 66) C kx_45 dX4_readTest_66 ?_
        refine j_bipush (v := 41) (pc := 69) C dX4_readTest_69 (by decide) ?_
        obtain ⟨q11, hq11, hm⟩ := Option.bind_eq_some_iff.mp hm
        refine cl_X4_30 (c := 1) (pc := 71) C kx_1 (kX10_take hq11) (by omega) (Nat.le_of_ble_eq_true rfl) dX4_readTest_71 ?_
        refine j_goto (tgt := 132) (pc := 74) C dX4_readTest_74 (by decide) ?_
        exact j_vret (pc := 132) C rfl dX4_readTest_132 hm
  · refine j_aloadn (pc := 12) C 0 dX4_readTest_12 rfl rfl ?_
    refine j_iloadn (pc := 13) C 2 dX4_readTest_13 rfl rfl ?_
    obtain ⟨q12, hq12, hm⟩ := Option.bind_eq_some_iff.mp hm
    refine cl_X4_79 (c := 45) (pc := 14) C kx_45 (kX4_opens hq12) (by omega) (Nat.le_of_ble_eq_true rfl) dX4_readTest_14 ?_
    refine j_if_eq (tgt := 132) (pc := 17) C dX4_readTest_17 (by decide) hm (fun _ hm => ?_) (fun _ hm => ?_)
    · exact j_vret (pc := 132) C rfl dX4_readTest_132 hm
    · refine j_aloadn (pc := 20) C 0 dX4_readTest_20 rfl rfl ?_
      refine j_aloadn (pc := 21) C 1 dX4_readTest_21 rfl rfl ?_
      refine j_iloadn (pc := 22) C 2 dX4_readTest_22 rfl rfl ?_
      refine j_iconst (v := 1) (pc := 23) C dX4_readTest_23 (by decide) ?_
      refine j_iadd (pc := 24) C dX4_readTest_24 ?_
      obtain ⟨q13, hq13, hm⟩ := Option.bind_eq_some_iff.mp hm
      refine cl_X4_65 (c := 45) (pc := 25) C kx_45 (hf_X4_readTest _ _ _ _ he1 hq13) hh3 (Nat.le_of_ble_eq_true rfl) dX4_readTest_25 ?_
      refine j_aloadn (pc := 28) C 1 dX4_readTest_28 rfl rfl ?_
      refine j_iconst (v := 2) (pc := 29) C dX4_readTest_29 (by decide) ?_
      refine j_iconst (v := 0) (pc := 30) C dX4_readTest_30 (by decide) ?_
      obtain ⟨q14, hq14, hm⟩ := Option.bind_eq_some_iff.mp hm
      refine cl_X4_82 (c := e1) (pc := 31) C he1 (kX3_put he1 hq14) (by omega) (Nat.le_of_ble_eq_true rfl) dX4_readTest_31 ?_
      refine j_goto (tgt := 132) (pc := 34) C dX4_readTest_34 (by decide) ?_
      exact j_vret (pc := 132) C rfl dX4_readTest_132 hm

def rX4_readTest (F : Nat) : Nat → Nat → Int32 → jS → Option jS
  | 0, _, _, _ => none
  | d + 1, e1, x2, σ => bX4_readTest F e1 (fun e1 x2 σ => bX4_readCase F e1 (rX4_readTest F d) x2 σ) (rX4_readTest F d) x2 σ
theorem krX4_readTest {V : jV} {F : Nat} : ∀ (d e1 : Nat) (x2 : Int32) (σ v : jS), kX e1 = 3 → rX4_readTest F d e1 x2 σ = some v → Ct cfX 70 V yX4_readTest cX4_readTest 4 none (30 + 2 * d) [.ref (vad V 45), .ref (vad V e1), .int x2] σ (0, v) := by
  intro d
  induction d with
  | zero =>
    intro e1 x2 σ v he hm
    rw [rX4_readTest] at hm
    cases hm
  | succ d ih =>
    intro e1 x2 σ v he hm
    rw [rX4_readTest] at hm
    exact kbX4_readTest (h2 := 30 + 2 * d + 1) (h3 := 30 + 2 * d) he (fun e x σ v he hm => kbX4_readCase (h2 := 30 + 2 * d) he ih (by omega) (by omega) hm) ih (by omega) (by omega) (by omega) hm
def mX4_readCase (F : Nat) (e1 : Nat) (x2 : Int32) (σ : jS) : Option jS := bX4_readCase F e1 (rX4_readTest F 9) x2 σ
theorem kX4_readCase {V : jV} {F : Nat} {e1 : Nat} (he : kX e1 = 3) {x2 : Int32} {σ v : jS} (hm : mX4_readCase F e1 x2 σ = some v) : Ct cfX 70 V yX4_readCase cX4_readCase 6 none 49 [.ref (vad V 45), .ref (vad V e1), .int x2] σ (0, v) := kbX4_readCase (h2 := 48) he (krX4_readTest 9) (by decide) (by decide) hm
theorem dX4_readRule_0 : decode cX4_readRule 0 = .ok (.aload_n 0, 1) := by decide +kernel
theorem dX4_readRule_1 : decode cX4_readRule 1 = .ok (.getfield 9, 3) := by decide +kernel
theorem dX4_readRule_4 : decode cX4_readRule 4 = .ok (.getfield 34, 3) := by decide +kernel
theorem dX4_readRule_7 : decode cX4_readRule 7 = .ok (.istore_n 2, 1) := by decide +kernel
theorem dX4_readRule_8 : decode cX4_readRule 8 = .ok (.iload_n 2, 1) := by decide +kernel
theorem dX4_readRule_9 : decode cX4_readRule 9 = .ok (.bipush 112, 2) := by decide +kernel
theorem dX4_readRule_11 : decode cX4_readRule 11 = .ok (.if_icmp .eq 31, 3) := by decide +kernel
theorem dX4_readRule_14 : decode cX4_readRule 14 = .ok (.iload_n 2, 1) := by decide +kernel
theorem dX4_readRule_15 : decode cX4_readRule 15 = .ok (.bipush 105, 2) := by decide +kernel
theorem dX4_readRule_17 : decode cX4_readRule 17 = .ok (.if_icmp .eq 25, 3) := by decide +kernel
theorem dX4_readRule_20 : decode cX4_readRule 20 = .ok (.iload_n 2, 1) := by decide +kernel
theorem dX4_readRule_21 : decode cX4_readRule 21 = .ok (.bipush 120, 2) := by decide +kernel
theorem dX4_readRule_23 : decode cX4_readRule 23 = .ok (.if_icmp .eq 19, 3) := by decide +kernel
theorem dX4_readRule_26 : decode cX4_readRule 26 = .ok (.aload_n 0, 1) := by decide +kernel
theorem dX4_readRule_27 : decode cX4_readRule 27 = .ok (.getfield 9, 3) := by decide +kernel
theorem dX4_readRule_30 : decode cX4_readRule 30 = .ok (.iconst 1, 1) := by decide +kernel
theorem dX4_readRule_31 : decode cX4_readRule 31 = .ok (.aload_n 0, 1) := by decide +kernel
theorem dX4_readRule_32 : decode cX4_readRule 32 = .ok (.getfield 9, 3) := by decide +kernel
theorem dX4_readRule_35 : decode cX4_readRule 35 = .ok (.getfield 38, 3) := by decide +kernel
theorem dX4_readRule_38 : decode cX4_readRule 38 = .ok (.invokevirtual 41, 3) := by decide +kernel
theorem dX4_readRule_41 : decode cX4_readRule 41 = .ok (.return_, 1) := by decide +kernel
theorem dX4_readRule_42 : decode cX4_readRule 42 = .ok (.aload_n 1, 1) := by decide +kernel
theorem dX4_readRule_43 : decode cX4_readRule 43 = .ok (.getfield 45, 3) := by decide +kernel
theorem dX4_readRule_46 : decode cX4_readRule 46 = .ok (.bipush 16, 2) := by decide +kernel
theorem dX4_readRule_48 : decode cX4_readRule 48 = .ok (.if_icmp .lt 19, 3) := by decide +kernel
theorem dX4_readRule_51 : decode cX4_readRule 51 = .ok (.aload_n 0, 1) := by decide +kernel
theorem dX4_readRule_52 : decode cX4_readRule 52 = .ok (.getfield 9, 3) := by decide +kernel
theorem dX4_readRule_55 : decode cX4_readRule 55 = .ok (.iconst 4, 1) := by decide +kernel
theorem dX4_readRule_56 : decode cX4_readRule 56 = .ok (.aload_n 0, 1) := by decide +kernel
theorem dX4_readRule_57 : decode cX4_readRule 57 = .ok (.getfield 9, 3) := by decide +kernel
theorem dX4_readRule_60 : decode cX4_readRule 60 = .ok (.getfield 38, 3) := by decide +kernel
theorem dX4_readRule_63 : decode cX4_readRule 63 = .ok (.invokevirtual 41, 3) := by decide +kernel
theorem dX4_readRule_66 : decode cX4_readRule 66 = .ok (.return_, 1) := by decide +kernel
theorem dX4_readRule_67 : decode cX4_readRule 67 = .ok (.aload_n 0, 1) := by decide +kernel
theorem dX4_readRule_68 : decode cX4_readRule 68 = .ok (.getfield 9, 3) := by decide +kernel
theorem dX4_readRule_71 : decode cX4_readRule 71 = .ok (.invokevirtual 48, 3) := by decide +kernel
theorem dX4_readRule_74 : decode cX4_readRule 74 = .ok (.aload_n 1, 1) := by decide +kernel
theorem dX4_readRule_75 : decode cX4_readRule 75 = .ok (.getfield 51, 3) := by decide +kernel
theorem dX4_readRule_78 : decode cX4_readRule 78 = .ok (.istore_n 3, 1) := by decide +kernel
theorem dX4_readRule_79 : decode cX4_readRule 79 = .ok (.iload_n 2, 1) := by decide +kernel
theorem dX4_readRule_80 : decode cX4_readRule 80 = .ok (.bipush 120, 2) := by decide +kernel
theorem dX4_readRule_82 : decode cX4_readRule 82 = .ok (.if_icmp .eq 9, 3) := by decide +kernel
theorem dX4_readRule_85 : decode cX4_readRule 85 = .ok (.aload_n 0, 1) := by decide +kernel
theorem dX4_readRule_86 : decode cX4_readRule 86 = .ok (.aload_n 1, 1) := by decide +kernel
theorem dX4_readRule_87 : decode cX4_readRule 87 = .ok (.iconst 0, 1) := by decide +kernel
theorem dX4_readRule_88 : decode cX4_readRule 88 = .ok (.invokevirtual 54, 3) := by decide +kernel
theorem dX4_readRule_91 : decode cX4_readRule 91 = .ok (.aload_n 1, 1) := by decide +kernel
theorem dX4_readRule_92 : decode cX4_readRule 92 = .ok (.getfield 51, 3) := by decide +kernel
theorem dX4_readRule_95 : decode cX4_readRule 95 = .ok (.istore 4, 2) := by decide +kernel
theorem dX4_readRule_97 : decode cX4_readRule 97 = .ok (.aload_n 0, 1) := by decide +kernel
theorem dX4_readRule_98 : decode cX4_readRule 98 = .ok (.getfield 9, 3) := by decide +kernel
theorem dX4_readRule_101 : decode cX4_readRule 101 = .ok (.bipush 40, 2) := by decide +kernel
theorem dX4_readRule_103 : decode cX4_readRule 103 = .ok (.invokevirtual 30, 3) := by decide +kernel
theorem dX4_readRule_106 : decode cX4_readRule 106 = .ok (.aload_n 0, 1) := by decide +kernel
theorem dX4_readRule_107 : decode cX4_readRule 107 = .ok (.aload_n 1, 1) := by decide +kernel
theorem dX4_readRule_108 : decode cX4_readRule 108 = .ok (.iconst 1, 1) := by decide +kernel
theorem dX4_readRule_109 : decode cX4_readRule 109 = .ok (.invokevirtual 58, 3) := by decide +kernel
theorem dX4_readRule_112 : decode cX4_readRule 112 = .ok (.aload_n 0, 1) := by decide +kernel
theorem dX4_readRule_113 : decode cX4_readRule 113 = .ok (.getfield 9, 3) := by decide +kernel
theorem dX4_readRule_116 : decode cX4_readRule 116 = .ok (.bipush 41, 2) := by decide +kernel
theorem dX4_readRule_118 : decode cX4_readRule 118 = .ok (.invokevirtual 30, 3) := by decide +kernel
theorem dX4_readRule_121 : decode cX4_readRule 121 = .ok (.aload_n 1, 1) := by decide +kernel
theorem dX4_readRule_122 : decode cX4_readRule 122 = .ok (.iload_n 2, 1) := by decide +kernel
theorem dX4_readRule_123 : decode cX4_readRule 123 = .ok (.iload_n 3, 1) := by decide +kernel
theorem dX4_readRule_124 : decode cX4_readRule 124 = .ok (.iload 4, 2) := by decide +kernel
theorem dX4_readRule_126 : decode cX4_readRule 126 = .ok (.invokevirtual 61, 3) := by decide +kernel
theorem dX4_readRule_129 : decode cX4_readRule 129 = .ok (.return_, 1) := by decide +kernel
def jn_X4_readRule_91 (F : Nat) (e1 : Nat) (x2 : Int32) (x3 : Int32) (σ : jS) : Option jS := (lt (σ e1 5) fun y4 => (Option.bind (mX10_take F (40 : Int32) σ) fun q5 => (Option.bind (mX4_readCase F e1 (1 : Int32) q5) fun q6 => (Option.bind (mX10_take F (41 : Int32) q6) fun q7 => (Option.bind (mX3_addRule F e1 x2 x3 y4 q7) fun q8 => some q8)))))
set_option maxHeartbeats 4000000 in
set_option maxRecDepth 100000 in
theorem jn_X4_readRule_91_ok {G : jG} (C : jc cfX 70 G cX4_readRule RX4 5 none 50) (F : Nat) (e1 : Nat) (he1 : kX e1 = 3) {v : jS} : ∀ (x2 : Int32) (x3 : Int32) (σ : jS), jn_X4_readRule_91 F e1 x2 x3 σ = some v → JX G 91 [(0, .ref (vad (gV G) 45)), (1, .ref (vad (gV G) e1)), (2, .int x2), (3, .int x3)] [] σ (0, v) := by
  intro x2 x3 σ hm
  unfold jn_X4_readRule_91 at hm
  refine j_aloadn (pc := 91) C 1 dX4_readRule_91 rfl rfl ?_
  refine gf_X4_51 (c := e1) (pc := 92) C he1 dX4_readRule_92 ?_
  refine j_lti hm (fun y4 hm => ?_)
  refine j_istore (ls' := [(4, .int y4), (0, .ref (vad (gV G) 45)), (1, .ref (vad (gV G) e1)), (2, .int x2), (3, .int x3)]) (pc := 95) C dX4_readRule_95 (by decide) rfl ?_
  refine j_aloadn (pc := 97) C 1 dX4_readRule_97 rfl rfl ?_
  refine gf_X4_9 (c := 45) (pc := 98) C kx_45 dX4_readRule_98 ?_
  refine j_bipush (v := 40) (pc := 101) C dX4_readRule_101 (by decide) ?_
  obtain ⟨q5, hq5, hm⟩ := Option.bind_eq_some_iff.mp hm
  refine cl_X4_30 (c := 1) (pc := 103) C kx_1 (kX10_take hq5) (by decide) (Nat.le_of_ble_eq_true rfl) dX4_readRule_103 ?_
  refine j_aloadn (pc := 106) C 1 dX4_readRule_106 rfl rfl ?_
  refine j_aloadn (pc := 107) C 2 dX4_readRule_107 rfl rfl ?_
  refine j_iconst (v := 1) (pc := 108) C dX4_readRule_108 (by decide) ?_
  obtain ⟨q6, hq6, hm⟩ := Option.bind_eq_some_iff.mp hm
  refine cl_X4_58 (c := 45) (pc := 109) C kx_45 (kX4_readCase he1 hq6) (by decide) (Nat.le_of_ble_eq_true rfl) dX4_readRule_109 ?_
  refine j_aloadn (pc := 112) C 1 dX4_readRule_112 rfl rfl ?_
  refine gf_X4_9 (c := 45) (pc := 113) C kx_45 dX4_readRule_113 ?_
  refine j_bipush (v := 41) (pc := 116) C dX4_readRule_116 (by decide) ?_
  obtain ⟨q7, hq7, hm⟩ := Option.bind_eq_some_iff.mp hm
  refine cl_X4_30 (c := 1) (pc := 118) C kx_1 (kX10_take hq7) (by decide) (Nat.le_of_ble_eq_true rfl) dX4_readRule_118 ?_
  refine j_aloadn (pc := 121) C 2 dX4_readRule_121 rfl rfl ?_
  refine j_iloadn (pc := 122) C 3 dX4_readRule_122 rfl rfl ?_
  refine j_iloadn (pc := 123) C 4 dX4_readRule_123 rfl rfl ?_
  refine j_iload (pc := 124) C 0 dX4_readRule_124 rfl ?_
  obtain ⟨q8, hq8, hm⟩ := Option.bind_eq_some_iff.mp hm
  refine cl_X4_61 (c := e1) (pc := 126) C he1 (kX3_addRule he1 hq8) (by decide) (Nat.le_of_ble_eq_true rfl) dX4_readRule_126 ?_
  exact j_vret (pc := 129) C rfl dX4_readRule_129 hm

def jn_X4_readRule_42 (F : Nat) (e1 : Nat) (x2 : Int32) (σ : jS) : Option jS := (if (σ e1 6) < (16 : Int32) then (Option.bind (mX10_step F σ) fun q2 => (lt (q2 e1 5) fun y3 => (if x2 = (120 : Int32) then (jn_X4_readRule_91 F e1 x2 y3 q2) else (Option.bind (mX4_readSum F e1 (0 : Int32) q2) fun q9 => (jn_X4_readRule_91 F e1 x2 y3 q9))))) else (Option.bind (mX10_fail F (4 : Int32) ((σ 1 3)) σ) fun q10 => some q10))
set_option maxHeartbeats 4000000 in
set_option maxRecDepth 100000 in
theorem jn_X4_readRule_42_ok {G : jG} (C : jc cfX 70 G cX4_readRule RX4 5 none 50) (F : Nat) (e1 : Nat) (he1 : kX e1 = 3) {v : jS} : ∀ (x2 : Int32) (σ : jS), jn_X4_readRule_42 F e1 x2 σ = some v → JX G 42 [(0, .ref (vad (gV G) 45)), (1, .ref (vad (gV G) e1)), (2, .int x2)] [] σ (0, v) := by
  intro x2 σ hm
  unfold jn_X4_readRule_42 at hm
  refine j_aloadn (pc := 42) C 1 dX4_readRule_42 rfl rfl ?_
  refine gf_X4_45 (c := e1) (pc := 43) C he1 dX4_readRule_43 ?_
  refine j_bipush (v := 16) (pc := 46) C dX4_readRule_46 (by decide) ?_
  refine j_icmp_lt (tgt := 67) (pc := 48) C dX4_readRule_48 (by decide) hm (fun _ hm => ?_) (fun _ hm => ?_)
  · refine j_aloadn (pc := 67) C 0 dX4_readRule_67 rfl rfl ?_
    refine gf_X4_9 (c := 45) (pc := 68) C kx_45 dX4_readRule_68 ?_
    obtain ⟨q2, hq2, hm⟩ := Option.bind_eq_some_iff.mp hm
    refine cl_X4_48 (c := 1) (pc := 71) C kx_1 (kX10_step hq2) (by decide) (Nat.le_of_ble_eq_true rfl) dX4_readRule_71 ?_
    refine j_aloadn (pc := 74) C 1 dX4_readRule_74 rfl rfl ?_
    refine gf_X4_51 (c := e1) (pc := 75) C he1 dX4_readRule_75 ?_
    refine j_lti hm (fun y3 hm => ?_)
    refine j_istoren (ls' := [(3, .int y3), (0, .ref (vad (gV G) 45)), (1, .ref (vad (gV G) e1)), (2, .int x2)]) (pc := 78) C dX4_readRule_78 rfl (by decide) rfl ?_
    refine j_iloadn (pc := 79) C 3 dX4_readRule_79 rfl rfl ?_
    refine j_bipush (v := 120) (pc := 80) C dX4_readRule_80 (by decide) ?_
    refine j_icmp_eq (tgt := 91) (pc := 82) C dX4_readRule_82 (by decide) hm (fun _ hm => ?_) (fun _ hm => ?_)
    · refine j_ls [1, 2, 3, 0] rfl ?_
      exact jn_X4_readRule_91_ok C F e1 he1  _ _ _ hm
    · refine j_aloadn (pc := 85) C 1 dX4_readRule_85 rfl rfl ?_
      refine j_aloadn (pc := 86) C 2 dX4_readRule_86 rfl rfl ?_
      refine j_iconst (v := 0) (pc := 87) C dX4_readRule_87 (by decide) ?_
      obtain ⟨q9, hq9, hm⟩ := Option.bind_eq_some_iff.mp hm
      refine cl_X4_54 (c := 45) (pc := 88) C kx_45 (kX4_readSum he1 hq9) (by decide) (Nat.le_of_ble_eq_true rfl) dX4_readRule_88 ?_
      refine j_ls [1, 2, 3, 0] rfl ?_
      exact jn_X4_readRule_91_ok C F e1 he1  _ _ _ hm
  · refine j_aloadn (pc := 51) C 0 dX4_readRule_51 rfl rfl ?_
    refine gf_X4_9 (c := 45) (pc := 52) C kx_45 dX4_readRule_52 ?_
    refine j_iconst (v := 4) (pc := 55) C dX4_readRule_55 (by decide) ?_
    refine j_aloadn (pc := 56) C 0 dX4_readRule_56 rfl rfl ?_
    refine gf_X4_9 (c := 45) (pc := 57) C kx_45 dX4_readRule_57 ?_
    refine gf_X4_38 (c := 1) (pc := 60) C kx_1 dX4_readRule_60 ?_
    obtain ⟨q10, hq10, hm⟩ := Option.bind_eq_some_iff.mp hm
    refine cl_X4_41 (c := 1) (pc := 63) C kx_1 (kX10_fail hq10) (by decide) (Nat.le_of_ble_eq_true rfl) dX4_readRule_63 ?_
    exact j_vret (pc := 66) C rfl dX4_readRule_66 hm

def mX4_readRule (F : Nat) (e1 : Nat) (σ : jS) : Option jS := (lt (σ 1 4) fun y1 => (if y1 = (112 : Int32) then (jn_X4_readRule_42 F e1 y1 σ) else (if y1 = (105 : Int32) then (jn_X4_readRule_42 F e1 y1 σ) else (if y1 = (120 : Int32) then (jn_X4_readRule_42 F e1 y1 σ) else (Option.bind (mX10_fail F (1 : Int32) ((σ 1 3)) σ) fun q11 => some q11)))))
set_option maxHeartbeats 4000000 in
set_option maxRecDepth 100000 in
theorem kX4_readRule {V : jV} {F : Nat} {e1 : Nat} (he1 : kX e1 = 3) {σ : jS} {v : jS} (hm : mX4_readRule F e1 σ = some v) : Ct cfX 70 V yX4_readRule cX4_readRule 5 none 50 [.ref (vad V 45), .ref (vad V e1)] σ (0, v) := by
  refine j_start (own := RX4) (by decide) rfl (Nat.le_of_ble_eq_true rfl) ?_
  intro G hV C
  subst hV
  unfold mX4_readRule at hm
  show JX G 0 [(0, .ref (vad (gV G) 45)), (1, .ref (vad (gV G) e1))] [] σ (0, v)
  refine j_aloadn (pc := 0) C 0 dX4_readRule_0 rfl rfl ?_
  refine gf_X4_9 (c := 45) (pc := 1) C kx_45 dX4_readRule_1 ?_
  refine gf_X4_34 (c := 1) (pc := 4) C kx_1 dX4_readRule_4 ?_
  refine j_lti hm (fun y1 hm => ?_)
  refine j_istoren (ls' := [(2, .int y1), (0, .ref (vad (gV G) 45)), (1, .ref (vad (gV G) e1))]) (pc := 7) C dX4_readRule_7 rfl (by decide) rfl ?_
  refine j_iloadn (pc := 8) C 0 dX4_readRule_8 rfl rfl ?_
  refine j_bipush (v := 112) (pc := 9) C dX4_readRule_9 (by decide) ?_
  refine j_icmp_eq (tgt := 42) (pc := 11) C dX4_readRule_11 (by decide) hm (fun _ hm => ?_) (fun _ hm => ?_)
  · refine j_ls [1, 2, 0] rfl ?_
    exact jn_X4_readRule_42_ok C F e1 he1  _ _ hm
  · refine j_iloadn (pc := 14) C 0 dX4_readRule_14 rfl rfl ?_
    refine j_bipush (v := 105) (pc := 15) C dX4_readRule_15 (by decide) ?_
    refine j_icmp_eq (tgt := 42) (pc := 17) C dX4_readRule_17 (by decide) hm (fun _ hm => ?_) (fun _ hm => ?_)
    · refine j_ls [1, 2, 0] rfl ?_
      exact jn_X4_readRule_42_ok C F e1 he1  _ _ hm
    · refine j_iloadn (pc := 20) C 0 dX4_readRule_20 rfl rfl ?_
      refine j_bipush (v := 120) (pc := 21) C dX4_readRule_21 (by decide) ?_
      refine j_icmp_eq (tgt := 42) (pc := 23) C dX4_readRule_23 (by decide) hm (fun _ hm => ?_) (fun _ hm => ?_)
      · refine j_ls [1, 2, 0] rfl ?_
        exact jn_X4_readRule_42_ok C F e1 he1  _ _ hm
      · refine j_aloadn (pc := 26) C 1 dX4_readRule_26 rfl rfl ?_
        refine gf_X4_9 (c := 45) (pc := 27) C kx_45 dX4_readRule_27 ?_
        refine j_iconst (v := 1) (pc := 30) C dX4_readRule_30 (by decide) ?_
        refine j_aloadn (pc := 31) C 1 dX4_readRule_31 rfl rfl ?_
        refine gf_X4_9 (c := 45) (pc := 32) C kx_45 dX4_readRule_32 ?_
        refine gf_X4_38 (c := 1) (pc := 35) C kx_1 dX4_readRule_35 ?_
        obtain ⟨q11, hq11, hm⟩ := Option.bind_eq_some_iff.mp hm
        refine cl_X4_41 (c := 1) (pc := 38) C kx_1 (kX10_fail hq11) (by decide) (Nat.le_of_ble_eq_true rfl) dX4_readRule_38 ?_
        exact j_vret (pc := 41) C rfl dX4_readRule_41 hm

theorem dX4_read_0 : decode cX4_read 0 = .ok (.aload_n 1, 1) := by decide +kernel
theorem dX4_read_1 : decode cX4_read 1 = .ok (.invokevirtual 15, 3) := by decide +kernel
theorem dX4_read_4 : decode cX4_read 4 = .ok (.aload_n 0, 1) := by decide +kernel
theorem dX4_read_5 : decode cX4_read 5 = .ok (.aload_n 1, 1) := by decide +kernel
theorem dX4_read_6 : decode cX4_read 6 = .ok (.invokevirtual 20, 3) := by decide +kernel
theorem dX4_read_9 : decode cX4_read 9 = .ok (.iconst 1, 1) := by decide +kernel
theorem dX4_read_10 : decode cX4_read 10 = .ok (.istore_n 2, 1) := by decide +kernel
theorem dX4_read_11 : decode cX4_read 11 = .ok (.iload_n 2, 1) := by decide +kernel
theorem dX4_read_12 : decode cX4_read 12 = .ok (.sipush 240, 3) := by decide +kernel
theorem dX4_read_15 : decode cX4_read 15 = .ok (.if_icmp .ge 33, 3) := by decide +kernel
theorem dX4_read_18 : decode cX4_read 18 = .ok (.aload_n 0, 1) := by decide +kernel
theorem dX4_read_19 : decode cX4_read 19 = .ok (.getfield 9, 3) := by decide +kernel
theorem dX4_read_22 : decode cX4_read 22 = .ok (.invokevirtual 24, 3) := by decide +kernel
theorem dX4_read_25 : decode cX4_read 25 = .ok (.ifCond .eq 23, 3) := by decide +kernel
theorem dX4_read_28 : decode cX4_read 28 = .ok (.aload_n 0, 1) := by decide +kernel
theorem dX4_read_29 : decode cX4_read 29 = .ok (.getfield 9, 3) := by decide +kernel
theorem dX4_read_32 : decode cX4_read 32 = .ok (.bipush 59, 2) := by decide +kernel
theorem dX4_read_34 : decode cX4_read 34 = .ok (.invokevirtual 30, 3) := by decide +kernel
theorem dX4_read_37 : decode cX4_read 37 = .ok (.aload_n 0, 1) := by decide +kernel
theorem dX4_read_38 : decode cX4_read 38 = .ok (.aload_n 1, 1) := by decide +kernel
theorem dX4_read_39 : decode cX4_read 39 = .ok (.invokevirtual 20, 3) := by decide +kernel
theorem dX4_read_42 : decode cX4_read 42 = .ok (.iinc 2 1, 3) := by decide +kernel
theorem dX4_read_45 : decode cX4_read 45 = .ok (.goto (-34), 3) := by decide +kernel
theorem dX4_read_48 : decode cX4_read 48 = .ok (.return_, 1) := by decide +kernel
def lp_X4_read_11 (F : Nat) (e1 : Nat) : Nat → Int32 → jS → Option jS
  | 0, _, _ => none
  | n + 1, x2, σ => (if x2 < (240 : Int32) then (Option.bind (mX10_goesOn F σ) fun q3 => (if q3 = 0 then some σ else (Option.bind (mX10_take F (59 : Int32) σ) fun q4 => (Option.bind (mX4_readRule F e1 q4) fun q5 => (lp_X4_read_11 F e1 n ((x2 + (1 : Int32))) q5))))) else some σ)
set_option maxHeartbeats 4000000 in
set_option maxRecDepth 100000 in
theorem lp_X4_read_11_ok {G : jG} (C : jc cfX 70 G cX4_read RX4 3 none 51) (F : Nat) (e1 : Nat) (he1 : kX e1 = 3) {v : jS} : ∀ (n : Nat) (x2 : Int32) (σ : jS), lp_X4_read_11 F e1 n x2 σ = some v → JX G 11 [(0, .ref (vad (gV G) 45)), (1, .ref (vad (gV G) e1)), (2, .int x2)] [] σ (0, v) := by
  intro n
  induction n with
  | zero =>
    intro x2 σ hm
    rw [lp_X4_read_11] at hm
    cases hm
  | succ n ih =>
    intro x2 σ hm
    rw [lp_X4_read_11] at hm
    refine j_iloadn (pc := 11) C 2 dX4_read_11 rfl rfl ?_
    refine j_sipush (v := 240) (pc := 12) C dX4_read_12 (by decide) ?_
    refine j_icmp_ge (tgt := 48) (pc := 15) C dX4_read_15 (by decide) hm (fun _ hm => ?_) (fun _ hm => ?_)
    · refine j_aloadn (pc := 18) C 0 dX4_read_18 rfl rfl ?_
      refine gf_X4_9 (c := 45) (pc := 19) C kx_45 dX4_read_19 ?_
      obtain ⟨q3, hq3, hm⟩ := Option.bind_eq_some_iff.mp hm
      refine cl_X4_24 (c := 1) (pc := 22) C kx_1 (kX10_goesOn hq3) (by decide) (Nat.le_of_ble_eq_true rfl) dX4_read_22 ?_
      refine j_if_eq (tgt := 48) (pc := 25) C dX4_read_25 (by decide) hm (fun _ hm => ?_) (fun _ hm => ?_)
      · exact j_vret (pc := 48) C rfl dX4_read_48 hm
      · refine j_aloadn (pc := 28) C 0 dX4_read_28 rfl rfl ?_
        refine gf_X4_9 (c := 45) (pc := 29) C kx_45 dX4_read_29 ?_
        refine j_bipush (v := 59) (pc := 32) C dX4_read_32 (by decide) ?_
        obtain ⟨q4, hq4, hm⟩ := Option.bind_eq_some_iff.mp hm
        refine cl_X4_30 (c := 1) (pc := 34) C kx_1 (kX10_take hq4) (by decide) (Nat.le_of_ble_eq_true rfl) dX4_read_34 ?_
        refine j_aloadn (pc := 37) C 0 dX4_read_37 rfl rfl ?_
        refine j_aloadn (pc := 38) C 1 dX4_read_38 rfl rfl ?_
        obtain ⟨q5, hq5, hm⟩ := Option.bind_eq_some_iff.mp hm
        refine cl_X4_20 (c := 45) (pc := 39) C kx_45 (kX4_readRule he1 hq5) (by decide) (Nat.le_of_ble_eq_true rfl) dX4_read_39 ?_
        refine j_iinc (v := (x2 + (1 : Int32))) (ls' := [(2, .int (x2 + (1 : Int32))), (0, .ref (vad (gV G) 45)), (1, .ref (vad (gV G) e1))]) (pc := 42) C 2 dX4_read_42 rfl rfl (by decide) rfl ?_
        refine j_goto (tgt := 11) (pc := 45) C dX4_read_45 (by decide) ?_
        refine j_ls [1, 2, 0] rfl ?_
        exact ih _ _ hm
    · exact j_vret (pc := 48) C rfl dX4_read_48 hm

def mX4_read (F : Nat) (e1 : Nat) (σ : jS) : Option jS := (Option.bind (mX3_clear F e1 σ) fun q1 => (Option.bind (mX4_readRule F e1 q1) fun q2 => (lp_X4_read_11 F e1 F (1 : Int32) q2)))
set_option maxHeartbeats 4000000 in
set_option maxRecDepth 100000 in
theorem kX4_read {V : jV} {F : Nat} {e1 : Nat} (he1 : kX e1 = 3) {σ : jS} {v : jS} (hm : mX4_read F e1 σ = some v) : Ct cfX 70 V yX4_read cX4_read 3 none 51 [.ref (vad V 45), .ref (vad V e1)] σ (0, v) := by
  refine j_start (own := RX4) (by decide) rfl (Nat.le_of_ble_eq_true rfl) ?_
  intro G hV C
  subst hV
  unfold mX4_read at hm
  show JX G 0 [(0, .ref (vad (gV G) 45)), (1, .ref (vad (gV G) e1))] [] σ (0, v)
  refine j_aloadn (pc := 0) C 1 dX4_read_0 rfl rfl ?_
  obtain ⟨q1, hq1, hm⟩ := Option.bind_eq_some_iff.mp hm
  refine cl_X4_15 (c := e1) (pc := 1) C he1 (kX3_clear he1 hq1) (by decide) (Nat.le_of_ble_eq_true rfl) dX4_read_1 ?_
  refine j_aloadn (pc := 4) C 0 dX4_read_4 rfl rfl ?_
  refine j_aloadn (pc := 5) C 1 dX4_read_5 rfl rfl ?_
  obtain ⟨q2, hq2, hm⟩ := Option.bind_eq_some_iff.mp hm
  refine cl_X4_20 (c := 45) (pc := 6) C kx_45 (kX4_readRule he1 hq2) (by decide) (Nat.le_of_ble_eq_true rfl) dX4_read_6 ?_
  refine j_iconst (v := 1) (pc := 9) C dX4_read_9 (by decide) ?_
  refine j_istoren (ls' := [(2, .int (1 : Int32)), (0, .ref (vad (gV G) 45)), (1, .ref (vad (gV G) e1))]) (pc := 10) C dX4_read_10 rfl (by decide) rfl ?_
  refine j_ls [1, 2, 0] rfl ?_
  exact lp_X4_read_11_ok C F e1 he1  F _ _ hm

