theorem dX5_readPart_0 : decode cX5_readPart 0 = .ok (.aload_n 0, 1) := by decide +kernel
theorem dX5_readPart_1 : decode cX5_readPart 1 = .ok (.getfield 18, 3) := by decide +kernel
theorem dX5_readPart_4 : decode cX5_readPart 4 = .ok (.iload_n 1, 1) := by decide +kernel
theorem dX5_readPart_5 : decode cX5_readPart 5 = .ok (.invokevirtual 70, 3) := by decide +kernel
theorem dX5_readPart_8 : decode cX5_readPart 8 = .ok (.ifCond .ne 5, 3) := by decide +kernel
theorem dX5_readPart_11 : decode cX5_readPart 11 = .ok (.iconst 0, 1) := by decide +kernel
theorem dX5_readPart_12 : decode cX5_readPart 12 = .ok (.ireturn, 1) := by decide +kernel
theorem dX5_readPart_13 : decode cX5_readPart 13 = .ok (.aload_n 0, 1) := by decide +kernel
theorem dX5_readPart_14 : decode cX5_readPart 14 = .ok (.getfield 18, 3) := by decide +kernel
theorem dX5_readPart_17 : decode cX5_readPart 17 = .ok (.invokevirtual 67, 3) := by decide +kernel
theorem dX5_readPart_20 : decode cX5_readPart 20 = .ok (.aload_n 0, 1) := by decide +kernel
theorem dX5_readPart_21 : decode cX5_readPart 21 = .ok (.getfield 18, 3) := by decide +kernel
theorem dX5_readPart_24 : decode cX5_readPart 24 = .ok (.iload_n 2, 1) := by decide +kernel
theorem dX5_readPart_25 : decode cX5_readPart 25 = .ok (.invokevirtual 46, 3) := by decide +kernel
theorem dX5_readPart_28 : decode cX5_readPart 28 = .ok (.ireturn, 1) := by decide +kernel
theorem dX5_readPerson_0 : decode cX5_readPerson 0 = .ok (.aload_n 0, 1) := by decide +kernel
theorem dX5_readPerson_1 : decode cX5_readPerson 1 = .ok (.getfield 18, 3) := by decide +kernel
theorem dX5_readPerson_4 : decode cX5_readPerson 4 = .ok (.getfield 64, 3) := by decide +kernel
theorem dX5_readPerson_7 : decode cX5_readPerson 7 = .ok (.bipush 97, 2) := by decide +kernel
theorem dX5_readPerson_9 : decode cX5_readPerson 9 = .ok (.isub, 1) := by decide +kernel
theorem dX5_readPerson_10 : decode cX5_readPerson 10 = .ok (.istore_n 3, 1) := by decide +kernel
theorem dX5_readPerson_11 : decode cX5_readPerson 11 = .ok (.iload_n 3, 1) := by decide +kernel
theorem dX5_readPerson_12 : decode cX5_readPerson 12 = .ok (.ifCond .lt 9, 3) := by decide +kernel
theorem dX5_readPerson_15 : decode cX5_readPerson 15 = .ok (.iload_n 3, 1) := by decide +kernel
theorem dX5_readPerson_16 : decode cX5_readPerson 16 = .ok (.bipush 16, 2) := by decide +kernel
theorem dX5_readPerson_18 : decode cX5_readPerson 18 = .ok (.if_icmp .lt 21, 3) := by decide +kernel
theorem dX5_readPerson_21 : decode cX5_readPerson 21 = .ok (.aload_n 0, 1) := by decide +kernel
theorem dX5_readPerson_22 : decode cX5_readPerson 22 = .ok (.getfield 18, 3) := by decide +kernel
theorem dX5_readPerson_25 : decode cX5_readPerson 25 = .ok (.iconst 1, 1) := by decide +kernel
theorem dX5_readPerson_26 : decode cX5_readPerson 26 = .ok (.aload_n 0, 1) := by decide +kernel
theorem dX5_readPerson_27 : decode cX5_readPerson 27 = .ok (.getfield 18, 3) := by decide +kernel
theorem dX5_readPerson_30 : decode cX5_readPerson 30 = .ok (.getfield 43, 3) := by decide +kernel
theorem dX5_readPerson_33 : decode cX5_readPerson 33 = .ok (.invokevirtual 50, 3) := by decide +kernel
theorem dX5_readPerson_36 : decode cX5_readPerson 36 = .ok (.bipush 16, 2) := by decide +kernel
theorem dX5_readPerson_38 : decode cX5_readPerson 38 = .ok (.ireturn, 1) := by decide +kernel
theorem dX5_readPerson_39 : decode cX5_readPerson 39 = .ok (.aload_n 0, 1) := by decide +kernel
theorem dX5_readPerson_40 : decode cX5_readPerson 40 = .ok (.getfield 12, 3) := by decide +kernel
theorem dX5_readPerson_43 : decode cX5_readPerson 43 = .ok (.getfield 22, 3) := by decide +kernel
theorem dX5_readPerson_46 : decode cX5_readPerson 46 = .ok (.bipush 24, 2) := by decide +kernel
theorem dX5_readPerson_48 : decode cX5_readPerson 48 = .ok (.if_icmp .lt 21, 3) := by decide +kernel
theorem dX5_readPerson_51 : decode cX5_readPerson 51 = .ok (.aload_n 0, 1) := by decide +kernel
theorem dX5_readPerson_52 : decode cX5_readPerson 52 = .ok (.getfield 18, 3) := by decide +kernel
theorem dX5_readPerson_55 : decode cX5_readPerson 55 = .ok (.iconst 4, 1) := by decide +kernel
theorem dX5_readPerson_56 : decode cX5_readPerson 56 = .ok (.aload_n 0, 1) := by decide +kernel
theorem dX5_readPerson_57 : decode cX5_readPerson 57 = .ok (.getfield 18, 3) := by decide +kernel
theorem dX5_readPerson_60 : decode cX5_readPerson 60 = .ok (.getfield 43, 3) := by decide +kernel
theorem dX5_readPerson_63 : decode cX5_readPerson 63 = .ok (.invokevirtual 50, 3) := by decide +kernel
theorem dX5_readPerson_66 : decode cX5_readPerson 66 = .ok (.goto 51, 3) := by decide +kernel
theorem dX5_readPerson_69 : decode cX5_readPerson 69 = .ok (.iload_n 3, 1) := by decide +kernel
theorem dX5_readPerson_70 : decode cX5_readPerson 70 = .ok (.iload_n 2, 1) := by decide +kernel
theorem dX5_readPerson_71 : decode cX5_readPerson 71 = .ok (.if_icmp .ne 22, 3) := by decide +kernel
theorem dX5_readPerson_74 : decode cX5_readPerson 74 = .ok (.aload_n 0, 1) := by decide +kernel
theorem dX5_readPerson_75 : decode cX5_readPerson 75 = .ok (.getfield 18, 3) := by decide +kernel
theorem dX5_readPerson_78 : decode cX5_readPerson 78 = .ok (.bipush 6, 2) := by decide +kernel
theorem dX5_readPerson_80 : decode cX5_readPerson 80 = .ok (.aload_n 0, 1) := by decide +kernel
theorem dX5_readPerson_81 : decode cX5_readPerson 81 = .ok (.getfield 18, 3) := by decide +kernel
theorem dX5_readPerson_84 : decode cX5_readPerson 84 = .ok (.getfield 43, 3) := by decide +kernel
theorem dX5_readPerson_87 : decode cX5_readPerson 87 = .ok (.invokevirtual 50, 3) := by decide +kernel
theorem dX5_readPerson_90 : decode cX5_readPerson 90 = .ok (.goto 27, 3) := by decide +kernel
theorem dX5_readPerson_93 : decode cX5_readPerson 93 = .ok (.iload_n 1, 1) := by decide +kernel
theorem dX5_readPerson_94 : decode cX5_readPerson 94 = .ok (.iload_n 3, 1) := by decide +kernel
theorem dX5_readPerson_95 : decode cX5_readPerson 95 = .ok (.ishr, 1) := by decide +kernel
theorem dX5_readPerson_96 : decode cX5_readPerson 96 = .ok (.iconst 1, 1) := by decide +kernel
theorem dX5_readPerson_97 : decode cX5_readPerson 97 = .ok (.iand, 1) := by decide +kernel
theorem dX5_readPerson_98 : decode cX5_readPerson 98 = .ok (.ifCond .ne 19, 3) := by decide +kernel
theorem dX5_readPerson_101 : decode cX5_readPerson 101 = .ok (.aload_n 0, 1) := by decide +kernel
theorem dX5_readPerson_102 : decode cX5_readPerson 102 = .ok (.getfield 18, 3) := by decide +kernel
theorem dX5_readPerson_105 : decode cX5_readPerson 105 = .ok (.bipush 7, 2) := by decide +kernel
theorem dX5_readPerson_107 : decode cX5_readPerson 107 = .ok (.aload_n 0, 1) := by decide +kernel
theorem dX5_readPerson_108 : decode cX5_readPerson 108 = .ok (.getfield 18, 3) := by decide +kernel
theorem dX5_readPerson_111 : decode cX5_readPerson 111 = .ok (.getfield 43, 3) := by decide +kernel
theorem dX5_readPerson_114 : decode cX5_readPerson 114 = .ok (.invokevirtual 50, 3) := by decide +kernel
theorem dX5_readPerson_117 : decode cX5_readPerson 117 = .ok (.aload_n 0, 1) := by decide +kernel
theorem dX5_readPerson_118 : decode cX5_readPerson 118 = .ok (.getfield 18, 3) := by decide +kernel
theorem dX5_readPerson_121 : decode cX5_readPerson 121 = .ok (.invokevirtual 67, 3) := by decide +kernel
theorem dX5_readPerson_124 : decode cX5_readPerson 124 = .ok (.iload_n 3, 1) := by decide +kernel
theorem dX5_readPerson_125 : decode cX5_readPerson 125 = .ok (.ireturn, 1) := by decide +kernel
theorem dX5_readLoan_0 : decode cX5_readLoan 0 = .ok (.aload_n 0, 1) := by decide +kernel
theorem dX5_readLoan_1 : decode cX5_readLoan 1 = .ok (.iload_n 1, 1) := by decide +kernel
theorem dX5_readLoan_2 : decode cX5_readLoan 2 = .ok (.iconst (-1), 1) := by decide +kernel
theorem dX5_readLoan_3 : decode cX5_readLoan 3 = .ok (.invokevirtual 39, 3) := by decide +kernel
theorem dX5_readLoan_6 : decode cX5_readLoan 6 = .ok (.istore_n 2, 1) := by decide +kernel
theorem dX5_readLoan_7 : decode cX5_readLoan 7 = .ok (.aload_n 0, 1) := by decide +kernel
theorem dX5_readLoan_8 : decode cX5_readLoan 8 = .ok (.getfield 18, 3) := by decide +kernel
theorem dX5_readLoan_11 : decode cX5_readLoan 11 = .ok (.bipush 62, 2) := by decide +kernel
theorem dX5_readLoan_13 : decode cX5_readLoan 13 = .ok (.invokevirtual 36, 3) := by decide +kernel
theorem dX5_readLoan_16 : decode cX5_readLoan 16 = .ok (.aload_n 0, 1) := by decide +kernel
theorem dX5_readLoan_17 : decode cX5_readLoan 17 = .ok (.iload_n 1, 1) := by decide +kernel
theorem dX5_readLoan_18 : decode cX5_readLoan 18 = .ok (.iload_n 2, 1) := by decide +kernel
theorem dX5_readLoan_19 : decode cX5_readLoan 19 = .ok (.invokevirtual 39, 3) := by decide +kernel
theorem dX5_readLoan_22 : decode cX5_readLoan 22 = .ok (.istore_n 3, 1) := by decide +kernel
theorem dX5_readLoan_23 : decode cX5_readLoan 23 = .ok (.aload_n 0, 1) := by decide +kernel
theorem dX5_readLoan_24 : decode cX5_readLoan 24 = .ok (.getfield 18, 3) := by decide +kernel
theorem dX5_readLoan_27 : decode cX5_readLoan 27 = .ok (.getfield 43, 3) := by decide +kernel
theorem dX5_readLoan_30 : decode cX5_readLoan 30 = .ok (.istore 4, 2) := by decide +kernel
theorem dX5_readLoan_32 : decode cX5_readLoan 32 = .ok (.aload_n 0, 1) := by decide +kernel
theorem dX5_readLoan_33 : decode cX5_readLoan 33 = .ok (.getfield 18, 3) := by decide +kernel
theorem dX5_readLoan_36 : decode cX5_readLoan 36 = .ok (.bipush 6, 2) := by decide +kernel
theorem dX5_readLoan_38 : decode cX5_readLoan 38 = .ok (.invokevirtual 46, 3) := by decide +kernel
theorem dX5_readLoan_41 : decode cX5_readLoan 41 = .ok (.istore 5, 2) := by decide +kernel
theorem dX5_readLoan_43 : decode cX5_readLoan 43 = .ok (.iload 5, 2) := by decide +kernel
theorem dX5_readLoan_45 : decode cX5_readLoan 45 = .ok (.ifCond .ne 13, 3) := by decide +kernel
theorem dX5_readLoan_48 : decode cX5_readLoan 48 = .ok (.aload_n 0, 1) := by decide +kernel
theorem dX5_readLoan_49 : decode cX5_readLoan 49 = .ok (.getfield 18, 3) := by decide +kernel
theorem dX5_readLoan_52 : decode cX5_readLoan 52 = .ok (.iconst 3, 1) := by decide +kernel
theorem dX5_readLoan_53 : decode cX5_readLoan 53 = .ok (.iload 4, 2) := by decide +kernel
theorem dX5_readLoan_55 : decode cX5_readLoan 55 = .ok (.invokevirtual 50, 3) := by decide +kernel
theorem dX5_readLoan_58 : decode cX5_readLoan 58 = .ok (.aload_n 0, 1) := by decide +kernel
theorem dX5_readLoan_59 : decode cX5_readLoan 59 = .ok (.bipush 64, 2) := by decide +kernel
theorem dX5_readLoan_61 : decode cX5_readLoan 61 = .ok (.iconst 2, 1) := by decide +kernel
theorem dX5_readLoan_62 : decode cX5_readLoan 62 = .ok (.invokevirtual 54, 3) := by decide +kernel
theorem dX5_readLoan_65 : decode cX5_readLoan 65 = .ok (.istore 6, 2) := by decide +kernel
theorem dX5_readLoan_67 : decode cX5_readLoan 67 = .ok (.aload_n 0, 1) := by decide +kernel
theorem dX5_readLoan_68 : decode cX5_readLoan 68 = .ok (.bipush 47, 2) := by decide +kernel
theorem dX5_readLoan_70 : decode cX5_readLoan 70 = .ok (.iconst 4, 1) := by decide +kernel
theorem dX5_readLoan_71 : decode cX5_readLoan 71 = .ok (.invokevirtual 54, 3) := by decide +kernel
theorem dX5_readLoan_74 : decode cX5_readLoan 74 = .ok (.istore 7, 2) := by decide +kernel
theorem dX5_readLoan_76 : decode cX5_readLoan 76 = .ok (.aload_n 0, 1) := by decide +kernel
theorem dX5_readLoan_77 : decode cX5_readLoan 77 = .ok (.getfield 18, 3) := by decide +kernel
theorem dX5_readLoan_80 : decode cX5_readLoan 80 = .ok (.getfield 57, 3) := by decide +kernel
theorem dX5_readLoan_83 : decode cX5_readLoan 83 = .ok (.ifCond .ne 18, 3) := by decide +kernel
theorem dX5_readLoan_86 : decode cX5_readLoan 86 = .ok (.aload_n 0, 1) := by decide +kernel
theorem dX5_readLoan_87 : decode cX5_readLoan 87 = .ok (.getfield 12, 3) := by decide +kernel
theorem dX5_readLoan_90 : decode cX5_readLoan 90 = .ok (.iload_n 2, 1) := by decide +kernel
theorem dX5_readLoan_91 : decode cX5_readLoan 91 = .ok (.iload_n 3, 1) := by decide +kernel
theorem dX5_readLoan_92 : decode cX5_readLoan 92 = .ok (.iload 5, 2) := by decide +kernel
theorem dX5_readLoan_94 : decode cX5_readLoan 94 = .ok (.iload 6, 2) := by decide +kernel
theorem dX5_readLoan_96 : decode cX5_readLoan 96 = .ok (.iload 7, 2) := by decide +kernel
theorem dX5_readLoan_98 : decode cX5_readLoan 98 = .ok (.invokevirtual 60, 3) := by decide +kernel
theorem dX5_readLoan_101 : decode cX5_readLoan 101 = .ok (.return_, 1) := by decide +kernel
theorem dX5_read_0 : decode cX5_read 0 = .ok (.aload_n 0, 1) := by decide +kernel
theorem dX5_read_1 : decode cX5_read 1 = .ok (.getfield 12, 3) := by decide +kernel
theorem dX5_read_4 : decode cX5_read 4 = .ok (.iconst 0, 1) := by decide +kernel
theorem dX5_read_5 : decode cX5_read 5 = .ok (.putfield 22, 3) := by decide +kernel
theorem dX5_read_8 : decode cX5_read 8 = .ok (.aload_n 0, 1) := by decide +kernel
theorem dX5_read_9 : decode cX5_read 9 = .ok (.iload_n 1, 1) := by decide +kernel
theorem dX5_read_10 : decode cX5_read 10 = .ok (.invokevirtual 26, 3) := by decide +kernel
theorem dX5_read_13 : decode cX5_read 13 = .ok (.iconst 1, 1) := by decide +kernel
theorem dX5_read_14 : decode cX5_read 14 = .ok (.istore_n 2, 1) := by decide +kernel
theorem dX5_read_15 : decode cX5_read 15 = .ok (.iload_n 2, 1) := by decide +kernel
theorem dX5_read_16 : decode cX5_read 16 = .ok (.sipush 200, 3) := by decide +kernel
theorem dX5_read_19 : decode cX5_read 19 = .ok (.if_icmp .ge 33, 3) := by decide +kernel
theorem dX5_read_22 : decode cX5_read 22 = .ok (.aload_n 0, 1) := by decide +kernel
theorem dX5_read_23 : decode cX5_read 23 = .ok (.getfield 18, 3) := by decide +kernel
theorem dX5_read_26 : decode cX5_read 26 = .ok (.invokevirtual 30, 3) := by decide +kernel
theorem dX5_read_29 : decode cX5_read 29 = .ok (.ifCond .eq 23, 3) := by decide +kernel
theorem dX5_read_32 : decode cX5_read 32 = .ok (.aload_n 0, 1) := by decide +kernel
theorem dX5_read_33 : decode cX5_read 33 = .ok (.getfield 18, 3) := by decide +kernel
theorem dX5_read_36 : decode cX5_read 36 = .ok (.bipush 59, 2) := by decide +kernel
theorem dX5_read_38 : decode cX5_read 38 = .ok (.invokevirtual 36, 3) := by decide +kernel
theorem dX5_read_41 : decode cX5_read 41 = .ok (.aload_n 0, 1) := by decide +kernel
theorem dX5_read_42 : decode cX5_read 42 = .ok (.iload_n 1, 1) := by decide +kernel
theorem dX5_read_43 : decode cX5_read 43 = .ok (.invokevirtual 26, 3) := by decide +kernel
theorem dX5_read_46 : decode cX5_read 46 = .ok (.iinc 2 1, 3) := by decide +kernel
theorem dX5_read_49 : decode cX5_read 49 = .ok (.goto (-34), 3) := by decide +kernel
theorem dX5_read_52 : decode cX5_read 52 = .ok (.return_, 1) := by decide +kernel
def mX5_readPart (F : Nat) (x1 : Int32) (x2 : Int32) (σ : jS) : Option (Int32 × jS) := (Option.bind (mX10_stands F x1 σ) fun q1 => (if q1 = 0 then some ((0 : Int32), σ) else (Option.bind (mX10_step F σ) fun q2 => (Option.bind (mX10_number F x2 q2) fun q3 => some (q3.1, q3.2)))))
set_option maxHeartbeats 4000000 in
set_option maxRecDepth 100000 in
theorem kX5_readPart {V : jV} {F : Nat} {x1 : Int32} {x2 : Int32} {σ : jS} {v : (Int32 × jS)} (hm : mX5_readPart F x1 x2 σ = some v) : Ct cfX 70 V yX5_readPart cX5_readPart 3 (some .int) 2 [.ref (vad V 37), .int x1, .int x2] σ v := by
  refine j_start (own := RX5) (by decide) rfl (Nat.le_of_ble_eq_true rfl) ?_
  intro G hV C
  subst hV
  unfold mX5_readPart at hm
  show JX G 0 [(0, .ref (vad (gV G) 37)), (1, .int x1), (2, .int x2)] [] σ v
  refine j_aloadn (pc := 0) C 0 dX5_readPart_0 rfl rfl ?_
  refine gf_X5_18 (c := 37) (pc := 1) C kx_37 dX5_readPart_1 ?_
  refine j_iloadn (pc := 4) C 1 dX5_readPart_4 rfl rfl ?_
  obtain ⟨q1, hq1, hm⟩ := Option.bind_eq_some_iff.mp hm
  refine cl_X5_70 (c := 1) (pc := 5) C kx_1 (kX10_stands hq1) (by decide) (Nat.le_of_ble_eq_true rfl) dX5_readPart_5 ?_
  refine j_if_ne (tgt := 13) (pc := 8) C dX5_readPart_8 (by decide) hm (fun _ hm => ?_) (fun _ hm => ?_)
  · refine j_iconst (v := 0) (pc := 11) C dX5_readPart_11 (by decide) ?_
    exact j_iretS (pc := 12) C rfl dX5_readPart_12 hm
  · refine j_aloadn (pc := 13) C 0 dX5_readPart_13 rfl rfl ?_
    refine gf_X5_18 (c := 37) (pc := 14) C kx_37 dX5_readPart_14 ?_
    obtain ⟨q2, hq2, hm⟩ := Option.bind_eq_some_iff.mp hm
    refine cl_X5_67 (c := 1) (pc := 17) C kx_1 (kX10_step hq2) (by decide) (Nat.le_of_ble_eq_true rfl) dX5_readPart_17 ?_
    refine j_aloadn (pc := 20) C 0 dX5_readPart_20 rfl rfl ?_
    refine gf_X5_18 (c := 37) (pc := 21) C kx_37 dX5_readPart_21 ?_
    refine j_iloadn (pc := 24) C 2 dX5_readPart_24 rfl rfl ?_
    obtain ⟨q3, hq3, hm⟩ := Option.bind_eq_some_iff.mp hm
    refine cl_X5_46 (c := 1) (pc := 25) C kx_1 (kX10_number hq3) (by decide) (Nat.le_of_ble_eq_true rfl) dX5_readPart_25 ?_
    exact j_iretS (pc := 28) C rfl dX5_readPart_28 hm

def mX5_readPerson (F : Nat) (x1 : Int32) (x2 : Int32) (σ : jS) : Option (Int32 × jS) := (lt ((σ 1 4) - (97 : Int32)) fun y1 => (if y1 < 0 then (Option.bind (mX10_fail F (1 : Int32) ((σ 1 3)) σ) fun q2 => some ((16 : Int32), q2)) else (if y1 < (16 : Int32) then (if (σ 38 6) < (24 : Int32) then (if y1 = x2 then (Option.bind (mX10_fail F (6 : Int32) ((σ 1 3)) σ) fun q3 => (Option.bind (mX10_step F q3) fun q4 => some (y1, q4))) else (if ((x1 >>> (y1 &&& 31)) &&& (1 : Int32)) = 0 then (Option.bind (mX10_fail F (7 : Int32) ((σ 1 3)) σ) fun q5 => (Option.bind (mX10_step F q5) fun q6 => some (y1, q6))) else (Option.bind (mX10_step F σ) fun q7 => some (y1, q7)))) else (Option.bind (mX10_fail F (4 : Int32) ((σ 1 3)) σ) fun q8 => (Option.bind (mX10_step F q8) fun q9 => some (y1, q9)))) else (Option.bind (mX10_fail F (1 : Int32) ((σ 1 3)) σ) fun q10 => some ((16 : Int32), q10)))))
set_option maxHeartbeats 4000000 in
set_option maxRecDepth 100000 in
theorem kX5_readPerson {V : jV} {F : Nat} {x1 : Int32} {x2 : Int32} {σ : jS} {v : (Int32 × jS)} (hm : mX5_readPerson F x1 x2 σ = some v) : Ct cfX 70 V yX5_readPerson cX5_readPerson 4 (some .int) 1 [.ref (vad V 37), .int x1, .int x2] σ v := by
  refine j_start (own := RX5) (by decide) rfl (Nat.le_of_ble_eq_true rfl) ?_
  intro G hV C
  subst hV
  unfold mX5_readPerson at hm
  show JX G 0 [(0, .ref (vad (gV G) 37)), (1, .int x1), (2, .int x2)] [] σ v
  refine j_aloadn (pc := 0) C 0 dX5_readPerson_0 rfl rfl ?_
  refine gf_X5_18 (c := 37) (pc := 1) C kx_37 dX5_readPerson_1 ?_
  refine gf_X5_64 (c := 1) (pc := 4) C kx_1 dX5_readPerson_4 ?_
  refine j_bipush (v := 97) (pc := 7) C dX5_readPerson_7 (by decide) ?_
  refine j_isub (pc := 9) C dX5_readPerson_9 ?_
  refine j_lti hm (fun y1 hm => ?_)
  refine j_istoren (ls' := [(3, .int y1), (0, .ref (vad (gV G) 37)), (1, .int x1), (2, .int x2)]) (pc := 10) C dX5_readPerson_10 rfl (by decide) rfl ?_
  refine j_iloadn (pc := 11) C 0 dX5_readPerson_11 rfl rfl ?_
  refine j_if_lt (tgt := 21) (pc := 12) C dX5_readPerson_12 (by decide) hm (fun _ hm => ?_) (fun _ hm => ?_)
  · refine j_aloadn (pc := 21) C 1 dX5_readPerson_21 rfl rfl ?_
    refine gf_X5_18 (c := 37) (pc := 22) C kx_37 dX5_readPerson_22 ?_
    refine j_iconst (v := 1) (pc := 25) C dX5_readPerson_25 (by decide) ?_
    refine j_aloadn (pc := 26) C 1 dX5_readPerson_26 rfl rfl ?_
    refine gf_X5_18 (c := 37) (pc := 27) C kx_37 dX5_readPerson_27 ?_
    refine gf_X5_43 (c := 1) (pc := 30) C kx_1 dX5_readPerson_30 ?_
    obtain ⟨q2, hq2, hm⟩ := Option.bind_eq_some_iff.mp hm
    refine cl_X5_50 (c := 1) (pc := 33) C kx_1 (kX10_fail hq2) (by decide) (Nat.le_of_ble_eq_true rfl) dX5_readPerson_33 ?_
    refine j_bipush (v := 16) (pc := 36) C dX5_readPerson_36 (by decide) ?_
    exact j_iretS (pc := 38) C rfl dX5_readPerson_38 hm
  · refine j_iloadn (pc := 15) C 0 dX5_readPerson_15 rfl rfl ?_
    refine j_bipush (v := 16) (pc := 16) C dX5_readPerson_16 (by decide) ?_
    refine j_icmp_lt (tgt := 39) (pc := 18) C dX5_readPerson_18 (by decide) hm (fun _ hm => ?_) (fun _ hm => ?_)
    · refine j_aloadn (pc := 39) C 1 dX5_readPerson_39 rfl rfl ?_
      refine gf_X5_12 (c := 37) (pc := 40) C kx_37 dX5_readPerson_40 ?_
      refine gf_X5_22 (c := 38) (pc := 43) C kx_38 dX5_readPerson_43 ?_
      refine j_bipush (v := 24) (pc := 46) C dX5_readPerson_46 (by decide) ?_
      refine j_icmp_lt (tgt := 69) (pc := 48) C dX5_readPerson_48 (by decide) hm (fun _ hm => ?_) (fun _ hm => ?_)
      · refine j_iloadn (pc := 69) C 0 dX5_readPerson_69 rfl rfl ?_
        refine j_iloadn (pc := 70) C 3 dX5_readPerson_70 rfl rfl ?_
        refine j_icmp_ne (tgt := 93) (pc := 71) C dX5_readPerson_71 (by decide) hm (fun _ hm => ?_) (fun _ hm => ?_)
        · refine j_aloadn (pc := 74) C 1 dX5_readPerson_74 rfl rfl ?_
          refine gf_X5_18 (c := 37) (pc := 75) C kx_37 dX5_readPerson_75 ?_
          refine j_bipush (v := 6) (pc := 78) C dX5_readPerson_78 (by decide) ?_
          refine j_aloadn (pc := 80) C 1 dX5_readPerson_80 rfl rfl ?_
          refine gf_X5_18 (c := 37) (pc := 81) C kx_37 dX5_readPerson_81 ?_
          refine gf_X5_43 (c := 1) (pc := 84) C kx_1 dX5_readPerson_84 ?_
          obtain ⟨q3, hq3, hm⟩ := Option.bind_eq_some_iff.mp hm
          refine cl_X5_50 (c := 1) (pc := 87) C kx_1 (kX10_fail hq3) (by decide) (Nat.le_of_ble_eq_true rfl) dX5_readPerson_87 ?_
          refine j_goto (tgt := 117) (pc := 90) C dX5_readPerson_90 (by decide) ?_
          refine j_aloadn (pc := 117) C 1 dX5_readPerson_117 rfl rfl ?_
          refine gf_X5_18 (c := 37) (pc := 118) C kx_37 dX5_readPerson_118 ?_
          obtain ⟨q4, hq4, hm⟩ := Option.bind_eq_some_iff.mp hm
          refine cl_X5_67 (c := 1) (pc := 121) C kx_1 (kX10_step hq4) (by decide) (Nat.le_of_ble_eq_true rfl) dX5_readPerson_121 ?_
          refine j_iloadn (pc := 124) C 0 dX5_readPerson_124 rfl rfl ?_
          exact j_iretS (pc := 125) C rfl dX5_readPerson_125 hm
        · refine j_iloadn (pc := 93) C 2 dX5_readPerson_93 rfl rfl ?_
          refine j_iloadn (pc := 94) C 0 dX5_readPerson_94 rfl rfl ?_
          refine j_ishr (pc := 95) C dX5_readPerson_95 ?_
          refine j_iconst (v := 1) (pc := 96) C dX5_readPerson_96 (by decide) ?_
          refine j_iand (pc := 97) C dX5_readPerson_97 ?_
          refine j_if_ne (tgt := 117) (pc := 98) C dX5_readPerson_98 (by decide) hm (fun _ hm => ?_) (fun _ hm => ?_)
          · refine j_aloadn (pc := 101) C 1 dX5_readPerson_101 rfl rfl ?_
            refine gf_X5_18 (c := 37) (pc := 102) C kx_37 dX5_readPerson_102 ?_
            refine j_bipush (v := 7) (pc := 105) C dX5_readPerson_105 (by decide) ?_
            refine j_aloadn (pc := 107) C 1 dX5_readPerson_107 rfl rfl ?_
            refine gf_X5_18 (c := 37) (pc := 108) C kx_37 dX5_readPerson_108 ?_
            refine gf_X5_43 (c := 1) (pc := 111) C kx_1 dX5_readPerson_111 ?_
            obtain ⟨q5, hq5, hm⟩ := Option.bind_eq_some_iff.mp hm
            refine cl_X5_50 (c := 1) (pc := 114) C kx_1 (kX10_fail hq5) (by decide) (Nat.le_of_ble_eq_true rfl) dX5_readPerson_114 ?_
            refine j_aloadn (pc := 117) C 1 dX5_readPerson_117 rfl rfl ?_
            refine gf_X5_18 (c := 37) (pc := 118) C kx_37 dX5_readPerson_118 ?_
            obtain ⟨q6, hq6, hm⟩ := Option.bind_eq_some_iff.mp hm
            refine cl_X5_67 (c := 1) (pc := 121) C kx_1 (kX10_step hq6) (by decide) (Nat.le_of_ble_eq_true rfl) dX5_readPerson_121 ?_
            refine j_iloadn (pc := 124) C 0 dX5_readPerson_124 rfl rfl ?_
            exact j_iretS (pc := 125) C rfl dX5_readPerson_125 hm
          · refine j_aloadn (pc := 117) C 1 dX5_readPerson_117 rfl rfl ?_
            refine gf_X5_18 (c := 37) (pc := 118) C kx_37 dX5_readPerson_118 ?_
            obtain ⟨q7, hq7, hm⟩ := Option.bind_eq_some_iff.mp hm
            refine cl_X5_67 (c := 1) (pc := 121) C kx_1 (kX10_step hq7) (by decide) (Nat.le_of_ble_eq_true rfl) dX5_readPerson_121 ?_
            refine j_iloadn (pc := 124) C 0 dX5_readPerson_124 rfl rfl ?_
            exact j_iretS (pc := 125) C rfl dX5_readPerson_125 hm
      · refine j_aloadn (pc := 51) C 1 dX5_readPerson_51 rfl rfl ?_
        refine gf_X5_18 (c := 37) (pc := 52) C kx_37 dX5_readPerson_52 ?_
        refine j_iconst (v := 4) (pc := 55) C dX5_readPerson_55 (by decide) ?_
        refine j_aloadn (pc := 56) C 1 dX5_readPerson_56 rfl rfl ?_
        refine gf_X5_18 (c := 37) (pc := 57) C kx_37 dX5_readPerson_57 ?_
        refine gf_X5_43 (c := 1) (pc := 60) C kx_1 dX5_readPerson_60 ?_
        obtain ⟨q8, hq8, hm⟩ := Option.bind_eq_some_iff.mp hm
        refine cl_X5_50 (c := 1) (pc := 63) C kx_1 (kX10_fail hq8) (by decide) (Nat.le_of_ble_eq_true rfl) dX5_readPerson_63 ?_
        refine j_goto (tgt := 117) (pc := 66) C dX5_readPerson_66 (by decide) ?_
        refine j_aloadn (pc := 117) C 1 dX5_readPerson_117 rfl rfl ?_
        refine gf_X5_18 (c := 37) (pc := 118) C kx_37 dX5_readPerson_118 ?_
        obtain ⟨q9, hq9, hm⟩ := Option.bind_eq_some_iff.mp hm
        refine cl_X5_67 (c := 1) (pc := 121) C kx_1 (kX10_step hq9) (by decide) (Nat.le_of_ble_eq_true rfl) dX5_readPerson_121 ?_
        refine j_iloadn (pc := 124) C 0 dX5_readPerson_124 rfl rfl ?_
        exact j_iretS (pc := 125) C rfl dX5_readPerson_125 hm
    · refine j_aloadn (pc := 21) C 1 dX5_readPerson_21 rfl rfl ?_
      refine gf_X5_18 (c := 37) (pc := 22) C kx_37 dX5_readPerson_22 ?_
      refine j_iconst (v := 1) (pc := 25) C dX5_readPerson_25 (by decide) ?_
      refine j_aloadn (pc := 26) C 1 dX5_readPerson_26 rfl rfl ?_
      refine gf_X5_18 (c := 37) (pc := 27) C kx_37 dX5_readPerson_27 ?_
      refine gf_X5_43 (c := 1) (pc := 30) C kx_1 dX5_readPerson_30 ?_
      obtain ⟨q10, hq10, hm⟩ := Option.bind_eq_some_iff.mp hm
      refine cl_X5_50 (c := 1) (pc := 33) C kx_1 (kX10_fail hq10) (by decide) (Nat.le_of_ble_eq_true rfl) dX5_readPerson_33 ?_
      refine j_bipush (v := 16) (pc := 36) C dX5_readPerson_36 (by decide) ?_
      exact j_iretS (pc := 38) C rfl dX5_readPerson_38 hm

def jn_X5_readLoan_58 (F : Nat) (x2 : Int32) (x3 : Int32) (x5 : Int32) (σ : jS) : Option jS := (Option.bind (mX5_readPart F (64 : Int32) (2 : Int32) σ) fun q7 => (Option.bind (mX5_readPart F (47 : Int32) (4 : Int32) q7.2) fun q8 => (if (q8.2 1 5) = 0 then (Option.bind (mX6_add F 38 x2 x3 x5 q7.1 q8.1 q8.2) fun q9 => some q9) else some q8.2)))
set_option maxHeartbeats 4000000 in
set_option maxRecDepth 100000 in
theorem jn_X5_readLoan_58_ok {G : jG} (C : jc cfX 70 G cX5_readLoan RX5 8 none 3) (F : Nat) {v : jS} : ∀ (x2 : Int32) (x3 : Int32) (x5 : Int32) (σ : jS), jn_X5_readLoan_58 F x2 x3 x5 σ = some v → JX G 58 [(0, .ref (vad (gV G) 37)), (2, .int x2), (3, .int x3), (5, .int x5)] [] σ (0, v) := by
  intro x2 x3 x5 σ hm
  unfold jn_X5_readLoan_58 at hm
  refine j_aloadn (pc := 58) C 0 dX5_readLoan_58 rfl rfl ?_
  refine j_bipush (v := 64) (pc := 59) C dX5_readLoan_59 (by decide) ?_
  refine j_iconst (v := 2) (pc := 61) C dX5_readLoan_61 (by decide) ?_
  obtain ⟨q7, hq7, hm⟩ := Option.bind_eq_some_iff.mp hm
  refine cl_X5_54 (c := 37) (pc := 62) C kx_37 (kX5_readPart hq7) (by decide) (Nat.le_of_ble_eq_true rfl) dX5_readLoan_62 ?_
  refine j_istore (ls' := [(6, .int q7.1), (0, .ref (vad (gV G) 37)), (2, .int x2), (3, .int x3), (5, .int x5)]) (pc := 65) C dX5_readLoan_65 (by decide) rfl ?_
  refine j_aloadn (pc := 67) C 1 dX5_readLoan_67 rfl rfl ?_
  refine j_bipush (v := 47) (pc := 68) C dX5_readLoan_68 (by decide) ?_
  refine j_iconst (v := 4) (pc := 70) C dX5_readLoan_70 (by decide) ?_
  obtain ⟨q8, hq8, hm⟩ := Option.bind_eq_some_iff.mp hm
  refine cl_X5_54 (c := 37) (pc := 71) C kx_37 (kX5_readPart hq8) (by decide) (Nat.le_of_ble_eq_true rfl) dX5_readLoan_71 ?_
  refine j_istore (ls' := [(7, .int q8.1), (6, .int q7.1), (0, .ref (vad (gV G) 37)), (2, .int x2), (3, .int x3), (5, .int x5)]) (pc := 74) C dX5_readLoan_74 (by decide) rfl ?_
  refine j_aloadn (pc := 76) C 2 dX5_readLoan_76 rfl rfl ?_
  refine gf_X5_18 (c := 37) (pc := 77) C kx_37 dX5_readLoan_77 ?_
  refine gf_X5_57 (c := 1) (pc := 80) C kx_1 dX5_readLoan_80 ?_
  refine j_if_ne (tgt := 101) (pc := 83) C dX5_readLoan_83 (by decide) hm (fun _ hm => ?_) (fun _ hm => ?_)
  · refine j_aloadn (pc := 86) C 2 dX5_readLoan_86 rfl rfl ?_
    refine gf_X5_12 (c := 37) (pc := 87) C kx_37 dX5_readLoan_87 ?_
    refine j_iloadn (pc := 90) C 3 dX5_readLoan_90 rfl rfl ?_
    refine j_iloadn (pc := 91) C 4 dX5_readLoan_91 rfl rfl ?_
    refine j_iload (pc := 92) C 5 dX5_readLoan_92 rfl ?_
    refine j_iload (pc := 94) C 1 dX5_readLoan_94 rfl ?_
    refine j_iload (pc := 96) C 0 dX5_readLoan_96 rfl ?_
    obtain ⟨q9, hq9, hm⟩ := Option.bind_eq_some_iff.mp hm
    refine cl_X5_60 (c := 38) (pc := 98) C kx_38 (kX6_add kx_38 hq9) (by decide) (Nat.le_of_ble_eq_true rfl) dX5_readLoan_98 ?_
    exact j_vret (pc := 101) C rfl dX5_readLoan_101 hm
  · exact j_vret (pc := 101) C rfl dX5_readLoan_101 hm

def mX5_readLoan (F : Nat) (x1 : Int32) (σ : jS) : Option jS := (Option.bind (mX5_readPerson F x1 (-1 : Int32) σ) fun q1 => (Option.bind (mX10_take F (62 : Int32) q1.2) fun q2 => (Option.bind (mX5_readPerson F x1 q1.1 q2) fun q3 => (lt (q3.2 1 3) fun y4 => (Option.bind (mX10_number F (6 : Int32) q3.2) fun q5 => (if q5.1 = 0 then (Option.bind (mX10_fail F (3 : Int32) y4 q5.2) fun q6 => (jn_X5_readLoan_58 F q1.1 q3.1 q5.1 q6)) else (jn_X5_readLoan_58 F q1.1 q3.1 q5.1 q5.2)))))))
set_option maxHeartbeats 4000000 in
set_option maxRecDepth 100000 in
theorem kX5_readLoan {V : jV} {F : Nat} {x1 : Int32} {σ : jS} {v : jS} (hm : mX5_readLoan F x1 σ = some v) : Ct cfX 70 V yX5_readLoan cX5_readLoan 8 none 3 [.ref (vad V 37), .int x1] σ (0, v) := by
  refine j_start (own := RX5) (by decide) rfl (Nat.le_of_ble_eq_true rfl) ?_
  intro G hV C
  subst hV
  unfold mX5_readLoan at hm
  show JX G 0 [(0, .ref (vad (gV G) 37)), (1, .int x1)] [] σ (0, v)
  refine j_aloadn (pc := 0) C 0 dX5_readLoan_0 rfl rfl ?_
  refine j_iloadn (pc := 1) C 1 dX5_readLoan_1 rfl rfl ?_
  refine j_iconst (v := -1) (pc := 2) C dX5_readLoan_2 (by decide) ?_
  obtain ⟨q1, hq1, hm⟩ := Option.bind_eq_some_iff.mp hm
  refine cl_X5_39 (c := 37) (pc := 3) C kx_37 (kX5_readPerson hq1) (by decide) (Nat.le_of_ble_eq_true rfl) dX5_readLoan_3 ?_
  refine j_istoren (ls' := [(2, .int q1.1), (0, .ref (vad (gV G) 37)), (1, .int x1)]) (pc := 6) C dX5_readLoan_6 rfl (by decide) rfl ?_
  refine j_aloadn (pc := 7) C 1 dX5_readLoan_7 rfl rfl ?_
  refine gf_X5_18 (c := 37) (pc := 8) C kx_37 dX5_readLoan_8 ?_
  refine j_bipush (v := 62) (pc := 11) C dX5_readLoan_11 (by decide) ?_
  obtain ⟨q2, hq2, hm⟩ := Option.bind_eq_some_iff.mp hm
  refine cl_X5_36 (c := 1) (pc := 13) C kx_1 (kX10_take hq2) (by decide) (Nat.le_of_ble_eq_true rfl) dX5_readLoan_13 ?_
  refine j_aloadn (pc := 16) C 1 dX5_readLoan_16 rfl rfl ?_
  refine j_iloadn (pc := 17) C 2 dX5_readLoan_17 rfl rfl ?_
  refine j_iloadn (pc := 18) C 0 dX5_readLoan_18 rfl rfl ?_
  obtain ⟨q3, hq3, hm⟩ := Option.bind_eq_some_iff.mp hm
  refine cl_X5_39 (c := 37) (pc := 19) C kx_37 (kX5_readPerson hq3) (by decide) (Nat.le_of_ble_eq_true rfl) dX5_readLoan_19 ?_
  refine j_istoren (ls' := [(3, .int q3.1), (2, .int q1.1), (0, .ref (vad (gV G) 37)), (1, .int x1)]) (pc := 22) C dX5_readLoan_22 rfl (by decide) rfl ?_
  refine j_aloadn (pc := 23) C 2 dX5_readLoan_23 rfl rfl ?_
  refine gf_X5_18 (c := 37) (pc := 24) C kx_37 dX5_readLoan_24 ?_
  refine gf_X5_43 (c := 1) (pc := 27) C kx_1 dX5_readLoan_27 ?_
  refine j_lti hm (fun y4 hm => ?_)
  refine j_istore (ls' := [(4, .int y4), (3, .int q3.1), (2, .int q1.1), (0, .ref (vad (gV G) 37)), (1, .int x1)]) (pc := 30) C dX5_readLoan_30 (by decide) rfl ?_
  refine j_aloadn (pc := 32) C 3 dX5_readLoan_32 rfl rfl ?_
  refine gf_X5_18 (c := 37) (pc := 33) C kx_37 dX5_readLoan_33 ?_
  refine j_bipush (v := 6) (pc := 36) C dX5_readLoan_36 (by decide) ?_
  obtain ⟨q5, hq5, hm⟩ := Option.bind_eq_some_iff.mp hm
  refine cl_X5_46 (c := 1) (pc := 38) C kx_1 (kX10_number hq5) (by decide) (Nat.le_of_ble_eq_true rfl) dX5_readLoan_38 ?_
  refine j_istore (ls' := [(5, .int q5.1), (4, .int y4), (3, .int q3.1), (2, .int q1.1), (0, .ref (vad (gV G) 37)), (1, .int x1)]) (pc := 41) C dX5_readLoan_41 (by decide) rfl ?_
  refine j_iload (pc := 43) C 0 dX5_readLoan_43 rfl ?_
  refine j_if_ne (tgt := 58) (pc := 45) C dX5_readLoan_45 (by decide) hm (fun _ hm => ?_) (fun _ hm => ?_)
  · refine j_aloadn (pc := 48) C 4 dX5_readLoan_48 rfl rfl ?_
    refine gf_X5_18 (c := 37) (pc := 49) C kx_37 dX5_readLoan_49 ?_
    refine j_iconst (v := 3) (pc := 52) C dX5_readLoan_52 (by decide) ?_
    refine j_iload (pc := 53) C 1 dX5_readLoan_53 rfl ?_
    obtain ⟨q6, hq6, hm⟩ := Option.bind_eq_some_iff.mp hm
    refine cl_X5_50 (c := 1) (pc := 55) C kx_1 (kX10_fail hq6) (by decide) (Nat.le_of_ble_eq_true rfl) dX5_readLoan_55 ?_
    refine j_ls [4, 3, 2, 0] rfl ?_
    exact jn_X5_readLoan_58_ok C F  _ _ _ _ hm
  · refine j_ls [4, 3, 2, 0] rfl ?_
    exact jn_X5_readLoan_58_ok C F  _ _ _ _ hm

def lp_X5_read_15 (F : Nat) : Nat → Int32 → Int32 → jS → Option jS
  | 0, _, _, _ => none
  | n + 1, x1, x2, σ => (if x2 < (200 : Int32) then (Option.bind (mX10_goesOn F σ) fun q3 => (if q3 = 0 then some σ else (Option.bind (mX10_take F (59 : Int32) σ) fun q4 => (Option.bind (mX5_readLoan F x1 q4) fun q5 => (lp_X5_read_15 F n x1 ((x2 + (1 : Int32))) q5))))) else some σ)
set_option maxHeartbeats 4000000 in
set_option maxRecDepth 100000 in
theorem lp_X5_read_15_ok {G : jG} (C : jc cfX 70 G cX5_read RX5 3 none 4) (F : Nat) {v : jS} : ∀ (n : Nat) (x1 : Int32) (x2 : Int32) (σ : jS), lp_X5_read_15 F n x1 x2 σ = some v → JX G 15 [(0, .ref (vad (gV G) 37)), (1, .int x1), (2, .int x2)] [] σ (0, v) := by
  intro n
  induction n with
  | zero =>
    intro x1 x2 σ hm
    rw [lp_X5_read_15] at hm
    cases hm
  | succ n ih =>
    intro x1 x2 σ hm
    rw [lp_X5_read_15] at hm
    refine j_iloadn (pc := 15) C 2 dX5_read_15 rfl rfl ?_
    refine j_sipush (v := 200) (pc := 16) C dX5_read_16 (by decide) ?_
    refine j_icmp_ge (tgt := 52) (pc := 19) C dX5_read_19 (by decide) hm (fun _ hm => ?_) (fun _ hm => ?_)
    · refine j_aloadn (pc := 22) C 0 dX5_read_22 rfl rfl ?_
      refine gf_X5_18 (c := 37) (pc := 23) C kx_37 dX5_read_23 ?_
      obtain ⟨q3, hq3, hm⟩ := Option.bind_eq_some_iff.mp hm
      refine cl_X5_30 (c := 1) (pc := 26) C kx_1 (kX10_goesOn hq3) (by decide) (Nat.le_of_ble_eq_true rfl) dX5_read_26 ?_
      refine j_if_eq (tgt := 52) (pc := 29) C dX5_read_29 (by decide) hm (fun _ hm => ?_) (fun _ hm => ?_)
      · exact j_vret (pc := 52) C rfl dX5_read_52 hm
      · refine j_aloadn (pc := 32) C 0 dX5_read_32 rfl rfl ?_
        refine gf_X5_18 (c := 37) (pc := 33) C kx_37 dX5_read_33 ?_
        refine j_bipush (v := 59) (pc := 36) C dX5_read_36 (by decide) ?_
        obtain ⟨q4, hq4, hm⟩ := Option.bind_eq_some_iff.mp hm
        refine cl_X5_36 (c := 1) (pc := 38) C kx_1 (kX10_take hq4) (by decide) (Nat.le_of_ble_eq_true rfl) dX5_read_38 ?_
        refine j_aloadn (pc := 41) C 0 dX5_read_41 rfl rfl ?_
        refine j_iloadn (pc := 42) C 1 dX5_read_42 rfl rfl ?_
        obtain ⟨q5, hq5, hm⟩ := Option.bind_eq_some_iff.mp hm
        refine cl_X5_26 (c := 37) (pc := 43) C kx_37 (kX5_readLoan hq5) (by decide) (Nat.le_of_ble_eq_true rfl) dX5_read_43 ?_
        refine j_iinc (v := (x2 + (1 : Int32))) (ls' := [(2, .int (x2 + (1 : Int32))), (0, .ref (vad (gV G) 37)), (1, .int x1)]) (pc := 46) C 2 dX5_read_46 rfl rfl (by decide) rfl ?_
        refine j_goto (tgt := 15) (pc := 49) C dX5_read_49 (by decide) ?_
        refine j_ls [1, 2, 0] rfl ?_
        exact ih _ _ _ hm
    · exact j_vret (pc := 52) C rfl dX5_read_52 hm

def mX5_read (F : Nat) (x1 : Int32) (σ : jS) : Option jS := (lt (js σ 38 6 (0 : Int32)) fun σ1 => (Option.bind (mX5_readLoan F x1 σ1) fun q2 => (lp_X5_read_15 F F x1 (1 : Int32) q2)))
set_option maxHeartbeats 4000000 in
set_option maxRecDepth 100000 in
theorem kX5_read {V : jV} {F : Nat} {x1 : Int32} {σ : jS} {v : jS} (hm : mX5_read F x1 σ = some v) : Ct cfX 70 V yX5_read cX5_read 3 none 4 [.ref (vad V 37), .int x1] σ (0, v) := by
  refine j_start (own := RX5) (by decide) rfl (Nat.le_of_ble_eq_true rfl) ?_
  intro G hV C
  subst hV
  unfold mX5_read at hm
  show JX G 0 [(0, .ref (vad (gV G) 37)), (1, .int x1)] [] σ (0, v)
  refine j_aloadn (pc := 0) C 0 dX5_read_0 rfl rfl ?_
  refine gf_X5_12 (c := 37) (pc := 1) C kx_37 dX5_read_1 ?_
  refine j_iconst (v := 0) (pc := 4) C dX5_read_4 (by decide) ?_
  refine pf_X5_22 (c := 38) (pc := 5) C kx_38 dX5_read_5 hm (fun σ1 hm => ?_)
  refine j_aloadn (pc := 8) C 0 dX5_read_8 rfl rfl ?_
  refine j_iloadn (pc := 9) C 1 dX5_read_9 rfl rfl ?_
  obtain ⟨q2, hq2, hm⟩ := Option.bind_eq_some_iff.mp hm
  refine cl_X5_26 (c := 37) (pc := 10) C kx_37 (kX5_readLoan hq2) (by decide) (Nat.le_of_ble_eq_true rfl) dX5_read_10 ?_
  refine j_iconst (v := 1) (pc := 13) C dX5_read_13 (by decide) ?_
  refine j_istoren (ls' := [(2, .int (1 : Int32)), (0, .ref (vad (gV G) 37)), (1, .int x1)]) (pc := 14) C dX5_read_14 rfl (by decide) rfl ?_
  refine j_ls [1, 2, 0] rfl ?_
  exact lp_X5_read_15_ok C F  F _ _ _ hm

