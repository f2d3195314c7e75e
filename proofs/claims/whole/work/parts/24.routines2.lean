theorem dX8_readGroup_0 : decode cX8_readGroup 0 = .ok (.iload_n 1, 1) := by decide +kernel
theorem dX8_readGroup_1 : decode cX8_readGroup 1 = .ok (.iconst 2, 1) := by decide +kernel
theorem dX8_readGroup_2 : decode cX8_readGroup 2 = .ok (.if_icmp .lt 19, 3) := by decide +kernel
theorem dX8_readGroup_5 : decode cX8_readGroup 5 = .ok (.aload_n 0, 1) := by decide +kernel
theorem dX8_readGroup_6 : decode cX8_readGroup 6 = .ok (.getfield 25, 3) := by decide +kernel
theorem dX8_readGroup_9 : decode cX8_readGroup 9 = .ok (.iconst 5, 1) := by decide +kernel
theorem dX8_readGroup_10 : decode cX8_readGroup 10 = .ok (.aload_n 0, 1) := by decide +kernel
theorem dX8_readGroup_11 : decode cX8_readGroup 11 = .ok (.getfield 25, 3) := by decide +kernel
theorem dX8_readGroup_14 : decode cX8_readGroup 14 = .ok (.getfield 56, 3) := by decide +kernel
theorem dX8_readGroup_17 : decode cX8_readGroup 17 = .ok (.invokevirtual 75, 3) := by decide +kernel
theorem dX8_readGroup_20 : decode cX8_readGroup 20 = .ok (.return_, 1) := by decide +kernel
theorem dX8_readGroup_21 : decode cX8_readGroup 21 = .ok (.aload_n 0, 1) := by decide +kernel
theorem dX8_readGroup_22 : decode cX8_readGroup 22 = .ok (.getfield 25, 3) := by decide +kernel
theorem dX8_readGroup_25 : decode cX8_readGroup 25 = .ok (.invokevirtual 59, 3) := by decide +kernel
theorem dX8_readGroup_28 : decode cX8_readGroup 28 = .ok (.aload_n 0, 1) := by decide +kernel
theorem dX8_readGroup_29 : decode cX8_readGroup 29 = .ok (.iload_n 1, 1) := by decide +kernel
theorem dX8_readGroup_30 : decode cX8_readGroup 30 = .ok (.iconst 1, 1) := by decide +kernel
theorem dX8_readGroup_31 : decode cX8_readGroup 31 = .ok (.iadd, 1) := by decide +kernel
theorem dX8_readGroup_32 : decode cX8_readGroup 32 = .ok (.invokevirtual 33, 3) := by decide +kernel
theorem dX8_readGroup_35 : decode cX8_readGroup 35 = .ok (.aload_n 0, 1) := by decide +kernel
theorem dX8_readGroup_36 : decode cX8_readGroup 36 = .ok (.getfield 25, 3) := by decide +kernel
theorem dX8_readGroup_39 : decode cX8_readGroup 39 = .ok (.bipush 41, 2) := by decide +kernel
theorem dX8_readGroup_41 : decode cX8_readGroup 41 = .ok (.invokevirtual 78, 3) := by decide +kernel
theorem dX8_readGroup_44 : decode cX8_readGroup 44 = .ok (.return_, 1) := by decide +kernel
theorem dX8_readPiece_0 : decode cX8_readPiece 0 = .ok (.aload_n 0, 1) := by decide +kernel
theorem dX8_readPiece_1 : decode cX8_readPiece 1 = .ok (.getfield 25, 3) := by decide +kernel
theorem dX8_readPiece_4 : decode cX8_readPiece 4 = .ok (.getfield 56, 3) := by decide +kernel
theorem dX8_readPiece_7 : decode cX8_readPiece 7 = .ok (.istore_n 2, 1) := by decide +kernel
theorem dX8_readPiece_8 : decode cX8_readPiece 8 = .ok (.iconst 1, 1) := by decide +kernel
theorem dX8_readPiece_9 : decode cX8_readPiece 9 = .ok (.istore_n 3, 1) := by decide +kernel
theorem dX8_readPiece_10 : decode cX8_readPiece 10 = .ok (.aload_n 0, 1) := by decide +kernel
theorem dX8_readPiece_11 : decode cX8_readPiece 11 = .ok (.getfield 25, 3) := by decide +kernel
theorem dX8_readPiece_14 : decode cX8_readPiece 14 = .ok (.getfield 53, 3) := by decide +kernel
theorem dX8_readPiece_17 : decode cX8_readPiece 17 = .ok (.bipush 50, 2) := by decide +kernel
theorem dX8_readPiece_19 : decode cX8_readPiece 19 = .ok (.if_icmp .lt 33, 3) := by decide +kernel
theorem dX8_readPiece_22 : decode cX8_readPiece 22 = .ok (.aload_n 0, 1) := by decide +kernel
theorem dX8_readPiece_23 : decode cX8_readPiece 23 = .ok (.getfield 25, 3) := by decide +kernel
theorem dX8_readPiece_26 : decode cX8_readPiece 26 = .ok (.getfield 53, 3) := by decide +kernel
theorem dX8_readPiece_29 : decode cX8_readPiece 29 = .ok (.bipush 57, 2) := by decide +kernel
theorem dX8_readPiece_31 : decode cX8_readPiece 31 = .ok (.if_icmp .gt 21, 3) := by decide +kernel
theorem dX8_readPiece_34 : decode cX8_readPiece 34 = .ok (.aload_n 0, 1) := by decide +kernel
theorem dX8_readPiece_35 : decode cX8_readPiece 35 = .ok (.getfield 25, 3) := by decide +kernel
theorem dX8_readPiece_38 : decode cX8_readPiece 38 = .ok (.getfield 53, 3) := by decide +kernel
theorem dX8_readPiece_41 : decode cX8_readPiece 41 = .ok (.bipush 48, 2) := by decide +kernel
theorem dX8_readPiece_43 : decode cX8_readPiece 43 = .ok (.isub, 1) := by decide +kernel
theorem dX8_readPiece_44 : decode cX8_readPiece 44 = .ok (.istore_n 3, 1) := by decide +kernel
theorem dX8_readPiece_45 : decode cX8_readPiece 45 = .ok (.aload_n 0, 1) := by decide +kernel
theorem dX8_readPiece_46 : decode cX8_readPiece 46 = .ok (.getfield 25, 3) := by decide +kernel
theorem dX8_readPiece_49 : decode cX8_readPiece 49 = .ok (.invokevirtual 59, 3) := by decide +kernel
theorem dX8_readPiece_52 : decode cX8_readPiece 52 = .ok (.aload_n 0, 1) := by decide +kernel
theorem dX8_readPiece_53 : decode cX8_readPiece 53 = .ok (.getfield 21, 3) := by decide +kernel
theorem dX8_readPiece_56 : decode cX8_readPiece 56 = .ok (.istore 4, 2) := by decide +kernel
theorem dX8_readPiece_58 : decode cX8_readPiece 58 = .ok (.aload_n 0, 1) := by decide +kernel
theorem dX8_readPiece_59 : decode cX8_readPiece 59 = .ok (.getfield 25, 3) := by decide +kernel
theorem dX8_readPiece_62 : decode cX8_readPiece 62 = .ok (.bipush 40, 2) := by decide +kernel
theorem dX8_readPiece_64 : decode cX8_readPiece 64 = .ok (.invokevirtual 62, 3) := by decide +kernel
theorem dX8_readPiece_67 : decode cX8_readPiece 67 = .ok (.ifCond .eq 11, 3) := by decide +kernel
theorem dX8_readPiece_70 : decode cX8_readPiece 70 = .ok (.aload_n 0, 1) := by decide +kernel
theorem dX8_readPiece_71 : decode cX8_readPiece 71 = .ok (.iload_n 1, 1) := by decide +kernel
theorem dX8_readPiece_72 : decode cX8_readPiece 72 = .ok (.invokevirtual 65, 3) := by decide +kernel
theorem dX8_readPiece_75 : decode cX8_readPiece 75 = .ok (.goto 7, 3) := by decide +kernel
theorem dX8_readPiece_78 : decode cX8_readPiece 78 = .ok (.aload_n 0, 1) := by decide +kernel
theorem dX8_readPiece_79 : decode cX8_readPiece 79 = .ok (.invokevirtual 68, 3) := by decide +kernel
theorem dX8_readPiece_82 : decode cX8_readPiece 82 = .ok (.aload_n 0, 1) := by decide +kernel
theorem dX8_readPiece_83 : decode cX8_readPiece 83 = .ok (.getfield 25, 3) := by decide +kernel
theorem dX8_readPiece_86 : decode cX8_readPiece 86 = .ok (.getfield 37, 3) := by decide +kernel
theorem dX8_readPiece_89 : decode cX8_readPiece 89 = .ok (.ifCond .ne 29, 3) := by decide +kernel
theorem dX8_readPiece_92 : decode cX8_readPiece 92 = .ok (.aload_n 0, 1) := by decide +kernel
theorem dX8_readPiece_93 : decode cX8_readPiece 93 = .ok (.iload 4, 2) := by decide +kernel
theorem dX8_readPiece_95 : decode cX8_readPiece 95 = .ok (.iload_n 3, 1) := by decide +kernel
theorem dX8_readPiece_96 : decode cX8_readPiece 96 = .ok (.invokevirtual 71, 3) := by decide +kernel
theorem dX8_readPiece_99 : decode cX8_readPiece 99 = .ok (.aload_n 0, 1) := by decide +kernel
theorem dX8_readPiece_100 : decode cX8_readPiece 100 = .ok (.getfield 21, 3) := by decide +kernel
theorem dX8_readPiece_103 : decode cX8_readPiece 103 = .ok (.bipush 24, 2) := by decide +kernel
theorem dX8_readPiece_105 : decode cX8_readPiece 105 = .ok (.if_icmp .le 13, 3) := by decide +kernel
theorem dX8_readPiece_108 : decode cX8_readPiece 108 = .ok (.aload_n 0, 1) := by decide +kernel
theorem dX8_readPiece_109 : decode cX8_readPiece 109 = .ok (.getfield 25, 3) := by decide +kernel
theorem dX8_readPiece_112 : decode cX8_readPiece 112 = .ok (.bipush 6, 2) := by decide +kernel
theorem dX8_readPiece_114 : decode cX8_readPiece 114 = .ok (.iload_n 2, 1) := by decide +kernel
theorem dX8_readPiece_115 : decode cX8_readPiece 115 = .ok (.invokevirtual 75, 3) := by decide +kernel
theorem dX8_readPiece_118 : decode cX8_readPiece 118 = .ok (.return_, 1) := by decide +kernel
theorem dX8_readHours_0 : decode cX8_readHours 0 = .ok (.aload_n 0, 1) := by decide +kernel
theorem dX8_readHours_1 : decode cX8_readHours 1 = .ok (.iload_n 1, 1) := by decide +kernel
theorem dX8_readHours_2 : decode cX8_readHours 2 = .ok (.invokevirtual 42, 3) := by decide +kernel
theorem dX8_readHours_5 : decode cX8_readHours 5 = .ok (.iconst 1, 1) := by decide +kernel
theorem dX8_readHours_6 : decode cX8_readHours 6 = .ok (.istore_n 2, 1) := by decide +kernel
theorem dX8_readHours_7 : decode cX8_readHours 7 = .ok (.iload_n 2, 1) := by decide +kernel
theorem dX8_readHours_8 : decode cX8_readHours 8 = .ok (.bipush 60, 2) := by decide +kernel
theorem dX8_readHours_10 : decode cX8_readHours 10 = .ok (.if_icmp .ge 22, 3) := by decide +kernel
theorem dX8_readHours_13 : decode cX8_readHours 13 = .ok (.aload_n 0, 1) := by decide +kernel
theorem dX8_readHours_14 : decode cX8_readHours 14 = .ok (.iload_n 1, 1) := by decide +kernel
theorem dX8_readHours_15 : decode cX8_readHours 15 = .ok (.invokevirtual 45, 3) := by decide +kernel
theorem dX8_readHours_18 : decode cX8_readHours 18 = .ok (.ifCond .eq 14, 3) := by decide +kernel
theorem dX8_readHours_21 : decode cX8_readHours 21 = .ok (.aload_n 0, 1) := by decide +kernel
theorem dX8_readHours_22 : decode cX8_readHours 22 = .ok (.iload_n 1, 1) := by decide +kernel
theorem dX8_readHours_23 : decode cX8_readHours 23 = .ok (.invokevirtual 42, 3) := by decide +kernel
theorem dX8_readHours_26 : decode cX8_readHours 26 = .ok (.iinc 2 1, 3) := by decide +kernel
theorem dX8_readHours_29 : decode cX8_readHours 29 = .ok (.goto (-22), 3) := by decide +kernel
theorem dX8_readHours_32 : decode cX8_readHours 32 = .ok (.return_, 1) := by decide +kernel
def bX8_readGroup (F : Nat) (f_X8_readHours : Int32 → jS → Option jS) (x1 : Int32) (σ : jS) : Option jS := (if x1 < (2 : Int32) then (Option.bind (mX10_step F σ) fun q1 => (Option.bind (f_X8_readHours ((x1 + (1 : Int32))) q1) fun q2 => (Option.bind (mX10_take F (41 : Int32) q2) fun q3 => some q3))) else (Option.bind (mX10_fail F (5 : Int32) ((σ 1 3)) σ) fun q4 => some q4))
set_option maxHeartbeats 4000000 in
set_option maxRecDepth 100000 in
theorem kbX8_readGroup {V : jV} {F : Nat} {h2 h : Nat} {f_X8_readHours : Int32 → jS → Option jS} (hf_X8_readHours : ∀ (x1 : Int32) (σ : jS) (v : jS), f_X8_readHours x1 σ = some v → Ct cfX 70 V yX8_readHours cX8_readHours 3 none h2 [.ref (vad V 33), .int x1] σ (0, v)) (hh2 : h2 + 1 ≤ h) (hb : 6 ≤ h) {x1 : Int32} {σ : jS} {v : jS} (hm : bX8_readGroup F f_X8_readHours x1 σ = some v) : Ct cfX 70 V yX8_readGroup cX8_readGroup 2 none h [.ref (vad V 33), .int x1] σ (0, v) := by
  refine j_start (own := RX8) (by decide) rfl (Nat.le_of_ble_eq_true rfl) ?_
  intro G hV C
  subst hV
  unfold bX8_readGroup at hm
  show JX G 0 [(0, .ref (vad (gV G) 33)), (1, .int x1)] [] σ (0, v)
  refine j_iloadn (pc := 0) C 1 dX8_readGroup_0 rfl rfl ?_
  refine j_iconst (v := 2) (pc := 1) C dX8_readGroup_1 (by decide) ?_
  refine j_icmp_lt (tgt := 21) (pc := 2) C dX8_readGroup_2 (by decide) hm (fun _ hm => ?_) (fun _ hm => ?_)
  · refine j_aloadn (pc := 21) C 0 dX8_readGroup_21 rfl rfl ?_
    refine gf_X8_25 (c := 33) (pc := 22) C kx_33 dX8_readGroup_22 ?_
    obtain ⟨q1, hq1, hm⟩ := Option.bind_eq_some_iff.mp hm
    refine cl_X8_59 (c := 1) (pc := 25) C kx_1 (kX10_step hq1) (by omega) (Nat.le_of_ble_eq_true rfl) dX8_readGroup_25 ?_
    refine j_aloadn (pc := 28) C 0 dX8_readGroup_28 rfl rfl ?_
    refine j_iloadn (pc := 29) C 1 dX8_readGroup_29 rfl rfl ?_
    refine j_iconst (v := 1) (pc := 30) C dX8_readGroup_30 (by decide) ?_
    refine j_iadd (pc := 31) C dX8_readGroup_31 ?_
    obtain ⟨q2, hq2, hm⟩ := Option.bind_eq_some_iff.mp hm
    refine cl_X8_33 (c := 33) (pc := 32) C kx_33 (hf_X8_readHours _ _ _ hq2) hh2 (Nat.le_of_ble_eq_true rfl) dX8_readGroup_32 ?_
    refine j_aloadn (pc := 35) C 0 dX8_readGroup_35 rfl rfl ?_
    refine gf_X8_25 (c := 33) (pc := 36) C kx_33 dX8_readGroup_36 ?_
    refine j_bipush (v := 41) (pc := 39) C dX8_readGroup_39 (by decide) ?_
    obtain ⟨q3, hq3, hm⟩ := Option.bind_eq_some_iff.mp hm
    refine cl_X8_78 (c := 1) (pc := 41) C kx_1 (kX10_take hq3) (by omega) (Nat.le_of_ble_eq_true rfl) dX8_readGroup_41 ?_
    exact j_vret (pc := 44) C rfl dX8_readGroup_44 hm
  · refine j_aloadn (pc := 5) C 0 dX8_readGroup_5 rfl rfl ?_
    refine gf_X8_25 (c := 33) (pc := 6) C kx_33 dX8_readGroup_6 ?_
    refine j_iconst (v := 5) (pc := 9) C dX8_readGroup_9 (by decide) ?_
    refine j_aloadn (pc := 10) C 0 dX8_readGroup_10 rfl rfl ?_
    refine gf_X8_25 (c := 33) (pc := 11) C kx_33 dX8_readGroup_11 ?_
    refine gf_X8_56 (c := 1) (pc := 14) C kx_1 dX8_readGroup_14 ?_
    obtain ⟨q4, hq4, hm⟩ := Option.bind_eq_some_iff.mp hm
    refine cl_X8_75 (c := 1) (pc := 17) C kx_1 (kX10_fail hq4) (by omega) (Nat.le_of_ble_eq_true rfl) dX8_readGroup_17 ?_
    exact j_vret (pc := 20) C rfl dX8_readGroup_20 hm

def jn_X8_readPiece_82 (F : Nat) (f_X8_readGroup : Int32 → jS → Option jS) (x2 : Int32) (x3 : Int32) (x4 : Int32) (σ : jS) : Option jS := (if (σ 1 5) = 0 then (Option.bind (mX8_repeat F x4 x3 σ) fun q5 => (if (24 : Int32) < (q5 33 4) then (Option.bind (mX10_fail F (6 : Int32) x2 q5) fun q6 => some q6) else some q5)) else some σ)
set_option maxHeartbeats 4000000 in
set_option maxRecDepth 100000 in
theorem jn_X8_readPiece_82_ok {G : jG} {h2 h : Nat} (C : jc cfX 70 G cX8_readPiece RX8 5 none h) (F : Nat) (f_X8_readGroup : Int32 → jS → Option jS) (hf_X8_readGroup : ∀ (x1 : Int32) (σ : jS) (v : jS), f_X8_readGroup x1 σ = some v → Ct cfX 70 (gV G) yX8_readGroup cX8_readGroup 2 none h2 [.ref (vad (gV G) 33), .int x1] σ (0, v)) (hh2 : h2 + 1 ≤ h) (hb : 6 ≤ h) {v : jS} : ∀ (x2 : Int32) (x3 : Int32) (x4 : Int32) (σ : jS), jn_X8_readPiece_82 F f_X8_readGroup x2 x3 x4 σ = some v → JX G 82 [(0, .ref (vad (gV G) 33)), (2, .int x2), (3, .int x3), (4, .int x4)] [] σ (0, v) := by
  intro x2 x3 x4 σ hm
  unfold jn_X8_readPiece_82 at hm
  refine j_aloadn (pc := 82) C 0 dX8_readPiece_82 rfl rfl ?_
  refine gf_X8_25 (c := 33) (pc := 83) C kx_33 dX8_readPiece_83 ?_
  refine gf_X8_37 (c := 1) (pc := 86) C kx_1 dX8_readPiece_86 ?_
  refine j_if_ne (tgt := 118) (pc := 89) C dX8_readPiece_89 (by decide) hm (fun _ hm => ?_) (fun _ hm => ?_)
  · refine j_aloadn (pc := 92) C 0 dX8_readPiece_92 rfl rfl ?_
    refine j_iload (pc := 93) C 3 dX8_readPiece_93 rfl ?_
    refine j_iloadn (pc := 95) C 2 dX8_readPiece_95 rfl rfl ?_
    obtain ⟨q5, hq5, hm⟩ := Option.bind_eq_some_iff.mp hm
    refine cl_X8_71 (c := 33) (pc := 96) C kx_33 (kX8_repeat hq5) (by omega) (Nat.le_of_ble_eq_true rfl) dX8_readPiece_96 ?_
    refine j_aloadn (pc := 99) C 0 dX8_readPiece_99 rfl rfl ?_
    refine gf_X8_21 (c := 33) (pc := 100) C kx_33 dX8_readPiece_100 ?_
    refine j_bipush (v := 24) (pc := 103) C dX8_readPiece_103 (by decide) ?_
    refine j_icmp_le (tgt := 118) (pc := 105) C dX8_readPiece_105 (by decide) hm (fun _ hm => ?_) (fun _ hm => ?_)
    · refine j_aloadn (pc := 108) C 0 dX8_readPiece_108 rfl rfl ?_
      refine gf_X8_25 (c := 33) (pc := 109) C kx_33 dX8_readPiece_109 ?_
      refine j_bipush (v := 6) (pc := 112) C dX8_readPiece_112 (by decide) ?_
      refine j_iloadn (pc := 114) C 1 dX8_readPiece_114 rfl rfl ?_
      obtain ⟨q6, hq6, hm⟩ := Option.bind_eq_some_iff.mp hm
      refine cl_X8_75 (c := 1) (pc := 115) C kx_1 (kX10_fail hq6) (by omega) (Nat.le_of_ble_eq_true rfl) dX8_readPiece_115 ?_
      exact j_vret (pc := 118) C rfl dX8_readPiece_118 hm
    · exact j_vret (pc := 118) C rfl dX8_readPiece_118 hm
  · exact j_vret (pc := 118) C rfl dX8_readPiece_118 hm

def jn_X8_readPiece_52 (F : Nat) (f_X8_readGroup : Int32 → jS → Option jS) (x1 : Int32) (x2 : Int32) (x3 : Int32) (σ : jS) : Option jS := (lt (σ 33 4) fun y2 => (Option.bind (mX10_stands F (40 : Int32) σ) fun q3 => (if q3 = 0 then (Option.bind (mX8_readDoing F σ) fun q4 => (jn_X8_readPiece_82 F f_X8_readGroup x2 x3 y2 q4)) else (Option.bind (f_X8_readGroup x1 σ) fun q7 => (jn_X8_readPiece_82 F f_X8_readGroup x2 x3 y2 q7)))))
set_option maxHeartbeats 4000000 in
set_option maxRecDepth 100000 in
theorem jn_X8_readPiece_52_ok {G : jG} {h2 h : Nat} (C : jc cfX 70 G cX8_readPiece RX8 5 none h) (F : Nat) (f_X8_readGroup : Int32 → jS → Option jS) (hf_X8_readGroup : ∀ (x1 : Int32) (σ : jS) (v : jS), f_X8_readGroup x1 σ = some v → Ct cfX 70 (gV G) yX8_readGroup cX8_readGroup 2 none h2 [.ref (vad (gV G) 33), .int x1] σ (0, v)) (hh2 : h2 + 1 ≤ h) (hb : 6 ≤ h) {v : jS} : ∀ (x1 : Int32) (x2 : Int32) (x3 : Int32) (σ : jS), jn_X8_readPiece_52 F f_X8_readGroup x1 x2 x3 σ = some v → JX G 52 [(0, .ref (vad (gV G) 33)), (1, .int x1), (2, .int x2), (3, .int x3)] [] σ (0, v) := by
  intro x1 x2 x3 σ hm
  unfold jn_X8_readPiece_52 at hm
  refine j_aloadn (pc := 52) C 0 dX8_readPiece_52 rfl rfl ?_
  refine gf_X8_21 (c := 33) (pc := 53) C kx_33 dX8_readPiece_53 ?_
  refine j_lti hm (fun y2 hm => ?_)
  refine j_istore (ls' := [(4, .int y2), (0, .ref (vad (gV G) 33)), (1, .int x1), (2, .int x2), (3, .int x3)]) (pc := 56) C dX8_readPiece_56 (by decide) rfl ?_
  refine j_aloadn (pc := 58) C 1 dX8_readPiece_58 rfl rfl ?_
  refine gf_X8_25 (c := 33) (pc := 59) C kx_33 dX8_readPiece_59 ?_
  refine j_bipush (v := 40) (pc := 62) C dX8_readPiece_62 (by decide) ?_
  obtain ⟨q3, hq3, hm⟩ := Option.bind_eq_some_iff.mp hm
  refine cl_X8_62 (c := 1) (pc := 64) C kx_1 (kX10_stands hq3) (by omega) (Nat.le_of_ble_eq_true rfl) dX8_readPiece_64 ?_
  refine j_if_eq (tgt := 78) (pc := 67) C dX8_readPiece_67 (by decide) hm (fun _ hm => ?_) (fun _ hm => ?_)
  · refine j_aloadn (pc := 78) C 1 dX8_readPiece_78 rfl rfl ?_
    obtain ⟨q4, hq4, hm⟩ := Option.bind_eq_some_iff.mp hm
    refine cl_X8_68 (c := 33) (pc := 79) C kx_33 (kX8_readDoing hq4) (by omega) (Nat.le_of_ble_eq_true rfl) dX8_readPiece_79 ?_
    refine j_ls [1, 3, 4, 0] rfl ?_
    exact jn_X8_readPiece_82_ok C F f_X8_readGroup hf_X8_readGroup hh2 hb  _ _ _ _ hm
  · refine j_aloadn (pc := 70) C 1 dX8_readPiece_70 rfl rfl ?_
    refine j_iloadn (pc := 71) C 2 dX8_readPiece_71 rfl rfl ?_
    obtain ⟨q7, hq7, hm⟩ := Option.bind_eq_some_iff.mp hm
    refine cl_X8_65 (c := 33) (pc := 72) C kx_33 (hf_X8_readGroup _ _ _ hq7) hh2 (Nat.le_of_ble_eq_true rfl) dX8_readPiece_72 ?_
    refine j_goto (tgt := 82) (pc := 75) C dX8_readPiece_75 (by decide) ?_
    refine j_ls [1, 3, 4, 0] rfl ?_
    exact jn_X8_readPiece_82_ok C F f_X8_readGroup hf_X8_readGroup hh2 hb  _ _ _ _ hm

def bX8_readPiece (F : Nat) (f_X8_readGroup : Int32 → jS → Option jS) (x1 : Int32) (σ : jS) : Option jS := (lt (σ 1 3) fun y1 => (if (σ 1 4) < (50 : Int32) then (jn_X8_readPiece_52 F f_X8_readGroup x1 y1 (1 : Int32) σ) else (if (57 : Int32) < (σ 1 4) then (jn_X8_readPiece_52 F f_X8_readGroup x1 y1 (1 : Int32) σ) else (lt ((σ 1 4) - (48 : Int32)) fun y8 => (Option.bind (mX10_step F σ) fun q9 => (jn_X8_readPiece_52 F f_X8_readGroup x1 y1 y8 q9))))))
set_option maxHeartbeats 4000000 in
set_option maxRecDepth 100000 in
theorem kbX8_readPiece {V : jV} {F : Nat} {h2 h : Nat} {f_X8_readGroup : Int32 → jS → Option jS} (hf_X8_readGroup : ∀ (x1 : Int32) (σ : jS) (v : jS), f_X8_readGroup x1 σ = some v → Ct cfX 70 V yX8_readGroup cX8_readGroup 2 none h2 [.ref (vad V 33), .int x1] σ (0, v)) (hh2 : h2 + 1 ≤ h) (hb : 6 ≤ h) {x1 : Int32} {σ : jS} {v : jS} (hm : bX8_readPiece F f_X8_readGroup x1 σ = some v) : Ct cfX 70 V yX8_readPiece cX8_readPiece 5 none h [.ref (vad V 33), .int x1] σ (0, v) := by
  refine j_start (own := RX8) (by decide) rfl (Nat.le_of_ble_eq_true rfl) ?_
  intro G hV C
  subst hV
  unfold bX8_readPiece at hm
  show JX G 0 [(0, .ref (vad (gV G) 33)), (1, .int x1)] [] σ (0, v)
  refine j_aloadn (pc := 0) C 0 dX8_readPiece_0 rfl rfl ?_
  refine gf_X8_25 (c := 33) (pc := 1) C kx_33 dX8_readPiece_1 ?_
  refine gf_X8_56 (c := 1) (pc := 4) C kx_1 dX8_readPiece_4 ?_
  refine j_lti hm (fun y1 hm => ?_)
  refine j_istoren (ls' := [(2, .int y1), (0, .ref (vad (gV G) 33)), (1, .int x1)]) (pc := 7) C dX8_readPiece_7 rfl (by decide) rfl ?_
  refine j_iconst (v := 1) (pc := 8) C dX8_readPiece_8 (by decide) ?_
  refine j_istoren (ls' := [(3, .int (1 : Int32)), (2, .int y1), (0, .ref (vad (gV G) 33)), (1, .int x1)]) (pc := 9) C dX8_readPiece_9 rfl (by decide) rfl ?_
  refine j_aloadn (pc := 10) C 2 dX8_readPiece_10 rfl rfl ?_
  refine gf_X8_25 (c := 33) (pc := 11) C kx_33 dX8_readPiece_11 ?_
  refine gf_X8_53 (c := 1) (pc := 14) C kx_1 dX8_readPiece_14 ?_
  refine j_bipush (v := 50) (pc := 17) C dX8_readPiece_17 (by decide) ?_
  refine j_icmp_lt (tgt := 52) (pc := 19) C dX8_readPiece_19 (by decide) hm (fun _ hm => ?_) (fun _ hm => ?_)
  · refine j_ls [2, 3, 1, 0] rfl ?_
    exact jn_X8_readPiece_52_ok C F f_X8_readGroup hf_X8_readGroup hh2 hb  _ _ _ _ hm
  · refine j_aloadn (pc := 22) C 2 dX8_readPiece_22 rfl rfl ?_
    refine gf_X8_25 (c := 33) (pc := 23) C kx_33 dX8_readPiece_23 ?_
    refine gf_X8_53 (c := 1) (pc := 26) C kx_1 dX8_readPiece_26 ?_
    refine j_bipush (v := 57) (pc := 29) C dX8_readPiece_29 (by decide) ?_
    refine j_icmp_gt (tgt := 52) (pc := 31) C dX8_readPiece_31 (by decide) hm (fun _ hm => ?_) (fun _ hm => ?_)
    · refine j_ls [2, 3, 1, 0] rfl ?_
      exact jn_X8_readPiece_52_ok C F f_X8_readGroup hf_X8_readGroup hh2 hb  _ _ _ _ hm
    · refine j_aloadn (pc := 34) C 2 dX8_readPiece_34 rfl rfl ?_
      refine gf_X8_25 (c := 33) (pc := 35) C kx_33 dX8_readPiece_35 ?_
      refine gf_X8_53 (c := 1) (pc := 38) C kx_1 dX8_readPiece_38 ?_
      refine j_bipush (v := 48) (pc := 41) C dX8_readPiece_41 (by decide) ?_
      refine j_isub (pc := 43) C dX8_readPiece_43 ?_
      refine j_lti hm (fun y8 hm => ?_)
      refine j_istoren (ls' := [(3, .int y8), (2, .int y1), (0, .ref (vad (gV G) 33)), (1, .int x1)]) (pc := 44) C dX8_readPiece_44 rfl (by decide) rfl ?_
      refine j_aloadn (pc := 45) C 2 dX8_readPiece_45 rfl rfl ?_
      refine gf_X8_25 (c := 33) (pc := 46) C kx_33 dX8_readPiece_46 ?_
      obtain ⟨q9, hq9, hm⟩ := Option.bind_eq_some_iff.mp hm
      refine cl_X8_59 (c := 1) (pc := 49) C kx_1 (kX10_step hq9) (by omega) (Nat.le_of_ble_eq_true rfl) dX8_readPiece_49 ?_
      refine j_ls [2, 3, 1, 0] rfl ?_
      exact jn_X8_readPiece_52_ok C F f_X8_readGroup hf_X8_readGroup hh2 hb  _ _ _ _ hm

def lp_X8_readHours_7 (F : Nat) (f_X8_readPiece : Int32 → jS → Option jS) : Nat → Int32 → Int32 → jS → Option jS
  | 0, _, _, _ => none
  | n + 1, x1, x2, σ => (if x2 < (60 : Int32) then (Option.bind (mX8_isMore F x1 σ) fun q2 => (if q2 = 0 then some σ else (Option.bind (f_X8_readPiece x1 σ) fun q3 => (lp_X8_readHours_7 F f_X8_readPiece n x1 ((x2 + (1 : Int32))) q3)))) else some σ)
set_option maxHeartbeats 4000000 in
set_option maxRecDepth 100000 in
theorem lp_X8_readHours_7_ok {G : jG} {h2 h : Nat} (C : jc cfX 70 G cX8_readHours RX8 3 none h) (F : Nat) (f_X8_readPiece : Int32 → jS → Option jS) (hf_X8_readPiece : ∀ (x1 : Int32) (σ : jS) (v : jS), f_X8_readPiece x1 σ = some v → Ct cfX 70 (gV G) yX8_readPiece cX8_readPiece 5 none h2 [.ref (vad (gV G) 33), .int x1] σ (0, v)) (hh2 : h2 + 1 ≤ h) (hb : 6 ≤ h) {v : jS} : ∀ (n : Nat) (x1 : Int32) (x2 : Int32) (σ : jS), lp_X8_readHours_7 F f_X8_readPiece n x1 x2 σ = some v → JX G 7 [(0, .ref (vad (gV G) 33)), (1, .int x1), (2, .int x2)] [] σ (0, v) := by
  intro n
  induction n with
  | zero =>
    intro x1 x2 σ hm
    rw [lp_X8_readHours_7] at hm
    cases hm
  | succ n ih =>
    intro x1 x2 σ hm
    rw [lp_X8_readHours_7] at hm
    refine j_iloadn (pc := 7) C 2 dX8_readHours_7 rfl rfl ?_
    refine j_bipush (v := 60) (pc := 8) C dX8_readHours_8 (by decide) ?_
    refine j_icmp_ge (tgt := 32) (pc := 10) C dX8_readHours_10 (by decide) hm (fun _ hm => ?_) (fun _ hm => ?_)
    · refine j_aloadn (pc := 13) C 0 dX8_readHours_13 rfl rfl ?_
      refine j_iloadn (pc := 14) C 1 dX8_readHours_14 rfl rfl ?_
      obtain ⟨q2, hq2, hm⟩ := Option.bind_eq_some_iff.mp hm
      refine cl_X8_45 (c := 33) (pc := 15) C kx_33 (kX8_isMore hq2) (by omega) (Nat.le_of_ble_eq_true rfl) dX8_readHours_15 ?_
      refine j_if_eq (tgt := 32) (pc := 18) C dX8_readHours_18 (by decide) hm (fun _ hm => ?_) (fun _ hm => ?_)
      · exact j_vret (pc := 32) C rfl dX8_readHours_32 hm
      · refine j_aloadn (pc := 21) C 0 dX8_readHours_21 rfl rfl ?_
        refine j_iloadn (pc := 22) C 1 dX8_readHours_22 rfl rfl ?_
        obtain ⟨q3, hq3, hm⟩ := Option.bind_eq_some_iff.mp hm
        refine cl_X8_42 (c := 33) (pc := 23) C kx_33 (hf_X8_readPiece _ _ _ hq3) hh2 (Nat.le_of_ble_eq_true rfl) dX8_readHours_23 ?_
        refine j_iinc (v := (x2 + (1 : Int32))) (ls' := [(2, .int (x2 + (1 : Int32))), (0, .ref (vad (gV G) 33)), (1, .int x1)]) (pc := 26) C 2 dX8_readHours_26 rfl rfl (by decide) rfl ?_
        refine j_goto (tgt := 7) (pc := 29) C dX8_readHours_29 (by decide) ?_
        refine j_ls [1, 2, 0] rfl ?_
        exact ih _ _ _ hm
    · exact j_vret (pc := 32) C rfl dX8_readHours_32 hm

def bX8_readHours (F : Nat) (f_X8_readPiece : Int32 → jS → Option jS) (x1 : Int32) (σ : jS) : Option jS := (Option.bind (f_X8_readPiece x1 σ) fun q1 => (lp_X8_readHours_7 F f_X8_readPiece F x1 (1 : Int32) q1))
set_option maxHeartbeats 4000000 in
set_option maxRecDepth 100000 in
theorem kbX8_readHours {V : jV} {F : Nat} {h2 h : Nat} {f_X8_readPiece : Int32 → jS → Option jS} (hf_X8_readPiece : ∀ (x1 : Int32) (σ : jS) (v : jS), f_X8_readPiece x1 σ = some v → Ct cfX 70 V yX8_readPiece cX8_readPiece 5 none h2 [.ref (vad V 33), .int x1] σ (0, v)) (hh2 : h2 + 1 ≤ h) (hb : 6 ≤ h) {x1 : Int32} {σ : jS} {v : jS} (hm : bX8_readHours F f_X8_readPiece x1 σ = some v) : Ct cfX 70 V yX8_readHours cX8_readHours 3 none h [.ref (vad V 33), .int x1] σ (0, v) := by
  refine j_start (own := RX8) (by decide) rfl (Nat.le_of_ble_eq_true rfl) ?_
  intro G hV C
  subst hV
  unfold bX8_readHours at hm
  show JX G 0 [(0, .ref (vad (gV G) 33)), (1, .int x1)] [] σ (0, v)
  refine j_aloadn (pc := 0) C 0 dX8_readHours_0 rfl rfl ?_
  refine j_iloadn (pc := 1) C 1 dX8_readHours_1 rfl rfl ?_
  obtain ⟨q1, hq1, hm⟩ := Option.bind_eq_some_iff.mp hm
  refine cl_X8_42 (c := 33) (pc := 2) C kx_33 (hf_X8_readPiece _ _ _ hq1) hh2 (Nat.le_of_ble_eq_true rfl) dX8_readHours_2 ?_
  refine j_iconst (v := 1) (pc := 5) C dX8_readHours_5 (by decide) ?_
  refine j_istoren (ls' := [(2, .int (1 : Int32)), (0, .ref (vad (gV G) 33)), (1, .int x1)]) (pc := 6) C dX8_readHours_6 rfl (by decide) rfl ?_
  refine j_ls [1, 2, 0] rfl ?_
  exact lp_X8_readHours_7_ok C F f_X8_readPiece hf_X8_readPiece hh2 hb  F _ _ _ hm

def rX8_readHours (F : Nat) : Nat → Int32 → jS → Option jS
  | 0, _, _ => none
  | d + 1, x1, σ => bX8_readHours F (bX8_readPiece F (bX8_readGroup F (rX8_readHours F d))) x1 σ
theorem krX8_readHours {V : jV} {F : Nat} : ∀ (d : Nat) (x1 : Int32) (σ v : jS), rX8_readHours F d x1 σ = some v → Ct cfX 70 V yX8_readHours cX8_readHours 3 none (6 + 3 * d) [.ref (vad V 33), .int x1] σ (0, v) := by
  intro d
  induction d with
  | zero =>
    intro x1 σ v hm
    rw [rX8_readHours] at hm
    cases hm
  | succ d ih =>
    intro x1 σ v hm
    rw [rX8_readHours] at hm
    exact kbX8_readHours (h2 := 6 + 3 * d + 2) (fun a σ v hm => kbX8_readPiece (h2 := 6 + 3 * d + 1) (fun a σ v hm => kbX8_readGroup (h2 := 6 + 3 * d) ih (by omega) (by omega) hm) (by omega) (by omega) hm) (by omega) (by omega) hm
def mX8_readHours (F : Nat) (x1 : Int32) (σ : jS) : Option jS := rX8_readHours F 4 x1 σ
theorem kX8_readHours {V : jV} {F : Nat} {x1 : Int32} {σ v : jS} (hm : mX8_readHours F x1 σ = some v) : Ct cfX 70 V yX8_readHours cX8_readHours 3 none 18 [.ref (vad V 33), .int x1] σ (0, v) := krX8_readHours 4 x1 σ v hm
theorem dX8_read_0 : decode cX8_read 0 = .ok (.aload_n 0, 1) := by decide +kernel
theorem dX8_read_1 : decode cX8_read 1 = .ok (.iconst 0, 1) := by decide +kernel
theorem dX8_read_2 : decode cX8_read 2 = .ok (.putfield 21, 3) := by decide +kernel
theorem dX8_read_5 : decode cX8_read 5 = .ok (.aload_n 0, 1) := by decide +kernel
theorem dX8_read_6 : decode cX8_read 6 = .ok (.iconst 0, 1) := by decide +kernel
theorem dX8_read_7 : decode cX8_read 7 = .ok (.invokevirtual 33, 3) := by decide +kernel
theorem dX8_read_10 : decode cX8_read 10 = .ok (.aload_n 0, 1) := by decide +kernel
theorem dX8_read_11 : decode cX8_read 11 = .ok (.getfield 25, 3) := by decide +kernel
theorem dX8_read_14 : decode cX8_read 14 = .ok (.getfield 37, 3) := by decide +kernel
theorem dX8_read_17 : decode cX8_read 17 = .ok (.ifCond .eq 11, 3) := by decide +kernel
theorem dX8_read_20 : decode cX8_read 20 = .ok (.aload_n 0, 1) := by decide +kernel
theorem dX8_read_21 : decode cX8_read 21 = .ok (.getfield 25, 3) := by decide +kernel
theorem dX8_read_24 : decode cX8_read 24 = .ok (.getfield 37, 3) := by decide +kernel
theorem dX8_read_27 : decode cX8_read 27 = .ok (.ireturn, 1) := by decide +kernel
theorem dX8_read_28 : decode cX8_read 28 = .ok (.iload_n 1, 1) := by decide +kernel
theorem dX8_read_29 : decode cX8_read 29 = .ok (.ifCond .lt 62, 3) := by decide +kernel
theorem dX8_read_32 : decode cX8_read 32 = .ok (.iload_n 1, 1) := by decide +kernel
theorem dX8_read_33 : decode cX8_read 33 = .ok (.bipush 16, 2) := by decide +kernel
theorem dX8_read_35 : decode cX8_read 35 = .ok (.if_icmp .ge 56, 3) := by decide +kernel
theorem dX8_read_38 : decode cX8_read 38 = .ok (.iconst 0, 1) := by decide +kernel
theorem dX8_read_39 : decode cX8_read 39 = .ok (.istore_n 2, 1) := by decide +kernel
theorem dX8_read_40 : decode cX8_read 40 = .ok (.iload_n 2, 1) := by decide +kernel
theorem dX8_read_41 : decode cX8_read 41 = .ok (.bipush 24, 2) := by decide +kernel
theorem dX8_read_43 : decode cX8_read 43 = .ok (.if_icmp .ge 38, 3) := by decide +kernel
theorem dX8_read_46 : decode cX8_read 46 = .ok (.aload_n 0, 1) := by decide +kernel
theorem dX8_read_47 : decode cX8_read 47 = .ok (.getfield 9, 3) := by decide +kernel
theorem dX8_read_50 : decode cX8_read 50 = .ok (.iload_n 1, 1) := by decide +kernel
theorem dX8_read_51 : decode cX8_read 51 = .ok (.bipush 24, 2) := by decide +kernel
theorem dX8_read_53 : decode cX8_read 53 = .ok (.imul, 1) := by decide +kernel
theorem dX8_read_54 : decode cX8_read 54 = .ok (.iload_n 2, 1) := by decide +kernel
theorem dX8_read_55 : decode cX8_read 55 = .ok (.iadd, 1) := by decide +kernel
theorem dX8_read_56 : decode cX8_read 56 = .ok (.iload_n 2, 1) := by decide +kernel
theorem dX8_read_57 : decode cX8_read 57 = .ok (.aload_n 0, 1) := by decide +kernel
theorem dX8_read_58 : decode cX8_read 58 = .ok (.getfield 21, 3) := by decide +kernel
theorem dX8_read_61 : decode cX8_read 61 = .ok (.if_icmp .ge 12, 3) := by decide +kernel
theorem dX8_read_64 : decode cX8_read 64 = .ok (.aload_n 0, 1) := by decide +kernel
theorem dX8_read_65 : decode cX8_read 65 = .ok (.getfield 18, 3) := by decide +kernel
theorem dX8_read_68 : decode cX8_read 68 = .ok (.iload_n 2, 1) := by decide +kernel
theorem dX8_read_69 : decode cX8_read 69 = .ok (.iaload, 1) := by decide +kernel
theorem dX8_read_70 : decode cX8_read 70 = .ok (.goto 4, 3) := by decide +kernel
theorem dX8_read_73 : decode cX8_read 73 = .ok (.iconst 0, 1) := by decide +kernel
theorem dX8_read_74 : decode cX8_read 74 = .ok (.iastore, 1) := by decide +kernel
theorem dX8_read_75 : decode cX8_read 75 = .ok (.iinc 2 1, 3) := by decide +kernel
theorem dX8_read_78 : decode cX8_read 78 = .ok (.goto (-38), 3) := by decide +kernel
theorem dX8_read_81 : decode cX8_read 81 = .ok (.aload_n 0, 1) := by decide +kernel
theorem dX8_read_82 : decode cX8_read 82 = .ok (.getfield 15, 3) := by decide +kernel
theorem dX8_read_85 : decode cX8_read 85 = .ok (.iload_n 1, 1) := by decide +kernel
theorem dX8_read_86 : decode cX8_read 86 = .ok (.aload_n 0, 1) := by decide +kernel
theorem dX8_read_87 : decode cX8_read 87 = .ok (.getfield 21, 3) := by decide +kernel
theorem dX8_read_90 : decode cX8_read 90 = .ok (.iastore, 1) := by decide +kernel
theorem dX8_read_91 : decode cX8_read 91 = .ok (.aload_n 0, 1) := by decide +kernel
theorem dX8_read_92 : decode cX8_read 92 = .ok (.getfield 21, 3) := by decide +kernel
theorem dX8_read_95 : decode cX8_read 95 = .ok (.ireturn, 1) := by decide +kernel
def lp_X8_read_40 (F : Nat) : Nat → Int32 → Int32 → jS → Option (Int32 × jS)
  | 0, _, _, _ => none
  | n + 1, x1, x2, σ => (if x2 < (24 : Int32) then (if x2 < (σ 33 4) then (if jin x2 24 = true then (if jin ((x1 * (24 : Int32)) + x2) 384 = true then (lt (js σ 34 ((x1 * (24 : Int32)) + x2).toNatClampNeg (σ 36 x2.toNatClampNeg)) fun σ4 => (lp_X8_read_40 F n x1 ((x2 + (1 : Int32))) σ4)) else none) else none) else (if jin ((x1 * (24 : Int32)) + x2) 384 = true then (lt (js σ 34 ((x1 * (24 : Int32)) + x2).toNatClampNeg (0 : Int32)) fun σ6 => (lp_X8_read_40 F n x1 ((x2 + (1 : Int32))) σ6)) else none)) else (if jin x1 16 = true then (lt (js σ 35 x1.toNatClampNeg (σ 33 4)) fun σ8 => some ((σ8 33 4), σ8)) else none))
set_option maxHeartbeats 4000000 in
set_option maxRecDepth 100000 in
theorem lp_X8_read_40_ok {G : jG} (C : jc cfX 70 G cX8_read RX8 3 (some .int) 19) (F : Nat) {v : (Int32 × jS)} : ∀ (n : Nat) (x1 : Int32) (x2 : Int32) (σ : jS), lp_X8_read_40 F n x1 x2 σ = some v → JX G 40 [(0, .ref (vad (gV G) 33)), (1, .int x1), (2, .int x2)] [] σ v := by
  intro n
  induction n with
  | zero =>
    intro x1 x2 σ hm
    rw [lp_X8_read_40] at hm
    cases hm
  | succ n ih =>
    intro x1 x2 σ hm
    rw [lp_X8_read_40] at hm
    refine j_iloadn (pc := 40) C 2 dX8_read_40 rfl rfl ?_
    refine j_bipush (v := 24) (pc := 41) C dX8_read_41 (by decide) ?_
    refine j_icmp_ge (tgt := 81) (pc := 43) C dX8_read_43 (by decide) hm (fun _ hm => ?_) (fun _ hm => ?_)
    · refine j_aloadn (pc := 46) C 0 dX8_read_46 rfl rfl ?_
      refine gf_X8_9 (c := 33) (pc := 47) C kx_33 dX8_read_47 ?_
      refine j_iloadn (pc := 50) C 1 dX8_read_50 rfl rfl ?_
      refine j_bipush (v := 24) (pc := 51) C dX8_read_51 (by decide) ?_
      refine j_imul (pc := 53) C dX8_read_53 ?_
      refine j_iloadn (pc := 54) C 2 dX8_read_54 rfl rfl ?_
      refine j_iadd (pc := 55) C dX8_read_55 ?_
      refine j_iloadn (pc := 56) C 2 dX8_read_56 rfl rfl ?_
      refine j_aloadn (pc := 57) C 0 dX8_read_57 rfl rfl ?_
      refine gf_X8_21 (c := 33) (pc := 58) C kx_33 dX8_read_58 ?_
      refine j_icmp_ge (tgt := 73) (pc := 61) C dX8_read_61 (by decide) hm (fun _ hm => ?_) (fun _ hm => ?_)
      · refine j_aloadn (pc := 64) C 0 dX8_read_64 rfl rfl ?_
        refine gf_X8_18 (c := 33) (pc := 65) C kx_33 dX8_read_65 ?_
        refine j_iloadn (pc := 68) C 2 dX8_read_68 rfl rfl ?_
        refine j_guard hm (fun hg3 hm => ?_)
        refine j_iald (c := 36) (n := 24) (pc := 69) C (kX_lt kx_36 (by decide)) (cx_a kx_36 lx_36 _) hg3 dX8_read_69 ?_
        refine j_goto (tgt := 74) (pc := 70) C dX8_read_70 (by decide) ?_
        refine j_guard hm (fun hg5 hm => ?_)
        refine j_iastL (c := 34) (n := 384) (pc := 74) C (kX_lt kx_34 (by decide)) (cx_a kx_34 lx_34) hg5 dX8_read_74 hm (fun σ4 hm => ?_)
        refine j_iinc (v := (x2 + (1 : Int32))) (ls' := [(2, .int (x2 + (1 : Int32))), (0, .ref (vad (gV G) 33)), (1, .int x1)]) (pc := 75) C 2 dX8_read_75 rfl rfl (by decide) rfl ?_
        refine j_goto (tgt := 40) (pc := 78) C dX8_read_78 (by decide) ?_
        refine j_ls [1, 2, 0] rfl ?_
        exact ih _ _ _ hm
      · refine j_iconst (v := 0) (pc := 73) C dX8_read_73 (by decide) ?_
        refine j_guard hm (fun hg7 hm => ?_)
        refine j_iastL (c := 34) (n := 384) (pc := 74) C (kX_lt kx_34 (by decide)) (cx_a kx_34 lx_34) hg7 dX8_read_74 hm (fun σ6 hm => ?_)
        refine j_iinc (v := (x2 + (1 : Int32))) (ls' := [(2, .int (x2 + (1 : Int32))), (0, .ref (vad (gV G) 33)), (1, .int x1)]) (pc := 75) C 2 dX8_read_75 rfl rfl (by decide) rfl ?_
        refine j_goto (tgt := 40) (pc := 78) C dX8_read_78 (by decide) ?_
        refine j_ls [1, 2, 0] rfl ?_
        exact ih _ _ _ hm
    · refine j_aloadn (pc := 81) C 0 dX8_read_81 rfl rfl ?_
      refine gf_X8_15 (c := 33) (pc := 82) C kx_33 dX8_read_82 ?_
      refine j_iloadn (pc := 85) C 1 dX8_read_85 rfl rfl ?_
      refine j_aloadn (pc := 86) C 0 dX8_read_86 rfl rfl ?_
      refine gf_X8_21 (c := 33) (pc := 87) C kx_33 dX8_read_87 ?_
      refine j_guard hm (fun hg9 hm => ?_)
      refine j_iastL (c := 35) (n := 16) (pc := 90) C (kX_lt kx_35 (by decide)) (cx_a kx_35 lx_35) hg9 dX8_read_90 hm (fun σ8 hm => ?_)
      refine j_aloadn (pc := 91) C 0 dX8_read_91 rfl rfl ?_
      refine gf_X8_21 (c := 33) (pc := 92) C kx_33 dX8_read_92 ?_
      exact j_iretS (pc := 95) C rfl dX8_read_95 hm

def mX8_read (F : Nat) (x1 : Int32) (σ : jS) : Option (Int32 × jS) := (lt (js σ 33 4 (0 : Int32)) fun σ1 => (Option.bind (mX8_readHours F (0 : Int32) σ1) fun q2 => (if (q2 1 5) = 0 then (if x1 < 0 then some ((q2 33 4), q2) else (if x1 < (16 : Int32) then (lp_X8_read_40 F F x1 (0 : Int32) q2) else some ((q2 33 4), q2))) else some ((q2 1 5), q2))))
set_option maxHeartbeats 4000000 in
set_option maxRecDepth 100000 in
theorem kX8_read {V : jV} {F : Nat} {x1 : Int32} {σ : jS} {v : (Int32 × jS)} (hm : mX8_read F x1 σ = some v) : Ct cfX 70 V yX8_read cX8_read 3 (some .int) 19 [.ref (vad V 33), .int x1] σ v := by
  refine j_start (own := RX8) (by decide) rfl (Nat.le_of_ble_eq_true rfl) ?_
  intro G hV C
  subst hV
  unfold mX8_read at hm
  show JX G 0 [(0, .ref (vad (gV G) 33)), (1, .int x1)] [] σ v
  refine j_aloadn (pc := 0) C 0 dX8_read_0 rfl rfl ?_
  refine j_iconst (v := 0) (pc := 1) C dX8_read_1 (by decide) ?_
  refine pf_X8_21 (c := 33) (pc := 2) C kx_33 dX8_read_2 hm (fun σ1 hm => ?_)
  refine j_aloadn (pc := 5) C 0 dX8_read_5 rfl rfl ?_
  refine j_iconst (v := 0) (pc := 6) C dX8_read_6 (by decide) ?_
  obtain ⟨q2, hq2, hm⟩ := Option.bind_eq_some_iff.mp hm
  refine cl_X8_33 (c := 33) (pc := 7) C kx_33 (kX8_readHours hq2) (by decide) (Nat.le_of_ble_eq_true rfl) dX8_read_7 ?_
  refine j_aloadn (pc := 10) C 0 dX8_read_10 rfl rfl ?_
  refine gf_X8_25 (c := 33) (pc := 11) C kx_33 dX8_read_11 ?_
  refine gf_X8_37 (c := 1) (pc := 14) C kx_1 dX8_read_14 ?_
  refine j_if_eq (tgt := 28) (pc := 17) C dX8_read_17 (by decide) hm (fun _ hm => ?_) (fun _ hm => ?_)
  · refine j_iloadn (pc := 28) C 1 dX8_read_28 rfl rfl ?_
    refine j_if_lt (tgt := 91) (pc := 29) C dX8_read_29 (by decide) hm (fun _ hm => ?_) (fun _ hm => ?_)
    · refine j_aloadn (pc := 91) C 0 dX8_read_91 rfl rfl ?_
      refine gf_X8_21 (c := 33) (pc := 92) C kx_33 dX8_read_92 ?_
      exact j_iretS (pc := 95) C rfl dX8_read_95 hm
    · refine j_iloadn (pc := 32) C 1 dX8_read_32 rfl rfl ?_
      refine j_bipush (v := 16) (pc := 33) C dX8_read_33 (by decide) ?_
      refine j_icmp_ge (tgt := 91) (pc := 35) C dX8_read_35 (by decide) hm (fun _ hm => ?_) (fun _ hm => ?_)
      · refine j_iconst (v := 0) (pc := 38) C dX8_read_38 (by decide) ?_
        refine j_istoren (ls' := [(2, .int (0 : Int32)), (0, .ref (vad (gV G) 33)), (1, .int x1)]) (pc := 39) C dX8_read_39 rfl (by decide) rfl ?_
        refine j_ls [1, 2, 0] rfl ?_
        exact lp_X8_read_40_ok C F  F _ _ _ hm
      · refine j_aloadn (pc := 91) C 0 dX8_read_91 rfl rfl ?_
        refine gf_X8_21 (c := 33) (pc := 92) C kx_33 dX8_read_92 ?_
        exact j_iretS (pc := 95) C rfl dX8_read_95 hm
  · refine j_aloadn (pc := 20) C 0 dX8_read_20 rfl rfl ?_
    refine gf_X8_25 (c := 33) (pc := 21) C kx_33 dX8_read_21 ?_
    refine gf_X8_37 (c := 1) (pc := 24) C kx_1 dX8_read_24 ?_
    exact j_iretS (pc := 27) C rfl dX8_read_27 hm

