theorem dX1_hoursOf_0 : decode cX1_hoursOf 0 = .ok (.iload_n 1, 1) := by decide +kernel
theorem dX1_hoursOf_1 : decode cX1_hoursOf 1 = .ok (.ifCond .lt 17, 3) := by decide +kernel
theorem dX1_hoursOf_4 : decode cX1_hoursOf 4 = .ok (.iload_n 1, 1) := by decide +kernel
theorem dX1_hoursOf_5 : decode cX1_hoursOf 5 = .ok (.iconst 5, 1) := by decide +kernel
theorem dX1_hoursOf_6 : decode cX1_hoursOf 6 = .ok (.if_icmp .ge 12, 3) := by decide +kernel
theorem dX1_hoursOf_9 : decode cX1_hoursOf 9 = .ok (.aload_n 0, 1) := by decide +kernel
theorem dX1_hoursOf_10 : decode cX1_hoursOf 10 = .ok (.getfield 21, 3) := by decide +kernel
theorem dX1_hoursOf_13 : decode cX1_hoursOf 13 = .ok (.iload_n 1, 1) := by decide +kernel
theorem dX1_hoursOf_14 : decode cX1_hoursOf 14 = .ok (.iaload, 1) := by decide +kernel
theorem dX1_hoursOf_15 : decode cX1_hoursOf 15 = .ok (.goto 4, 3) := by decide +kernel
theorem dX1_hoursOf_18 : decode cX1_hoursOf 18 = .ok (.iconst 0, 1) := by decide +kernel
theorem dX1_hoursOf_19 : decode cX1_hoursOf 19 = .ok (.ireturn, 1) := by decide +kernel
theorem dX1_note_0 : decode cX1_note 0 = .ok (.iload_n 1, 1) := by decide +kernel
theorem dX1_note_1 : decode cX1_note 1 = .ok (.aload_n 0, 1) := by decide +kernel
theorem dX1_note_2 : decode cX1_note 2 = .ok (.getfield 28, 3) := by decide +kernel
theorem dX1_note_5 : decode cX1_note 5 = .ok (.if_icmp .le 22, 3) := by decide +kernel
theorem dX1_note_8 : decode cX1_note 8 = .ok (.aload_n 0, 1) := by decide +kernel
theorem dX1_note_9 : decode cX1_note 9 = .ok (.iload_n 1, 1) := by decide +kernel
theorem dX1_note_10 : decode cX1_note 10 = .ok (.putfield 28, 3) := by decide +kernel
theorem dX1_note_13 : decode cX1_note 13 = .ok (.aload_n 0, 1) := by decide +kernel
theorem dX1_note_14 : decode cX1_note 14 = .ok (.getfield 18, 3) := by decide +kernel
theorem dX1_note_17 : decode cX1_note 17 = .ok (.iconst 0, 1) := by decide +kernel
theorem dX1_note_18 : decode cX1_note 18 = .ok (.aload_n 0, 1) := by decide +kernel
theorem dX1_note_19 : decode cX1_note 19 = .ok (.getfield 21, 3) := by decide +kernel
theorem dX1_note_22 : decode cX1_note 22 = .ok (.iconst 0, 1) := by decide +kernel
theorem dX1_note_23 : decode cX1_note 23 = .ok (.iconst 5, 1) := by decide +kernel
theorem dX1_note_24 : decode cX1_note 24 = .ok (.invokestatic 51, 3) := by decide +kernel
theorem dX1_note_27 : decode cX1_note 27 = .ok (.return_, 1) := by decide +kernel
def mX1_hoursOf (F : Nat) (x1 : Int32) (σ : jS) : Option Int32 := (if x1 < 0 then some (0 : Int32) else (if x1 < (5 : Int32) then (if jin x1 5 = true then some (σ 66 x1.toNatClampNeg) else none) else some (0 : Int32)))
set_option maxHeartbeats 4000000 in
set_option maxRecDepth 100000 in
theorem kX1_hoursOf {V : jV} {F : Nat} {x1 : Int32} {σ : jS} {v : Int32} (hm : mX1_hoursOf F x1 σ = some v) : Ct cfX 70 V yX1_hoursOf cX1_hoursOf 2 (some .int) 0 [.ref (vad V 62), .int x1] σ (v, σ) := by
  refine j_start (own := RX1) (by decide) rfl (Nat.le_of_ble_eq_true rfl) ?_
  intro G hV C
  subst hV
  unfold mX1_hoursOf at hm
  show JX G 0 [(0, .ref (vad (gV G) 62)), (1, .int x1)] [] σ (v, σ)
  refine j_iloadn (pc := 0) C 1 dX1_hoursOf_0 rfl rfl ?_
  refine j_if_lt (tgt := 18) (pc := 1) C dX1_hoursOf_1 (by decide) hm (fun _ hm => ?_) (fun _ hm => ?_)
  · refine j_iconst (v := 0) (pc := 18) C dX1_hoursOf_18 (by decide) ?_
    exact j_iret (pc := 19) C rfl dX1_hoursOf_19 hm
  · refine j_iloadn (pc := 4) C 1 dX1_hoursOf_4 rfl rfl ?_
    refine j_iconst (v := 5) (pc := 5) C dX1_hoursOf_5 (by decide) ?_
    refine j_icmp_ge (tgt := 18) (pc := 6) C dX1_hoursOf_6 (by decide) hm (fun _ hm => ?_) (fun _ hm => ?_)
    · refine j_aloadn (pc := 9) C 0 dX1_hoursOf_9 rfl rfl ?_
      refine gf_X1_21 (c := 62) (pc := 10) C kx_62 dX1_hoursOf_10 ?_
      refine j_iloadn (pc := 13) C 1 dX1_hoursOf_13 rfl rfl ?_
      refine j_guard hm (fun hg1 hm => ?_)
      refine j_iald (c := 66) (n := 5) (pc := 14) C (kX_lt kx_66 (by decide)) (cx_a kx_66 lx_66 _) hg1 dX1_hoursOf_14 ?_
      refine j_goto (tgt := 19) (pc := 15) C dX1_hoursOf_15 (by decide) ?_
      exact j_iret (pc := 19) C rfl dX1_hoursOf_19 hm
    · refine j_iconst (v := 0) (pc := 18) C dX1_hoursOf_18 (by decide) ?_
      exact j_iret (pc := 19) C rfl dX1_hoursOf_19 hm

def mX1_note (F : Nat) (x1 : Int32) (σ : jS) : Option jS := (if (σ 62 5) < x1 then (lt (js σ 62 5 x1) fun σ1 => (lt (jcp σ1 65 66 5) fun σ2 => some σ2)) else some σ)
set_option maxHeartbeats 4000000 in
set_option maxRecDepth 100000 in
theorem kX1_note {V : jV} {F : Nat} {x1 : Int32} {σ : jS} {v : jS} (hm : mX1_note F x1 σ = some v) : Ct cfX 70 V yX1_note cX1_note 2 none 1 [.ref (vad V 62), .int x1] σ (0, v) := by
  refine j_start (own := RX1) (by decide) rfl (Nat.le_of_ble_eq_true rfl) ?_
  intro G hV C
  subst hV
  unfold mX1_note at hm
  show JX G 0 [(0, .ref (vad (gV G) 62)), (1, .int x1)] [] σ (0, v)
  refine j_iloadn (pc := 0) C 1 dX1_note_0 rfl rfl ?_
  refine j_aloadn (pc := 1) C 0 dX1_note_1 rfl rfl ?_
  refine gf_X1_28 (c := 62) (pc := 2) C kx_62 dX1_note_2 ?_
  refine j_icmp_le (tgt := 27) (pc := 5) C dX1_note_5 (by decide) hm (fun _ hm => ?_) (fun _ hm => ?_)
  · refine j_aloadn (pc := 8) C 0 dX1_note_8 rfl rfl ?_
    refine j_iloadn (pc := 9) C 1 dX1_note_9 rfl rfl ?_
    refine pf_X1_28 (c := 62) (pc := 10) C kx_62 dX1_note_10 hm (fun σ1 hm => ?_)
    refine j_aloadn (pc := 13) C 0 dX1_note_13 rfl rfl ?_
    refine gf_X1_18 (c := 62) (pc := 14) C kx_62 dX1_note_14 ?_
    refine j_iconst (v := 0) (pc := 17) C dX1_note_17 (by decide) ?_
    refine j_aloadn (pc := 18) C 0 dX1_note_18 rfl rfl ?_
    refine gf_X1_21 (c := 62) (pc := 19) C kx_62 dX1_note_19 ?_
    refine j_iconst (v := 0) (pc := 22) C dX1_note_22 (by decide) ?_
    refine j_iconst (v := 5) (pc := 23) C dX1_note_23 (by decide) ?_
    refine j_acopy (c0 := 65) (c1 := 66) (n0 := 5) (n1 := 5) (k := 5) (pc := 24) C tw_4_216 tw_3_174 tw_3_173 tw_1_20 (kX_lt kx_65 (by decide)) (kX_lt kx_66 (by decide)) (cx_a kx_65 lx_65) (cx_a kx_66 lx_66) (by decide) (by decide) (by decide) (by decide) (by decide) (Nat.le_of_ble_eq_true rfl) dX1_note_24 hm (fun σ2 hm => ?_)
    exact j_vret (pc := 27) C rfl dX1_note_27 hm
  · exact j_vret (pc := 27) C rfl dX1_note_27 hm

