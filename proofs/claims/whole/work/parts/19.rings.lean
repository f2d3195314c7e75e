theorem dX7_note_0 : decode cX7_note 0 = .ok (.iload_n 2, 1) := by decide +kernel
theorem dX7_note_1 : decode cX7_note 1 = .ok (.aload_n 0, 1) := by decide +kernel
theorem dX7_note_2 : decode cX7_note 2 = .ok (.getfield 15, 3) := by decide +kernel
theorem dX7_note_5 : decode cX7_note 5 = .ok (.if_icmp .lt 11, 3) := by decide +kernel
theorem dX7_note_8 : decode cX7_note 8 = .ok (.iload_n 1, 1) := by decide +kernel
theorem dX7_note_9 : decode cX7_note 9 = .ok (.aload_n 0, 1) := by decide +kernel
theorem dX7_note_10 : decode cX7_note 10 = .ok (.getfield 19, 3) := by decide +kernel
theorem dX7_note_13 : decode cX7_note 13 = .ok (.if_icmp .ge 13, 3) := by decide +kernel
theorem dX7_note_16 : decode cX7_note 16 = .ok (.aload_n 0, 1) := by decide +kernel
theorem dX7_note_17 : decode cX7_note 17 = .ok (.iload_n 2, 1) := by decide +kernel
theorem dX7_note_18 : decode cX7_note 18 = .ok (.putfield 15, 3) := by decide +kernel
theorem dX7_note_21 : decode cX7_note 21 = .ok (.aload_n 0, 1) := by decide +kernel
theorem dX7_note_22 : decode cX7_note 22 = .ok (.iload_n 1, 1) := by decide +kernel
theorem dX7_note_23 : decode cX7_note 23 = .ok (.putfield 19, 3) := by decide +kernel
theorem dX7_note_26 : decode cX7_note 26 = .ok (.return_, 1) := by decide +kernel
def mX7_note (F : Nat) (x1 : Int32) (x2 : Int32) (σ : jS) : Option jS := (if x2 < (σ 60 1) then (lt (js σ 60 1 x2) fun σ1 => (lt (js σ1 60 2 x1) fun σ2 => some σ2)) else (if x1 < (σ 60 2) then (lt (js σ 60 1 x2) fun σ3 => (lt (js σ3 60 2 x1) fun σ4 => some σ4)) else some σ))
set_option maxHeartbeats 4000000 in
set_option maxRecDepth 100000 in
theorem kX7_note {V : jV} {F : Nat} {x1 : Int32} {x2 : Int32} {σ : jS} {v : jS} (hm : mX7_note F x1 x2 σ = some v) : Ct cfX 70 V yX7_note cX7_note 3 none 0 [.ref (vad V 60), .int x1, .int x2] σ (0, v) := by
  refine j_start (own := RX7) (by decide) rfl (Nat.le_of_ble_eq_true rfl) ?_
  intro G hV C
  subst hV
  unfold mX7_note at hm
  show JX G 0 [(0, .ref (vad (gV G) 60)), (1, .int x1), (2, .int x2)] [] σ (0, v)
  refine j_iloadn (pc := 0) C 2 dX7_note_0 rfl rfl ?_
  refine j_aloadn (pc := 1) C 0 dX7_note_1 rfl rfl ?_
  refine gf_X7_15 (c := 60) (pc := 2) C kx_60 dX7_note_2 ?_
  refine j_icmp_lt (tgt := 16) (pc := 5) C dX7_note_5 (by decide) hm (fun _ hm => ?_) (fun _ hm => ?_)
  · refine j_aloadn (pc := 16) C 0 dX7_note_16 rfl rfl ?_
    refine j_iloadn (pc := 17) C 2 dX7_note_17 rfl rfl ?_
    refine pf_X7_15 (c := 60) (pc := 18) C kx_60 dX7_note_18 hm (fun σ1 hm => ?_)
    refine j_aloadn (pc := 21) C 0 dX7_note_21 rfl rfl ?_
    refine j_iloadn (pc := 22) C 1 dX7_note_22 rfl rfl ?_
    refine pf_X7_19 (c := 60) (pc := 23) C kx_60 dX7_note_23 hm (fun σ2 hm => ?_)
    exact j_vret (pc := 26) C rfl dX7_note_26 hm
  · refine j_iloadn (pc := 8) C 1 dX7_note_8 rfl rfl ?_
    refine j_aloadn (pc := 9) C 0 dX7_note_9 rfl rfl ?_
    refine gf_X7_19 (c := 60) (pc := 10) C kx_60 dX7_note_10 ?_
    refine j_icmp_ge (tgt := 26) (pc := 13) C dX7_note_13 (by decide) hm (fun _ hm => ?_) (fun _ hm => ?_)
    · refine j_aloadn (pc := 16) C 0 dX7_note_16 rfl rfl ?_
      refine j_iloadn (pc := 17) C 2 dX7_note_17 rfl rfl ?_
      refine pf_X7_15 (c := 60) (pc := 18) C kx_60 dX7_note_18 hm (fun σ3 hm => ?_)
      refine j_aloadn (pc := 21) C 0 dX7_note_21 rfl rfl ?_
      refine j_iloadn (pc := 22) C 1 dX7_note_22 rfl rfl ?_
      refine pf_X7_19 (c := 60) (pc := 23) C kx_60 dX7_note_23 hm (fun σ4 hm => ?_)
      exact j_vret (pc := 26) C rfl dX7_note_26 hm
    · exact j_vret (pc := 26) C rfl dX7_note_26 hm

