theorem dX3_clear_0 : decode cX3_clear 0 = .ok (.aload_n 0, 1) := by decide +kernel
theorem dX3_clear_1 : decode cX3_clear 1 = .ok (.iconst 0, 1) := by decide +kernel
theorem dX3_clear_2 : decode cX3_clear 2 = .ok (.putfield 27, 3) := by decide +kernel
theorem dX3_clear_5 : decode cX3_clear 5 = .ok (.aload_n 0, 1) := by decide +kernel
theorem dX3_clear_6 : decode cX3_clear 6 = .ok (.iconst 0, 1) := by decide +kernel
theorem dX3_clear_7 : decode cX3_clear 7 = .ok (.putfield 31, 3) := by decide +kernel
theorem dX3_clear_10 : decode cX3_clear 10 = .ok (.return_, 1) := by decide +kernel
theorem dX3_addRule_0 : decode cX3_addRule 0 = .ok (.aload_n 0, 1) := by decide +kernel
theorem dX3_addRule_1 : decode cX3_addRule 1 = .ok (.getfield 31, 3) := by decide +kernel
theorem dX3_addRule_4 : decode cX3_addRule 4 = .ok (.bipush 16, 2) := by decide +kernel
theorem dX3_addRule_6 : decode cX3_addRule 6 = .ok (.if_icmp .ge 56, 3) := by decide +kernel
theorem dX3_addRule_9 : decode cX3_addRule 9 = .ok (.aload_n 0, 1) := by decide +kernel
theorem dX3_addRule_10 : decode cX3_addRule 10 = .ok (.getfield 15, 3) := by decide +kernel
theorem dX3_addRule_13 : decode cX3_addRule 13 = .ok (.aload_n 0, 1) := by decide +kernel
theorem dX3_addRule_14 : decode cX3_addRule 14 = .ok (.getfield 31, 3) := by decide +kernel
theorem dX3_addRule_17 : decode cX3_addRule 17 = .ok (.iload_n 1, 1) := by decide +kernel
theorem dX3_addRule_18 : decode cX3_addRule 18 = .ok (.iastore, 1) := by decide +kernel
theorem dX3_addRule_19 : decode cX3_addRule 19 = .ok (.aload_n 0, 1) := by decide +kernel
theorem dX3_addRule_20 : decode cX3_addRule 20 = .ok (.getfield 18, 3) := by decide +kernel
theorem dX3_addRule_23 : decode cX3_addRule 23 = .ok (.aload_n 0, 1) := by decide +kernel
theorem dX3_addRule_24 : decode cX3_addRule 24 = .ok (.getfield 31, 3) := by decide +kernel
theorem dX3_addRule_27 : decode cX3_addRule 27 = .ok (.iload_n 2, 1) := by decide +kernel
theorem dX3_addRule_28 : decode cX3_addRule 28 = .ok (.iastore, 1) := by decide +kernel
theorem dX3_addRule_29 : decode cX3_addRule 29 = .ok (.aload_n 0, 1) := by decide +kernel
theorem dX3_addRule_30 : decode cX3_addRule 30 = .ok (.getfield 21, 3) := by decide +kernel
theorem dX3_addRule_33 : decode cX3_addRule 33 = .ok (.aload_n 0, 1) := by decide +kernel
theorem dX3_addRule_34 : decode cX3_addRule 34 = .ok (.getfield 31, 3) := by decide +kernel
theorem dX3_addRule_37 : decode cX3_addRule 37 = .ok (.iload_n 3, 1) := by decide +kernel
theorem dX3_addRule_38 : decode cX3_addRule 38 = .ok (.iastore, 1) := by decide +kernel
theorem dX3_addRule_39 : decode cX3_addRule 39 = .ok (.aload_n 0, 1) := by decide +kernel
theorem dX3_addRule_40 : decode cX3_addRule 40 = .ok (.getfield 24, 3) := by decide +kernel
theorem dX3_addRule_43 : decode cX3_addRule 43 = .ok (.aload_n 0, 1) := by decide +kernel
theorem dX3_addRule_44 : decode cX3_addRule 44 = .ok (.getfield 31, 3) := by decide +kernel
theorem dX3_addRule_47 : decode cX3_addRule 47 = .ok (.aload_n 0, 1) := by decide +kernel
theorem dX3_addRule_48 : decode cX3_addRule 48 = .ok (.getfield 27, 3) := by decide +kernel
theorem dX3_addRule_51 : decode cX3_addRule 51 = .ok (.iastore, 1) := by decide +kernel
theorem dX3_addRule_52 : decode cX3_addRule 52 = .ok (.aload_n 0, 1) := by decide +kernel
theorem dX3_addRule_53 : decode cX3_addRule 53 = .ok (.dup, 1) := by decide +kernel
theorem dX3_addRule_54 : decode cX3_addRule 54 = .ok (.getfield 31, 3) := by decide +kernel
theorem dX3_addRule_57 : decode cX3_addRule 57 = .ok (.iconst 1, 1) := by decide +kernel
theorem dX3_addRule_58 : decode cX3_addRule 58 = .ok (.iadd, 1) := by decide +kernel
theorem dX3_addRule_59 : decode cX3_addRule 59 = .ok (.putfield 31, 3) := by decide +kernel
theorem dX3_addRule_62 : decode cX3_addRule 62 = .ok (.return_, 1) := by decide +kernel
theorem dX3_put_0 : decode cX3_put 0 = .ok (.aload_n 0, 1) := by decide +kernel
theorem dX3_put_1 : decode cX3_put 1 = .ok (.getfield 27, 3) := by decide +kernel
theorem dX3_put_4 : decode cX3_put 4 = .ok (.sipush 240, 3) := by decide +kernel
theorem dX3_put_7 : decode cX3_put 7 = .ok (.if_icmp .ge 28, 3) := by decide +kernel
theorem dX3_put_10 : decode cX3_put 10 = .ok (.aload_n 0, 1) := by decide +kernel
theorem dX3_put_11 : decode cX3_put 11 = .ok (.getfield 9, 3) := by decide +kernel
theorem dX3_put_14 : decode cX3_put 14 = .ok (.aload_n 0, 1) := by decide +kernel
theorem dX3_put_15 : decode cX3_put 15 = .ok (.getfield 27, 3) := by decide +kernel
theorem dX3_put_18 : decode cX3_put 18 = .ok (.iload_n 2, 1) := by decide +kernel
theorem dX3_put_19 : decode cX3_put 19 = .ok (.bipush 16, 2) := by decide +kernel
theorem dX3_put_21 : decode cX3_put 21 = .ok (.imul, 1) := by decide +kernel
theorem dX3_put_22 : decode cX3_put 22 = .ok (.iload_n 1, 1) := by decide +kernel
theorem dX3_put_23 : decode cX3_put 23 = .ok (.iadd, 1) := by decide +kernel
theorem dX3_put_24 : decode cX3_put 24 = .ok (.iastore, 1) := by decide +kernel
theorem dX3_put_25 : decode cX3_put 25 = .ok (.aload_n 0, 1) := by decide +kernel
theorem dX3_put_26 : decode cX3_put 26 = .ok (.dup, 1) := by decide +kernel
theorem dX3_put_27 : decode cX3_put 27 = .ok (.getfield 27, 3) := by decide +kernel
theorem dX3_put_30 : decode cX3_put 30 = .ok (.iconst 1, 1) := by decide +kernel
theorem dX3_put_31 : decode cX3_put 31 = .ok (.iadd, 1) := by decide +kernel
theorem dX3_put_32 : decode cX3_put 32 = .ok (.putfield 27, 3) := by decide +kernel
theorem dX3_put_35 : decode cX3_put 35 = .ok (.return_, 1) := by decide +kernel
theorem dX3_aim_0 : decode cX3_aim 0 = .ok (.iload_n 1, 1) := by decide +kernel
theorem dX3_aim_1 : decode cX3_aim 1 = .ok (.ifCond .lt 33, 3) := by decide +kernel
theorem dX3_aim_4 : decode cX3_aim 4 = .ok (.iload_n 1, 1) := by decide +kernel
theorem dX3_aim_5 : decode cX3_aim 5 = .ok (.sipush 240, 3) := by decide +kernel
theorem dX3_aim_8 : decode cX3_aim 8 = .ok (.if_icmp .ge 26, 3) := by decide +kernel
theorem dX3_aim_11 : decode cX3_aim 11 = .ok (.aload_n 0, 1) := by decide +kernel
theorem dX3_aim_12 : decode cX3_aim 12 = .ok (.getfield 9, 3) := by decide +kernel
theorem dX3_aim_15 : decode cX3_aim 15 = .ok (.iload_n 1, 1) := by decide +kernel
theorem dX3_aim_16 : decode cX3_aim 16 = .ok (.aload_n 0, 1) := by decide +kernel
theorem dX3_aim_17 : decode cX3_aim 17 = .ok (.getfield 27, 3) := by decide +kernel
theorem dX3_aim_20 : decode cX3_aim 20 = .ok (.bipush 16, 2) := by decide +kernel
theorem dX3_aim_22 : decode cX3_aim 22 = .ok (.imul, 1) := by decide +kernel
theorem dX3_aim_23 : decode cX3_aim 23 = .ok (.aload_n 0, 1) := by decide +kernel
theorem dX3_aim_24 : decode cX3_aim 24 = .ok (.getfield 9, 3) := by decide +kernel
theorem dX3_aim_27 : decode cX3_aim 27 = .ok (.iload_n 1, 1) := by decide +kernel
theorem dX3_aim_28 : decode cX3_aim 28 = .ok (.iaload, 1) := by decide +kernel
theorem dX3_aim_29 : decode cX3_aim 29 = .ok (.bipush 15, 2) := by decide +kernel
theorem dX3_aim_31 : decode cX3_aim 31 = .ok (.iand, 1) := by decide +kernel
theorem dX3_aim_32 : decode cX3_aim 32 = .ok (.iadd, 1) := by decide +kernel
theorem dX3_aim_33 : decode cX3_aim 33 = .ok (.iastore, 1) := by decide +kernel
theorem dX3_aim_34 : decode cX3_aim 34 = .ok (.return_, 1) := by decide +kernel
theorem dX3_putJump_0 : decode cX3_putJump 0 = .ok (.aload_n 0, 1) := by decide +kernel
theorem dX3_putJump_1 : decode cX3_putJump 1 = .ok (.iload_n 2, 1) := by decide +kernel
theorem dX3_putJump_2 : decode cX3_putJump 2 = .ok (.invokevirtual 34, 3) := by decide +kernel
theorem dX3_putJump_5 : decode cX3_putJump 5 = .ok (.aload_n 0, 1) := by decide +kernel
theorem dX3_putJump_6 : decode cX3_putJump 6 = .ok (.iload_n 1, 1) := by decide +kernel
theorem dX3_putJump_7 : decode cX3_putJump 7 = .ok (.aload_n 0, 1) := by decide +kernel
theorem dX3_putJump_8 : decode cX3_putJump 8 = .ok (.getfield 27, 3) := by decide +kernel
theorem dX3_putJump_11 : decode cX3_putJump 11 = .ok (.iconst 1, 1) := by decide +kernel
theorem dX3_putJump_12 : decode cX3_putJump 12 = .ok (.iadd, 1) := by decide +kernel
theorem dX3_putJump_13 : decode cX3_putJump 13 = .ok (.invokevirtual 38, 3) := by decide +kernel
theorem dX3_putJump_16 : decode cX3_putJump 16 = .ok (.aload_n 0, 1) := by decide +kernel
theorem dX3_putJump_17 : decode cX3_putJump 17 = .ok (.getfield 27, 3) := by decide +kernel
theorem dX3_putJump_20 : decode cX3_putJump 20 = .ok (.iconst 1, 1) := by decide +kernel
theorem dX3_putJump_21 : decode cX3_putJump 21 = .ok (.isub, 1) := by decide +kernel
theorem dX3_putJump_22 : decode cX3_putJump 22 = .ok (.ireturn, 1) := by decide +kernel
def mX3_clear (F : Nat) (c : Nat) (σ : jS) : Option jS := (lt (js σ c 5 (0 : Int32)) fun σ1 => (lt (js σ1 c 6 (0 : Int32)) fun σ2 => some σ2))
set_option maxHeartbeats 4000000 in
set_option maxRecDepth 100000 in
theorem kX3_clear {V : jV} {F : Nat} {c : Nat} (hc : kX c = 3) {σ : jS} {v : jS} (hm : mX3_clear F c σ = some v) : Ct cfX 70 V yX3_clear cX3_clear 1 none 0 [.ref (vad V c)] σ (0, v) := by
  refine j_start (own := RX3) (by decide) rfl (Nat.le_of_ble_eq_true rfl) ?_
  intro G hV C
  subst hV
  unfold mX3_clear at hm
  show JX G 0 [(0, .ref (vad (gV G) c))] [] σ (0, v)
  refine j_aloadn (pc := 0) C 0 dX3_clear_0 rfl rfl ?_
  refine j_iconst (v := 0) (pc := 1) C dX3_clear_1 (by decide) ?_
  refine pf_X3_27 (c := c) (pc := 2) C hc dX3_clear_2 hm (fun σ1 hm => ?_)
  refine j_aloadn (pc := 5) C 0 dX3_clear_5 rfl rfl ?_
  refine j_iconst (v := 0) (pc := 6) C dX3_clear_6 (by decide) ?_
  refine pf_X3_31 (c := c) (pc := 7) C hc dX3_clear_7 hm (fun σ2 hm => ?_)
  exact j_vret (pc := 10) C rfl dX3_clear_10 hm

def mX3_addRule (F : Nat) (c : Nat) (x1 : Int32) (x2 : Int32) (x3 : Int32) (σ : jS) : Option jS := (if (σ c 6) < (16 : Int32) then (if jin (σ c 6) 16 = true then (lt (js σ (c + 2) (σ c 6).toNatClampNeg x1) fun σ1 => (if jin (σ1 c 6) 16 = true then (lt (js σ1 (c + 3) (σ1 c 6).toNatClampNeg x2) fun σ3 => (if jin (σ3 c 6) 16 = true then (lt (js σ3 (c + 4) (σ3 c 6).toNatClampNeg x3) fun σ5 => (if jin (σ5 c 6) 16 = true then (lt (js σ5 (c + 5) (σ5 c 6).toNatClampNeg (σ5 c 5)) fun σ7 => (lt (js σ7 c 6 ((σ7 c 6) + (1 : Int32))) fun σ9 => some σ9)) else none)) else none)) else none)) else none) else some σ)
set_option maxHeartbeats 4000000 in
set_option maxRecDepth 100000 in
theorem kX3_addRule {V : jV} {F : Nat} {c : Nat} (hc : kX c = 3) {x1 : Int32} {x2 : Int32} {x3 : Int32} {σ : jS} {v : jS} (hm : mX3_addRule F c x1 x2 x3 σ = some v) : Ct cfX 70 V yX3_addRule cX3_addRule 4 none 0 [.ref (vad V c), .int x1, .int x2, .int x3] σ (0, v) := by
  refine j_start (own := RX3) (by decide) rfl (Nat.le_of_ble_eq_true rfl) ?_
  intro G hV C
  subst hV
  unfold mX3_addRule at hm
  show JX G 0 [(0, .ref (vad (gV G) c)), (1, .int x1), (2, .int x2), (3, .int x3)] [] σ (0, v)
  refine j_aloadn (pc := 0) C 0 dX3_addRule_0 rfl rfl ?_
  refine gf_X3_31 (c := c) (pc := 1) C hc dX3_addRule_1 ?_
  refine j_bipush (v := 16) (pc := 4) C dX3_addRule_4 (by decide) ?_
  refine j_icmp_ge (tgt := 62) (pc := 6) C dX3_addRule_6 (by decide) hm (fun _ hm => ?_) (fun _ hm => ?_)
  · refine j_aloadn (pc := 9) C 0 dX3_addRule_9 rfl rfl ?_
    refine gf_X3_15 (c := c) (pc := 10) C hc dX3_addRule_10 ?_
    refine j_aloadn (pc := 13) C 0 dX3_addRule_13 rfl rfl ?_
    refine gf_X3_31 (c := c) (pc := 14) C hc dX3_addRule_14 ?_
    refine j_iloadn (pc := 17) C 1 dX3_addRule_17 rfl rfl ?_
    refine j_guard hm (fun hg2 hm => ?_)
    refine j_iastL (c := (c + 2)) (n := 16) (pc := 18) C (kX_lt (of_3_2 hc) (by decide)) (cx_a (of_3_2 hc) (ol_3_2 hc)) hg2 dX3_addRule_18 hm (fun σ1 hm => ?_)
    refine j_aloadn (pc := 19) C 0 dX3_addRule_19 rfl rfl ?_
    refine gf_X3_18 (c := c) (pc := 20) C hc dX3_addRule_20 ?_
    refine j_aloadn (pc := 23) C 0 dX3_addRule_23 rfl rfl ?_
    refine gf_X3_31 (c := c) (pc := 24) C hc dX3_addRule_24 ?_
    refine j_iloadn (pc := 27) C 2 dX3_addRule_27 rfl rfl ?_
    refine j_guard hm (fun hg4 hm => ?_)
    refine j_iastL (c := (c + 3)) (n := 16) (pc := 28) C (kX_lt (of_3_3 hc) (by decide)) (cx_a (of_3_3 hc) (ol_3_3 hc)) hg4 dX3_addRule_28 hm (fun σ3 hm => ?_)
    refine j_aloadn (pc := 29) C 0 dX3_addRule_29 rfl rfl ?_
    refine gf_X3_21 (c := c) (pc := 30) C hc dX3_addRule_30 ?_
    refine j_aloadn (pc := 33) C 0 dX3_addRule_33 rfl rfl ?_
    refine gf_X3_31 (c := c) (pc := 34) C hc dX3_addRule_34 ?_
    refine j_iloadn (pc := 37) C 3 dX3_addRule_37 rfl rfl ?_
    refine j_guard hm (fun hg6 hm => ?_)
    refine j_iastL (c := (c + 4)) (n := 16) (pc := 38) C (kX_lt (of_3_4 hc) (by decide)) (cx_a (of_3_4 hc) (ol_3_4 hc)) hg6 dX3_addRule_38 hm (fun σ5 hm => ?_)
    refine j_aloadn (pc := 39) C 0 dX3_addRule_39 rfl rfl ?_
    refine gf_X3_24 (c := c) (pc := 40) C hc dX3_addRule_40 ?_
    refine j_aloadn (pc := 43) C 0 dX3_addRule_43 rfl rfl ?_
    refine gf_X3_31 (c := c) (pc := 44) C hc dX3_addRule_44 ?_
    refine j_aloadn (pc := 47) C 0 dX3_addRule_47 rfl rfl ?_
    refine gf_X3_27 (c := c) (pc := 48) C hc dX3_addRule_48 ?_
    refine j_guard hm (fun hg8 hm => ?_)
    refine j_iastL (c := (c + 5)) (n := 16) (pc := 51) C (kX_lt (of_3_5 hc) (by decide)) (cx_a (of_3_5 hc) (ol_3_5 hc)) hg8 dX3_addRule_51 hm (fun σ7 hm => ?_)
    refine j_aloadn (pc := 52) C 0 dX3_addRule_52 rfl rfl ?_
    refine j_dup (pc := 53) C dX3_addRule_53 rfl ?_
    refine gf_X3_31 (c := c) (pc := 54) C hc dX3_addRule_54 ?_
    refine j_iconst (v := 1) (pc := 57) C dX3_addRule_57 (by decide) ?_
    refine j_iadd (pc := 58) C dX3_addRule_58 ?_
    refine pf_X3_31 (c := c) (pc := 59) C hc dX3_addRule_59 hm (fun σ9 hm => ?_)
    exact j_vret (pc := 62) C rfl dX3_addRule_62 hm
  · exact j_vret (pc := 62) C rfl dX3_addRule_62 hm

def mX3_put (F : Nat) (c : Nat) (x1 : Int32) (x2 : Int32) (σ : jS) : Option jS := (if (σ c 5) < (240 : Int32) then (if jin (σ c 5) 240 = true then (lt (js σ (c + 1) (σ c 5).toNatClampNeg ((x2 * (16 : Int32)) + x1)) fun σ1 => (lt (js σ1 c 5 ((σ1 c 5) + (1 : Int32))) fun σ3 => some σ3)) else none) else some σ)
set_option maxHeartbeats 4000000 in
set_option maxRecDepth 100000 in
theorem kX3_put {V : jV} {F : Nat} {c : Nat} (hc : kX c = 3) {x1 : Int32} {x2 : Int32} {σ : jS} {v : jS} (hm : mX3_put F c x1 x2 σ = some v) : Ct cfX 70 V yX3_put cX3_put 3 none 0 [.ref (vad V c), .int x1, .int x2] σ (0, v) := by
  refine j_start (own := RX3) (by decide) rfl (Nat.le_of_ble_eq_true rfl) ?_
  intro G hV C
  subst hV
  unfold mX3_put at hm
  show JX G 0 [(0, .ref (vad (gV G) c)), (1, .int x1), (2, .int x2)] [] σ (0, v)
  refine j_aloadn (pc := 0) C 0 dX3_put_0 rfl rfl ?_
  refine gf_X3_27 (c := c) (pc := 1) C hc dX3_put_1 ?_
  refine j_sipush (v := 240) (pc := 4) C dX3_put_4 (by decide) ?_
  refine j_icmp_ge (tgt := 35) (pc := 7) C dX3_put_7 (by decide) hm (fun _ hm => ?_) (fun _ hm => ?_)
  · refine j_aloadn (pc := 10) C 0 dX3_put_10 rfl rfl ?_
    refine gf_X3_9 (c := c) (pc := 11) C hc dX3_put_11 ?_
    refine j_aloadn (pc := 14) C 0 dX3_put_14 rfl rfl ?_
    refine gf_X3_27 (c := c) (pc := 15) C hc dX3_put_15 ?_
    refine j_iloadn (pc := 18) C 2 dX3_put_18 rfl rfl ?_
    refine j_bipush (v := 16) (pc := 19) C dX3_put_19 (by decide) ?_
    refine j_imul (pc := 21) C dX3_put_21 ?_
    refine j_iloadn (pc := 22) C 1 dX3_put_22 rfl rfl ?_
    refine j_iadd (pc := 23) C dX3_put_23 ?_
    refine j_guard hm (fun hg2 hm => ?_)
    refine j_iastL (c := (c + 1)) (n := 240) (pc := 24) C (kX_lt (of_3_1 hc) (by decide)) (cx_a (of_3_1 hc) (ol_3_1 hc)) hg2 dX3_put_24 hm (fun σ1 hm => ?_)
    refine j_aloadn (pc := 25) C 0 dX3_put_25 rfl rfl ?_
    refine j_dup (pc := 26) C dX3_put_26 rfl ?_
    refine gf_X3_27 (c := c) (pc := 27) C hc dX3_put_27 ?_
    refine j_iconst (v := 1) (pc := 30) C dX3_put_30 (by decide) ?_
    refine j_iadd (pc := 31) C dX3_put_31 ?_
    refine pf_X3_27 (c := c) (pc := 32) C hc dX3_put_32 hm (fun σ3 hm => ?_)
    exact j_vret (pc := 35) C rfl dX3_put_35 hm
  · exact j_vret (pc := 35) C rfl dX3_put_35 hm

def mX3_aim (F : Nat) (c : Nat) (x1 : Int32) (σ : jS) : Option jS := (if x1 < 0 then some σ else (if x1 < (240 : Int32) then (if jin x1 240 = true then (if jin x1 240 = true then (lt (js σ (c + 1) x1.toNatClampNeg (((σ c 5) * (16 : Int32)) + ((σ (c + 1) x1.toNatClampNeg) &&& (15 : Int32)))) fun σ2 => some σ2) else none) else none) else some σ))
set_option maxHeartbeats 4000000 in
set_option maxRecDepth 100000 in
theorem kX3_aim {V : jV} {F : Nat} {c : Nat} (hc : kX c = 3) {x1 : Int32} {σ : jS} {v : jS} (hm : mX3_aim F c x1 σ = some v) : Ct cfX 70 V yX3_aim cX3_aim 2 none 0 [.ref (vad V c), .int x1] σ (0, v) := by
  refine j_start (own := RX3) (by decide) rfl (Nat.le_of_ble_eq_true rfl) ?_
  intro G hV C
  subst hV
  unfold mX3_aim at hm
  show JX G 0 [(0, .ref (vad (gV G) c)), (1, .int x1)] [] σ (0, v)
  refine j_iloadn (pc := 0) C 1 dX3_aim_0 rfl rfl ?_
  refine j_if_lt (tgt := 34) (pc := 1) C dX3_aim_1 (by decide) hm (fun _ hm => ?_) (fun _ hm => ?_)
  · exact j_vret (pc := 34) C rfl dX3_aim_34 hm
  · refine j_iloadn (pc := 4) C 1 dX3_aim_4 rfl rfl ?_
    refine j_sipush (v := 240) (pc := 5) C dX3_aim_5 (by decide) ?_
    refine j_icmp_ge (tgt := 34) (pc := 8) C dX3_aim_8 (by decide) hm (fun _ hm => ?_) (fun _ hm => ?_)
    · refine j_aloadn (pc := 11) C 0 dX3_aim_11 rfl rfl ?_
      refine gf_X3_9 (c := c) (pc := 12) C hc dX3_aim_12 ?_
      refine j_iloadn (pc := 15) C 1 dX3_aim_15 rfl rfl ?_
      refine j_aloadn (pc := 16) C 0 dX3_aim_16 rfl rfl ?_
      refine gf_X3_27 (c := c) (pc := 17) C hc dX3_aim_17 ?_
      refine j_bipush (v := 16) (pc := 20) C dX3_aim_20 (by decide) ?_
      refine j_imul (pc := 22) C dX3_aim_22 ?_
      refine j_aloadn (pc := 23) C 0 dX3_aim_23 rfl rfl ?_
      refine gf_X3_9 (c := c) (pc := 24) C hc dX3_aim_24 ?_
      refine j_iloadn (pc := 27) C 1 dX3_aim_27 rfl rfl ?_
      refine j_guard hm (fun hg1 hm => ?_)
      refine j_iald (c := (c + 1)) (n := 240) (pc := 28) C (kX_lt (of_3_1 hc) (by decide)) (cx_a (of_3_1 hc) (ol_3_1 hc) _) hg1 dX3_aim_28 ?_
      refine j_bipush (v := 15) (pc := 29) C dX3_aim_29 (by decide) ?_
      refine j_iand (pc := 31) C dX3_aim_31 ?_
      refine j_iadd (pc := 32) C dX3_aim_32 ?_
      refine j_guard hm (fun hg3 hm => ?_)
      refine j_iastL (c := (c + 1)) (n := 240) (pc := 33) C (kX_lt (of_3_1 hc) (by decide)) (cx_a (of_3_1 hc) (ol_3_1 hc)) hg3 dX3_aim_33 hm (fun σ2 hm => ?_)
      exact j_vret (pc := 34) C rfl dX3_aim_34 hm
    · exact j_vret (pc := 34) C rfl dX3_aim_34 hm

def mX3_putJump (F : Nat) (c : Nat) (x1 : Int32) (x2 : Int32) (σ : jS) : Option (Int32 × jS) := (Option.bind (mX3_aim F c x2 σ) fun q1 => (Option.bind (mX3_put F c x1 (((q1 c 5) + (1 : Int32))) q1) fun q2 => some (((q2 c 5) - (1 : Int32)), q2)))
set_option maxHeartbeats 4000000 in
set_option maxRecDepth 100000 in
theorem kX3_putJump {V : jV} {F : Nat} {c : Nat} (hc : kX c = 3) {x1 : Int32} {x2 : Int32} {σ : jS} {v : (Int32 × jS)} (hm : mX3_putJump F c x1 x2 σ = some v) : Ct cfX 70 V yX3_putJump cX3_putJump 3 (some .int) 1 [.ref (vad V c), .int x1, .int x2] σ v := by
  refine j_start (own := RX3) (by decide) rfl (Nat.le_of_ble_eq_true rfl) ?_
  intro G hV C
  subst hV
  unfold mX3_putJump at hm
  show JX G 0 [(0, .ref (vad (gV G) c)), (1, .int x1), (2, .int x2)] [] σ v
  refine j_aloadn (pc := 0) C 0 dX3_putJump_0 rfl rfl ?_
  refine j_iloadn (pc := 1) C 2 dX3_putJump_1 rfl rfl ?_
  obtain ⟨q1, hq1, hm⟩ := Option.bind_eq_some_iff.mp hm
  refine cl_X3_34 (c := c) (pc := 2) C hc (kX3_aim hc hq1) (by decide) (Nat.le_of_ble_eq_true rfl) dX3_putJump_2 ?_
  refine j_aloadn (pc := 5) C 0 dX3_putJump_5 rfl rfl ?_
  refine j_iloadn (pc := 6) C 1 dX3_putJump_6 rfl rfl ?_
  refine j_aloadn (pc := 7) C 0 dX3_putJump_7 rfl rfl ?_
  refine gf_X3_27 (c := c) (pc := 8) C hc dX3_putJump_8 ?_
  refine j_iconst (v := 1) (pc := 11) C dX3_putJump_11 (by decide) ?_
  refine j_iadd (pc := 12) C dX3_putJump_12 ?_
  obtain ⟨q2, hq2, hm⟩ := Option.bind_eq_some_iff.mp hm
  refine cl_X3_38 (c := c) (pc := 13) C hc (kX3_put hc hq2) (by decide) (Nat.le_of_ble_eq_true rfl) dX3_putJump_13 ?_
  refine j_aloadn (pc := 16) C 0 dX3_putJump_16 rfl rfl ?_
  refine gf_X3_27 (c := c) (pc := 17) C hc dX3_putJump_17 ?_
  refine j_iconst (v := 1) (pc := 20) C dX3_putJump_20 (by decide) ?_
  refine j_isub (pc := 21) C dX3_putJump_21 ?_
  exact j_iretS (pc := 22) C rfl dX3_putJump_22 hm

