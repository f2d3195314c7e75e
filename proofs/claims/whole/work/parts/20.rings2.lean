theorem dX7_follow_0 : decode cX7_follow 0 = .ok (.iload_n 2, 1) := by decide +kernel
theorem dX7_follow_1 : decode cX7_follow 1 = .ok (.ifCond .lt 25, 3) := by decide +kernel
theorem dX7_follow_4 : decode cX7_follow 4 = .ok (.iload_n 2, 1) := by decide +kernel
theorem dX7_follow_5 : decode cX7_follow 5 = .ok (.bipush 16, 2) := by decide +kernel
theorem dX7_follow_7 : decode cX7_follow 7 = .ok (.if_icmp .ge 19, 3) := by decide +kernel
theorem dX7_follow_10 : decode cX7_follow 10 = .ok (.iload 4, 2) := by decide +kernel
theorem dX7_follow_12 : decode cX7_follow 12 = .ok (.bipush 16, 2) := by decide +kernel
theorem dX7_follow_14 : decode cX7_follow 14 = .ok (.if_icmp .gt 12, 3) := by decide +kernel
theorem dX7_follow_17 : decode cX7_follow 17 = .ok (.iload 4, 2) := by decide +kernel
theorem dX7_follow_19 : decode cX7_follow 19 = .ok (.aload_n 0, 1) := by decide +kernel
theorem dX7_follow_20 : decode cX7_follow 20 = .ok (.getfield 15, 3) := by decide +kernel
theorem dX7_follow_23 : decode cX7_follow 23 = .ok (.if_icmp .le 4, 3) := by decide +kernel
theorem dX7_follow_26 : decode cX7_follow 26 = .ok (.return_, 1) := by decide +kernel
theorem dX7_follow_27 : decode cX7_follow 27 = .ok (.aload_n 0, 1) := by decide +kernel
theorem dX7_follow_28 : decode cX7_follow 28 = .ok (.getfield 9, 3) := by decide +kernel
theorem dX7_follow_31 : decode cX7_follow 31 = .ok (.iload_n 2, 1) := by decide +kernel
theorem dX7_follow_32 : decode cX7_follow 32 = .ok (.iaload, 1) := by decide +kernel
theorem dX7_follow_33 : decode cX7_follow 33 = .ok (.iload_n 1, 1) := by decide +kernel
theorem dX7_follow_34 : decode cX7_follow 34 = .ok (.ishr, 1) := by decide +kernel
theorem dX7_follow_35 : decode cX7_follow 35 = .ok (.iconst 1, 1) := by decide +kernel
theorem dX7_follow_36 : decode cX7_follow 36 = .ok (.iand, 1) := by decide +kernel
theorem dX7_follow_37 : decode cX7_follow 37 = .ok (.ifCond .eq 11, 3) := by decide +kernel
theorem dX7_follow_40 : decode cX7_follow 40 = .ok (.aload_n 0, 1) := by decide +kernel
theorem dX7_follow_41 : decode cX7_follow 41 = .ok (.iload_n 3, 1) := by decide +kernel
theorem dX7_follow_42 : decode cX7_follow 42 = .ok (.iload 4, 2) := by decide +kernel
theorem dX7_follow_44 : decode cX7_follow 44 = .ok (.invokevirtual 38, 3) := by decide +kernel
theorem dX7_follow_47 : decode cX7_follow 47 = .ok (.return_, 1) := by decide +kernel
theorem dX7_follow_48 : decode cX7_follow 48 = .ok (.iload_n 1, 1) := by decide +kernel
theorem dX7_follow_49 : decode cX7_follow 49 = .ok (.iconst 1, 1) := by decide +kernel
theorem dX7_follow_50 : decode cX7_follow 50 = .ok (.iadd, 1) := by decide +kernel
theorem dX7_follow_51 : decode cX7_follow 51 = .ok (.istore 5, 2) := by decide +kernel
theorem dX7_follow_53 : decode cX7_follow 53 = .ok (.iload 5, 2) := by decide +kernel
theorem dX7_follow_55 : decode cX7_follow 55 = .ok (.bipush 16, 2) := by decide +kernel
theorem dX7_follow_57 : decode cX7_follow 57 = .ok (.if_icmp .ge 49, 3) := by decide +kernel
theorem dX7_follow_60 : decode cX7_follow 60 = .ok (.aload_n 0, 1) := by decide +kernel
theorem dX7_follow_61 : decode cX7_follow 61 = .ok (.getfield 9, 3) := by decide +kernel
theorem dX7_follow_64 : decode cX7_follow 64 = .ok (.iload_n 2, 1) := by decide +kernel
theorem dX7_follow_65 : decode cX7_follow 65 = .ok (.iaload, 1) := by decide +kernel
theorem dX7_follow_66 : decode cX7_follow 66 = .ok (.iload 5, 2) := by decide +kernel
theorem dX7_follow_68 : decode cX7_follow 68 = .ok (.ishr, 1) := by decide +kernel
theorem dX7_follow_69 : decode cX7_follow 69 = .ok (.iconst 1, 1) := by decide +kernel
theorem dX7_follow_70 : decode cX7_follow 70 = .ok (.iand, 1) := by decide +kernel
theorem dX7_follow_71 : decode cX7_follow 71 = .ok (.ifCond .eq 29, 3) := by decide +kernel
theorem dX7_follow_74 : decode cX7_follow 74 = .ok (.iload_n 3, 1) := by decide +kernel
theorem dX7_follow_75 : decode cX7_follow 75 = .ok (.iload 5, 2) := by decide +kernel
theorem dX7_follow_77 : decode cX7_follow 77 = .ok (.ishr, 1) := by decide +kernel
theorem dX7_follow_78 : decode cX7_follow 78 = .ok (.iconst 1, 1) := by decide +kernel
theorem dX7_follow_79 : decode cX7_follow 79 = .ok (.iand, 1) := by decide +kernel
theorem dX7_follow_80 : decode cX7_follow 80 = .ok (.ifCond .ne 20, 3) := by decide +kernel
theorem dX7_follow_83 : decode cX7_follow 83 = .ok (.aload_n 0, 1) := by decide +kernel
theorem dX7_follow_84 : decode cX7_follow 84 = .ok (.iload_n 1, 1) := by decide +kernel
theorem dX7_follow_85 : decode cX7_follow 85 = .ok (.iload 5, 2) := by decide +kernel
theorem dX7_follow_87 : decode cX7_follow 87 = .ok (.iload_n 3, 1) := by decide +kernel
theorem dX7_follow_88 : decode cX7_follow 88 = .ok (.iconst 1, 1) := by decide +kernel
theorem dX7_follow_89 : decode cX7_follow 89 = .ok (.iload 5, 2) := by decide +kernel
theorem dX7_follow_91 : decode cX7_follow 91 = .ok (.ishl, 1) := by decide +kernel
theorem dX7_follow_92 : decode cX7_follow 92 = .ok (.ior, 1) := by decide +kernel
theorem dX7_follow_93 : decode cX7_follow 93 = .ok (.iload 4, 2) := by decide +kernel
theorem dX7_follow_95 : decode cX7_follow 95 = .ok (.iconst 1, 1) := by decide +kernel
theorem dX7_follow_96 : decode cX7_follow 96 = .ok (.iadd, 1) := by decide +kernel
theorem dX7_follow_97 : decode cX7_follow 97 = .ok (.invokevirtual 34, 3) := by decide +kernel
theorem dX7_follow_100 : decode cX7_follow 100 = .ok (.iinc 5 1, 3) := by decide +kernel
theorem dX7_follow_103 : decode cX7_follow 103 = .ok (.goto (-50), 3) := by decide +kernel
theorem dX7_follow_106 : decode cX7_follow 106 = .ok (.return_, 1) := by decide +kernel
def lp_X7_follow_53 (F : Nat) (f_X7_follow : Int32 → Int32 → Int32 → Int32 → jS → Option jS) : Nat → Int32 → Int32 → Int32 → Int32 → Int32 → jS → Option jS
  | 0, _, _, _, _, _, _ => none
  | n + 1, x1, x2, x3, x4, x5, σ => (if x5 < (16 : Int32) then (if jin x2 16 = true then (if (((σ 61 x2.toNatClampNeg) >>> (x5 &&& 31)) &&& (1 : Int32)) = 0 then (lp_X7_follow_53 F f_X7_follow n x1 x2 x3 x4 ((x5 + (1 : Int32))) σ) else (if ((x3 >>> (x5 &&& 31)) &&& (1 : Int32)) = 0 then (Option.bind (f_X7_follow x1 x5 ((x3 ||| ((1 : Int32) <<< (x5 &&& 31)))) ((x4 + (1 : Int32))) σ) fun q4 => (lp_X7_follow_53 F f_X7_follow n x1 x2 x3 x4 ((x5 + (1 : Int32))) q4)) else (lp_X7_follow_53 F f_X7_follow n x1 x2 x3 x4 ((x5 + (1 : Int32))) σ))) else none) else some σ)
set_option maxHeartbeats 4000000 in
set_option maxRecDepth 100000 in
theorem lp_X7_follow_53_ok {G : jG} {h2 h : Nat} (C : jc cfX 70 G cX7_follow RX7 6 none h) (F : Nat) (f_X7_follow : Int32 → Int32 → Int32 → Int32 → jS → Option jS) (hf_X7_follow : ∀ (x1 : Int32) (x2 : Int32) (x3 : Int32) (x4 : Int32) (σ : jS) (v : jS), f_X7_follow x1 x2 x3 x4 σ = some v → Ct cfX 70 (gV G) yX7_follow cX7_follow 6 none h2 [.ref (vad (gV G) 60), .int x1, .int x2, .int x3, .int x4] σ (0, v)) (hh2 : h2 + 1 ≤ h) (hb : 1 ≤ h) {v : jS} : ∀ (n : Nat) (x1 : Int32) (x2 : Int32) (x3 : Int32) (x4 : Int32) (x5 : Int32) (σ : jS), lp_X7_follow_53 F f_X7_follow n x1 x2 x3 x4 x5 σ = some v → JX G 53 [(0, .ref (vad (gV G) 60)), (1, .int x1), (2, .int x2), (3, .int x3), (4, .int x4), (5, .int x5)] [] σ (0, v) := by
  intro n
  induction n with
  | zero =>
    intro x1 x2 x3 x4 x5 σ hm
    rw [lp_X7_follow_53] at hm
    cases hm
  | succ n ih =>
    intro x1 x2 x3 x4 x5 σ hm
    rw [lp_X7_follow_53] at hm
    refine j_iload (pc := 53) C 5 dX7_follow_53 rfl ?_
    refine j_bipush (v := 16) (pc := 55) C dX7_follow_55 (by decide) ?_
    refine j_icmp_ge (tgt := 106) (pc := 57) C dX7_follow_57 (by decide) hm (fun _ hm => ?_) (fun _ hm => ?_)
    · refine j_aloadn (pc := 60) C 0 dX7_follow_60 rfl rfl ?_
      refine gf_X7_9 (c := 60) (pc := 61) C kx_60 dX7_follow_61 ?_
      refine j_iloadn (pc := 64) C 2 dX7_follow_64 rfl rfl ?_
      refine j_guard hm (fun hg3 hm => ?_)
      refine j_iald (c := 61) (n := 16) (pc := 65) C (kX_lt kx_61 (by decide)) (cx_a kx_61 lx_61 _) hg3 dX7_follow_65 ?_
      refine j_iload (pc := 66) C 5 dX7_follow_66 rfl ?_
      refine j_ishr (pc := 68) C dX7_follow_68 ?_
      refine j_iconst (v := 1) (pc := 69) C dX7_follow_69 (by decide) ?_
      refine j_iand (pc := 70) C dX7_follow_70 ?_
      refine j_if_eq (tgt := 100) (pc := 71) C dX7_follow_71 (by decide) hm (fun _ hm => ?_) (fun _ hm => ?_)
      · refine j_iinc (v := (x5 + (1 : Int32))) (ls' := [(5, .int (x5 + (1 : Int32))), (0, .ref (vad (gV G) 60)), (1, .int x1), (2, .int x2), (3, .int x3), (4, .int x4)]) (pc := 100) C 5 dX7_follow_100 rfl rfl (by decide) rfl ?_
        refine j_goto (tgt := 53) (pc := 103) C dX7_follow_103 (by decide) ?_
        refine j_ls [1, 2, 3, 4, 5, 0] rfl ?_
        exact ih _ _ _ _ _ _ hm
      · refine j_iloadn (pc := 74) C 3 dX7_follow_74 rfl rfl ?_
        refine j_iload (pc := 75) C 5 dX7_follow_75 rfl ?_
        refine j_ishr (pc := 77) C dX7_follow_77 ?_
        refine j_iconst (v := 1) (pc := 78) C dX7_follow_78 (by decide) ?_
        refine j_iand (pc := 79) C dX7_follow_79 ?_
        refine j_if_ne (tgt := 100) (pc := 80) C dX7_follow_80 (by decide) hm (fun _ hm => ?_) (fun _ hm => ?_)
        · refine j_aloadn (pc := 83) C 0 dX7_follow_83 rfl rfl ?_
          refine j_iloadn (pc := 84) C 1 dX7_follow_84 rfl rfl ?_
          refine j_iload (pc := 85) C 5 dX7_follow_85 rfl ?_
          refine j_iloadn (pc := 87) C 3 dX7_follow_87 rfl rfl ?_
          refine j_iconst (v := 1) (pc := 88) C dX7_follow_88 (by decide) ?_
          refine j_iload (pc := 89) C 5 dX7_follow_89 rfl ?_
          refine j_ishl (pc := 91) C dX7_follow_91 ?_
          refine j_ior (pc := 92) C dX7_follow_92 ?_
          refine j_iload (pc := 93) C 4 dX7_follow_93 rfl ?_
          refine j_iconst (v := 1) (pc := 95) C dX7_follow_95 (by decide) ?_
          refine j_iadd (pc := 96) C dX7_follow_96 ?_
          obtain ⟨q4, hq4, hm⟩ := Option.bind_eq_some_iff.mp hm
          refine cl_X7_34 (c := 60) (pc := 97) C kx_60 (hf_X7_follow _ _ _ _ _ _ hq4) hh2 (Nat.le_of_ble_eq_true rfl) dX7_follow_97 ?_
          refine j_iinc (v := (x5 + (1 : Int32))) (ls' := [(5, .int (x5 + (1 : Int32))), (0, .ref (vad (gV G) 60)), (1, .int x1), (2, .int x2), (3, .int x3), (4, .int x4)]) (pc := 100) C 5 dX7_follow_100 rfl rfl (by decide) rfl ?_
          refine j_goto (tgt := 53) (pc := 103) C dX7_follow_103 (by decide) ?_
          refine j_ls [1, 2, 3, 4, 5, 0] rfl ?_
          exact ih _ _ _ _ _ _ hm
        · refine j_iinc (v := (x5 + (1 : Int32))) (ls' := [(5, .int (x5 + (1 : Int32))), (0, .ref (vad (gV G) 60)), (1, .int x1), (2, .int x2), (3, .int x3), (4, .int x4)]) (pc := 100) C 5 dX7_follow_100 rfl rfl (by decide) rfl ?_
          refine j_goto (tgt := 53) (pc := 103) C dX7_follow_103 (by decide) ?_
          refine j_ls [1, 2, 3, 4, 5, 0] rfl ?_
          exact ih _ _ _ _ _ _ hm
    · exact j_vret (pc := 106) C rfl dX7_follow_106 hm

def bX7_follow (F : Nat) (f_X7_follow : Int32 → Int32 → Int32 → Int32 → jS → Option jS) (x1 : Int32) (x2 : Int32) (x3 : Int32) (x4 : Int32) (σ : jS) : Option jS := (if x2 < 0 then some σ else (if x2 < (16 : Int32) then (if (16 : Int32) < x4 then some σ else (if (σ 60 1) < x4 then some σ else (if jin x2 16 = true then (if (((σ 61 x2.toNatClampNeg) >>> (x1 &&& 31)) &&& (1 : Int32)) = 0 then (lt (x1 + (1 : Int32)) fun y2 => (lp_X7_follow_53 F f_X7_follow F x1 x2 x3 x4 y2 σ)) else (Option.bind (mX7_note F x3 x4 σ) fun q5 => some q5)) else none))) else some σ))
set_option maxHeartbeats 4000000 in
set_option maxRecDepth 100000 in
theorem kbX7_follow {V : jV} {F : Nat} {h2 h : Nat} {f_X7_follow : Int32 → Int32 → Int32 → Int32 → jS → Option jS} (hf_X7_follow : ∀ (x1 : Int32) (x2 : Int32) (x3 : Int32) (x4 : Int32) (σ : jS) (v : jS), f_X7_follow x1 x2 x3 x4 σ = some v → Ct cfX 70 V yX7_follow cX7_follow 6 none h2 [.ref (vad V 60), .int x1, .int x2, .int x3, .int x4] σ (0, v)) (hh2 : h2 + 1 ≤ h) (hb : 1 ≤ h) {x1 : Int32} {x2 : Int32} {x3 : Int32} {x4 : Int32} {σ : jS} {v : jS} (hm : bX7_follow F f_X7_follow x1 x2 x3 x4 σ = some v) : Ct cfX 70 V yX7_follow cX7_follow 6 none h [.ref (vad V 60), .int x1, .int x2, .int x3, .int x4] σ (0, v) := by
  refine j_start (own := RX7) (by decide) rfl (Nat.le_of_ble_eq_true rfl) ?_
  intro G hV C
  subst hV
  unfold bX7_follow at hm
  show JX G 0 [(0, .ref (vad (gV G) 60)), (1, .int x1), (2, .int x2), (3, .int x3), (4, .int x4)] [] σ (0, v)
  refine j_iloadn (pc := 0) C 2 dX7_follow_0 rfl rfl ?_
  refine j_if_lt (tgt := 26) (pc := 1) C dX7_follow_1 (by decide) hm (fun _ hm => ?_) (fun _ hm => ?_)
  · exact j_vret (pc := 26) C rfl dX7_follow_26 hm
  · refine j_iloadn (pc := 4) C 2 dX7_follow_4 rfl rfl ?_
    refine j_bipush (v := 16) (pc := 5) C dX7_follow_5 (by decide) ?_
    refine j_icmp_ge (tgt := 26) (pc := 7) C dX7_follow_7 (by decide) hm (fun _ hm => ?_) (fun _ hm => ?_)
    · refine j_iload (pc := 10) C 4 dX7_follow_10 rfl ?_
      refine j_bipush (v := 16) (pc := 12) C dX7_follow_12 (by decide) ?_
      refine j_icmp_gt (tgt := 26) (pc := 14) C dX7_follow_14 (by decide) hm (fun _ hm => ?_) (fun _ hm => ?_)
      · exact j_vret (pc := 26) C rfl dX7_follow_26 hm
      · refine j_iload (pc := 17) C 4 dX7_follow_17 rfl ?_
        refine j_aloadn (pc := 19) C 0 dX7_follow_19 rfl rfl ?_
        refine gf_X7_15 (c := 60) (pc := 20) C kx_60 dX7_follow_20 ?_
        refine j_icmp_le (tgt := 27) (pc := 23) C dX7_follow_23 (by decide) hm (fun _ hm => ?_) (fun _ hm => ?_)
        · exact j_vret (pc := 26) C rfl dX7_follow_26 hm
        · refine j_aloadn (pc := 27) C 0 dX7_follow_27 rfl rfl ?_
          refine gf_X7_9 (c := 60) (pc := 28) C kx_60 dX7_follow_28 ?_
          refine j_iloadn (pc := 31) C 2 dX7_follow_31 rfl rfl ?_
          refine j_guard hm (fun hg1 hm => ?_)
          refine j_iald (c := 61) (n := 16) (pc := 32) C (kX_lt kx_61 (by decide)) (cx_a kx_61 lx_61 _) hg1 dX7_follow_32 ?_
          refine j_iloadn (pc := 33) C 1 dX7_follow_33 rfl rfl ?_
          refine j_ishr (pc := 34) C dX7_follow_34 ?_
          refine j_iconst (v := 1) (pc := 35) C dX7_follow_35 (by decide) ?_
          refine j_iand (pc := 36) C dX7_follow_36 ?_
          refine j_if_eq (tgt := 48) (pc := 37) C dX7_follow_37 (by decide) hm (fun _ hm => ?_) (fun _ hm => ?_)
          · refine j_iloadn (pc := 48) C 1 dX7_follow_48 rfl rfl ?_
            refine j_iconst (v := 1) (pc := 49) C dX7_follow_49 (by decide) ?_
            refine j_iadd (pc := 50) C dX7_follow_50 ?_
            refine j_lti hm (fun y2 hm => ?_)
            refine j_istore (ls' := [(5, .int y2), (0, .ref (vad (gV G) 60)), (1, .int x1), (2, .int x2), (3, .int x3), (4, .int x4)]) (pc := 51) C dX7_follow_51 (by decide) rfl ?_
            refine j_ls [1, 2, 3, 4, 5, 0] rfl ?_
            exact lp_X7_follow_53_ok C F f_X7_follow hf_X7_follow hh2 hb  F _ _ _ _ _ _ hm
          · refine j_aloadn (pc := 40) C 0 dX7_follow_40 rfl rfl ?_
            refine j_iloadn (pc := 41) C 3 dX7_follow_41 rfl rfl ?_
            refine j_iload (pc := 42) C 4 dX7_follow_42 rfl ?_
            obtain ⟨q5, hq5, hm⟩ := Option.bind_eq_some_iff.mp hm
            refine cl_X7_38 (c := 60) (pc := 44) C kx_60 (kX7_note hq5) (by omega) (Nat.le_of_ble_eq_true rfl) dX7_follow_44 ?_
            exact j_vret (pc := 47) C rfl dX7_follow_47 hm
    · exact j_vret (pc := 26) C rfl dX7_follow_26 hm

def rX7_follow (F : Nat) : Nat → Int32 → Int32 → Int32 → Int32 → jS → Option jS
  | 0, _, _, _, _, _ => none
  | d + 1, x1, x2, x3, x4, σ => bX7_follow F (rX7_follow F d) x1 x2 x3 x4 σ
theorem krX7_follow {V : jV} {F : Nat} : ∀ (d : Nat) (x1 x2 x3 x4 : Int32) (σ v : jS), rX7_follow F d x1 x2 x3 x4 σ = some v → Ct cfX 70 V yX7_follow cX7_follow 6 none (1 + d) [.ref (vad V 60), .int x1, .int x2, .int x3, .int x4] σ (0, v) := by
  intro d
  induction d with
  | zero =>
    intro x1 x2 x3 x4 σ v hm
    rw [rX7_follow] at hm
    cases hm
  | succ d ih =>
    intro x1 x2 x3 x4 σ v hm
    rw [rX7_follow] at hm
    exact kbX7_follow (h2 := 1 + d) ih (by omega) (by omega) hm
def mX7_follow (F : Nat) (x1 x2 x3 x4 : Int32) (σ : jS) : Option jS := rX7_follow F 20 x1 x2 x3 x4 σ
theorem kX7_follow {V : jV} {F : Nat} {x1 x2 x3 x4 : Int32} {σ v : jS} (hm : mX7_follow F x1 x2 x3 x4 σ = some v) : Ct cfX 70 V yX7_follow cX7_follow 6 none 21 [.ref (vad V 60), .int x1, .int x2, .int x3, .int x4] σ (0, v) := krX7_follow 20 x1 x2 x3 x4 σ v hm
theorem dX7_search_0 : decode cX7_search 0 = .ok (.aload_n 0, 1) := by decide +kernel
theorem dX7_search_1 : decode cX7_search 1 = .ok (.bipush 17, 2) := by decide +kernel
theorem dX7_search_3 : decode cX7_search 3 = .ok (.putfield 15, 3) := by decide +kernel
theorem dX7_search_6 : decode cX7_search 6 = .ok (.aload_n 0, 1) := by decide +kernel
theorem dX7_search_7 : decode cX7_search 7 = .ok (.iconst 0, 1) := by decide +kernel
theorem dX7_search_8 : decode cX7_search 8 = .ok (.putfield 19, 3) := by decide +kernel
theorem dX7_search_11 : decode cX7_search 11 = .ok (.iconst 0, 1) := by decide +kernel
theorem dX7_search_12 : decode cX7_search 12 = .ok (.istore_n 2, 1) := by decide +kernel
theorem dX7_search_13 : decode cX7_search 13 = .ok (.iload_n 2, 1) := by decide +kernel
theorem dX7_search_14 : decode cX7_search 14 = .ok (.bipush 16, 2) := by decide +kernel
theorem dX7_search_16 : decode cX7_search 16 = .ok (.if_icmp .ge 16, 3) := by decide +kernel
theorem dX7_search_19 : decode cX7_search 19 = .ok (.aload_n 0, 1) := by decide +kernel
theorem dX7_search_20 : decode cX7_search 20 = .ok (.getfield 9, 3) := by decide +kernel
theorem dX7_search_23 : decode cX7_search 23 = .ok (.iload_n 2, 1) := by decide +kernel
theorem dX7_search_24 : decode cX7_search 24 = .ok (.iconst 0, 1) := by decide +kernel
theorem dX7_search_25 : decode cX7_search 25 = .ok (.iastore, 1) := by decide +kernel
theorem dX7_search_26 : decode cX7_search 26 = .ok (.iinc 2 1, 3) := by decide +kernel
theorem dX7_search_29 : decode cX7_search 29 = .ok (.goto (-16), 3) := by decide +kernel
theorem dX7_search_32 : decode cX7_search 32 = .ok (.iconst 0, 1) := by decide +kernel
theorem dX7_search_33 : decode cX7_search 33 = .ok (.istore_n 2, 1) := by decide +kernel
theorem dX7_search_34 : decode cX7_search 34 = .ok (.iload_n 2, 1) := by decide +kernel
theorem dX7_search_35 : decode cX7_search 35 = .ok (.aload_n 1, 1) := by decide +kernel
theorem dX7_search_36 : decode cX7_search 36 = .ok (.getfield 22, 3) := by decide +kernel
theorem dX7_search_39 : decode cX7_search 39 = .ok (.if_icmp .ge 58, 3) := by decide +kernel
theorem dX7_search_42 : decode cX7_search 42 = .ok (.iload_n 2, 1) := by decide +kernel
theorem dX7_search_43 : decode cX7_search 43 = .ok (.bipush 24, 2) := by decide +kernel
theorem dX7_search_45 : decode cX7_search 45 = .ok (.if_icmp .ge 52, 3) := by decide +kernel
theorem dX7_search_48 : decode cX7_search 48 = .ok (.aload_n 1, 1) := by decide +kernel
theorem dX7_search_49 : decode cX7_search 49 = .ok (.getfield 27, 3) := by decide +kernel
theorem dX7_search_52 : decode cX7_search 52 = .ok (.iload_n 2, 1) := by decide +kernel
theorem dX7_search_53 : decode cX7_search 53 = .ok (.iaload, 1) := by decide +kernel
theorem dX7_search_54 : decode cX7_search 54 = .ok (.istore_n 3, 1) := by decide +kernel
theorem dX7_search_55 : decode cX7_search 55 = .ok (.aload_n 1, 1) := by decide +kernel
theorem dX7_search_56 : decode cX7_search 56 = .ok (.getfield 30, 3) := by decide +kernel
theorem dX7_search_59 : decode cX7_search 59 = .ok (.iload_n 2, 1) := by decide +kernel
theorem dX7_search_60 : decode cX7_search 60 = .ok (.iaload, 1) := by decide +kernel
theorem dX7_search_61 : decode cX7_search 61 = .ok (.ifCond .le 30, 3) := by decide +kernel
theorem dX7_search_64 : decode cX7_search 64 = .ok (.iload_n 3, 1) := by decide +kernel
theorem dX7_search_65 : decode cX7_search 65 = .ok (.ifCond .lt 26, 3) := by decide +kernel
theorem dX7_search_68 : decode cX7_search 68 = .ok (.iload_n 3, 1) := by decide +kernel
theorem dX7_search_69 : decode cX7_search 69 = .ok (.bipush 16, 2) := by decide +kernel
theorem dX7_search_71 : decode cX7_search 71 = .ok (.if_icmp .ge 20, 3) := by decide +kernel
theorem dX7_search_74 : decode cX7_search 74 = .ok (.aload_n 0, 1) := by decide +kernel
theorem dX7_search_75 : decode cX7_search 75 = .ok (.getfield 9, 3) := by decide +kernel
theorem dX7_search_78 : decode cX7_search 78 = .ok (.iload_n 3, 1) := by decide +kernel
theorem dX7_search_79 : decode cX7_search 79 = .ok (.dup2, 1) := by decide +kernel
theorem dX7_search_80 : decode cX7_search 80 = .ok (.iaload, 1) := by decide +kernel
theorem dX7_search_81 : decode cX7_search 81 = .ok (.iconst 1, 1) := by decide +kernel
theorem dX7_search_82 : decode cX7_search 82 = .ok (.aload_n 1, 1) := by decide +kernel
theorem dX7_search_83 : decode cX7_search 83 = .ok (.getfield 33, 3) := by decide +kernel
theorem dX7_search_86 : decode cX7_search 86 = .ok (.iload_n 2, 1) := by decide +kernel
theorem dX7_search_87 : decode cX7_search 87 = .ok (.iaload, 1) := by decide +kernel
theorem dX7_search_88 : decode cX7_search 88 = .ok (.ishl, 1) := by decide +kernel
theorem dX7_search_89 : decode cX7_search 89 = .ok (.ior, 1) := by decide +kernel
theorem dX7_search_90 : decode cX7_search 90 = .ok (.iastore, 1) := by decide +kernel
theorem dX7_search_91 : decode cX7_search 91 = .ok (.iinc 2 1, 3) := by decide +kernel
theorem dX7_search_94 : decode cX7_search 94 = .ok (.goto (-60), 3) := by decide +kernel
theorem dX7_search_97 : decode cX7_search 97 = .ok (.iconst 0, 1) := by decide +kernel
theorem dX7_search_98 : decode cX7_search 98 = .ok (.istore_n 2, 1) := by decide +kernel
theorem dX7_search_99 : decode cX7_search 99 = .ok (.iload_n 2, 1) := by decide +kernel
theorem dX7_search_100 : decode cX7_search 100 = .ok (.bipush 16, 2) := by decide +kernel
theorem dX7_search_102 : decode cX7_search 102 = .ok (.if_icmp .ge 19, 3) := by decide +kernel
theorem dX7_search_105 : decode cX7_search 105 = .ok (.aload_n 0, 1) := by decide +kernel
theorem dX7_search_106 : decode cX7_search 106 = .ok (.iload_n 2, 1) := by decide +kernel
theorem dX7_search_107 : decode cX7_search 107 = .ok (.iload_n 2, 1) := by decide +kernel
theorem dX7_search_108 : decode cX7_search 108 = .ok (.iconst 1, 1) := by decide +kernel
theorem dX7_search_109 : decode cX7_search 109 = .ok (.iload_n 2, 1) := by decide +kernel
theorem dX7_search_110 : decode cX7_search 110 = .ok (.ishl, 1) := by decide +kernel
theorem dX7_search_111 : decode cX7_search 111 = .ok (.iconst 1, 1) := by decide +kernel
theorem dX7_search_112 : decode cX7_search 112 = .ok (.invokevirtual 34, 3) := by decide +kernel
theorem dX7_search_115 : decode cX7_search 115 = .ok (.iinc 2 1, 3) := by decide +kernel
theorem dX7_search_118 : decode cX7_search 118 = .ok (.goto (-19), 3) := by decide +kernel
theorem dX7_search_121 : decode cX7_search 121 = .ok (.return_, 1) := by decide +kernel
def lp_X7_search_13 (F : Nat) (e1 : Nat) (k32 : jS → Option jS) : Nat → Int32 → jS → Option jS
  | 0, _, _ => none
  | n + 1, x2, σ => (if x2 < (16 : Int32) then (if jin x2 16 = true then (lt (js σ 61 x2.toNatClampNeg (0 : Int32)) fun σ3 => (lp_X7_search_13 F e1 k32 n ((x2 + (1 : Int32))) σ3)) else none) else (k32 σ))
set_option maxHeartbeats 4000000 in
set_option maxRecDepth 100000 in
theorem lp_X7_search_13_ok {G : jG} (C : jc cfX 70 G cX7_search RX7 4 none 22) (F : Nat) (e1 : Nat) (he1 : kX e1 = 6) {v : jS} (k32 : jS → Option jS) (hk32 : ∀ (σ : jS), k32 σ = some v → JX G 32 [(0, .ref (vad (gV G) 60)), (1, .ref (vad (gV G) e1))] [] σ (0, v)) : ∀ (n : Nat) (x2 : Int32) (σ : jS), lp_X7_search_13 F e1 k32 n x2 σ = some v → JX G 13 [(0, .ref (vad (gV G) 60)), (1, .ref (vad (gV G) e1)), (2, .int x2)] [] σ (0, v) := by
  intro n
  induction n with
  | zero =>
    intro x2 σ hm
    rw [lp_X7_search_13] at hm
    cases hm
  | succ n ih =>
    intro x2 σ hm
    rw [lp_X7_search_13] at hm
    refine j_iloadn (pc := 13) C 2 dX7_search_13 rfl rfl ?_
    refine j_bipush (v := 16) (pc := 14) C dX7_search_14 (by decide) ?_
    refine j_icmp_ge (tgt := 32) (pc := 16) C dX7_search_16 (by decide) hm (fun _ hm => ?_) (fun _ hm => ?_)
    · refine j_aloadn (pc := 19) C 0 dX7_search_19 rfl rfl ?_
      refine gf_X7_9 (c := 60) (pc := 20) C kx_60 dX7_search_20 ?_
      refine j_iloadn (pc := 23) C 2 dX7_search_23 rfl rfl ?_
      refine j_iconst (v := 0) (pc := 24) C dX7_search_24 (by decide) ?_
      refine j_guard hm (fun hg4 hm => ?_)
      refine j_iastL (c := 61) (n := 16) (pc := 25) C (kX_lt kx_61 (by decide)) (cx_a kx_61 lx_61) hg4 dX7_search_25 hm (fun σ3 hm => ?_)
      refine j_iinc (v := (x2 + (1 : Int32))) (ls' := [(2, .int (x2 + (1 : Int32))), (0, .ref (vad (gV G) 60)), (1, .ref (vad (gV G) e1))]) (pc := 26) C 2 dX7_search_26 rfl rfl (by decide) rfl ?_
      refine j_goto (tgt := 13) (pc := 29) C dX7_search_29 (by decide) ?_
      refine j_ls [1, 2, 0] rfl ?_
      exact ih _ _ hm
    · refine j_ls [0, 1] rfl ?_
      exact hk32 _ hm

def lp_X7_search_34 (F : Nat) (e1 : Nat) (k97 : jS → Option jS) : Nat → Int32 → jS → Option jS
  | 0, _, _ => none
  | n + 1, x2, σ => (if x2 < (σ e1 6) then (if x2 < (24 : Int32) then (if jin x2 24 = true then (lt (σ (e1 + 1) x2.toNatClampNeg) fun y7 => (if jin x2 24 = true then (if 0 < (σ (e1 + 6) x2.toNatClampNeg) then (if y7 < 0 then (lp_X7_search_34 F e1 k97 n ((x2 + (1 : Int32))) σ) else (if y7 < (16 : Int32) then (if jin y7 16 = true then (if jin x2 24 = true then (if jin y7 16 = true then (lt (js σ 61 y7.toNatClampNeg ((σ 61 y7.toNatClampNeg) ||| ((1 : Int32) <<< ((σ (e1 + 2) x2.toNatClampNeg) &&& 31)))) fun σ11 => (lp_X7_search_34 F e1 k97 n ((x2 + (1 : Int32))) σ11)) else none) else none) else none) else (lp_X7_search_34 F e1 k97 n ((x2 + (1 : Int32))) σ))) else (lp_X7_search_34 F e1 k97 n ((x2 + (1 : Int32))) σ)) else none)) else none) else (k97 σ)) else (k97 σ))
set_option maxHeartbeats 4000000 in
set_option maxRecDepth 100000 in
theorem lp_X7_search_34_ok {G : jG} (C : jc cfX 70 G cX7_search RX7 4 none 22) (F : Nat) (e1 : Nat) (he1 : kX e1 = 6) {v : jS} (k97 : jS → Option jS) (hk97 : ∀ (σ : jS), k97 σ = some v → JX G 97 [(0, .ref (vad (gV G) 60))] [] σ (0, v)) : ∀ (n : Nat) (x2 : Int32) (σ : jS), lp_X7_search_34 F e1 k97 n x2 σ = some v → JX G 34 [(0, .ref (vad (gV G) 60)), (1, .ref (vad (gV G) e1)), (2, .int x2)] [] σ (0, v) := by
  intro n
  induction n with
  | zero =>
    intro x2 σ hm
    rw [lp_X7_search_34] at hm
    cases hm
  | succ n ih =>
    intro x2 σ hm
    rw [lp_X7_search_34] at hm
    refine j_iloadn (pc := 34) C 2 dX7_search_34 rfl rfl ?_
    refine j_aloadn (pc := 35) C 1 dX7_search_35 rfl rfl ?_
    refine gf_X7_22 (c := e1) (pc := 36) C he1 dX7_search_36 ?_
    refine j_icmp_ge (tgt := 97) (pc := 39) C dX7_search_39 (by decide) hm (fun _ hm => ?_) (fun _ hm => ?_)
    · refine j_iloadn (pc := 42) C 2 dX7_search_42 rfl rfl ?_
      refine j_bipush (v := 24) (pc := 43) C dX7_search_43 (by decide) ?_
      refine j_icmp_ge (tgt := 97) (pc := 45) C dX7_search_45 (by decide) hm (fun _ hm => ?_) (fun _ hm => ?_)
      · refine j_aloadn (pc := 48) C 1 dX7_search_48 rfl rfl ?_
        refine gf_X7_27 (c := e1) (pc := 49) C he1 dX7_search_49 ?_
        refine j_iloadn (pc := 52) C 2 dX7_search_52 rfl rfl ?_
        refine j_guard hm (fun hg6 hm => ?_)
        refine j_iald (c := (e1 + 1)) (n := 24) (pc := 53) C (kX_lt (of_6_1 he1) (by decide)) (cx_a (of_6_1 he1) (ol_6_1 he1) _) hg6 dX7_search_53 ?_
        refine j_lti hm (fun y7 hm => ?_)
        refine j_istoren (ls' := [(3, .int y7), (0, .ref (vad (gV G) 60)), (1, .ref (vad (gV G) e1)), (2, .int x2)]) (pc := 54) C dX7_search_54 rfl (by decide) rfl ?_
        refine j_aloadn (pc := 55) C 2 dX7_search_55 rfl rfl ?_
        refine gf_X7_30 (c := e1) (pc := 56) C he1 dX7_search_56 ?_
        refine j_iloadn (pc := 59) C 3 dX7_search_59 rfl rfl ?_
        refine j_guard hm (fun hg8 hm => ?_)
        refine j_iald (c := (e1 + 6)) (n := 24) (pc := 60) C (kX_lt (of_6_6 he1) (by decide)) (cx_a (of_6_6 he1) (ol_6_6 he1) _) hg8 dX7_search_60 ?_
        refine j_if_le (tgt := 91) (pc := 61) C dX7_search_61 (by decide) hm (fun _ hm => ?_) (fun _ hm => ?_)
        · refine j_iloadn (pc := 64) C 0 dX7_search_64 rfl rfl ?_
          refine j_if_lt (tgt := 91) (pc := 65) C dX7_search_65 (by decide) hm (fun _ hm => ?_) (fun _ hm => ?_)
          · refine j_iinc (v := (x2 + (1 : Int32))) (ls' := [(2, .int (x2 + (1 : Int32))), (3, .int y7), (0, .ref (vad (gV G) 60)), (1, .ref (vad (gV G) e1))]) (pc := 91) C 3 dX7_search_91 rfl rfl (by decide) rfl ?_
            refine j_goto (tgt := 34) (pc := 94) C dX7_search_94 (by decide) ?_
            refine j_ls [2, 3, 0] rfl ?_
            exact ih _ _ hm
          · refine j_iloadn (pc := 68) C 0 dX7_search_68 rfl rfl ?_
            refine j_bipush (v := 16) (pc := 69) C dX7_search_69 (by decide) ?_
            refine j_icmp_ge (tgt := 91) (pc := 71) C dX7_search_71 (by decide) hm (fun _ hm => ?_) (fun _ hm => ?_)
            · refine j_aloadn (pc := 74) C 1 dX7_search_74 rfl rfl ?_
              refine gf_X7_9 (c := 60) (pc := 75) C kx_60 dX7_search_75 ?_
              refine j_iloadn (pc := 78) C 0 dX7_search_78 rfl rfl ?_
              refine j_dup2 (pc := 79) C dX7_search_79 rfl rfl ?_
              refine j_guard hm (fun hg9 hm => ?_)
              refine j_iald (c := 61) (n := 16) (pc := 80) C (kX_lt kx_61 (by decide)) (cx_a kx_61 lx_61 _) hg9 dX7_search_80 ?_
              refine j_iconst (v := 1) (pc := 81) C dX7_search_81 (by decide) ?_
              refine j_aloadn (pc := 82) C 2 dX7_search_82 rfl rfl ?_
              refine gf_X7_33 (c := e1) (pc := 83) C he1 dX7_search_83 ?_
              refine j_iloadn (pc := 86) C 3 dX7_search_86 rfl rfl ?_
              refine j_guard hm (fun hg10 hm => ?_)
              refine j_iald (c := (e1 + 2)) (n := 24) (pc := 87) C (kX_lt (of_6_2 he1) (by decide)) (cx_a (of_6_2 he1) (ol_6_2 he1) _) hg10 dX7_search_87 ?_
              refine j_ishl (pc := 88) C dX7_search_88 ?_
              refine j_ior (pc := 89) C dX7_search_89 ?_
              refine j_guard hm (fun hg12 hm => ?_)
              refine j_iastL (c := 61) (n := 16) (pc := 90) C (kX_lt kx_61 (by decide)) (cx_a kx_61 lx_61) hg12 dX7_search_90 hm (fun σ11 hm => ?_)
              refine j_iinc (v := (x2 + (1 : Int32))) (ls' := [(2, .int (x2 + (1 : Int32))), (3, .int y7), (0, .ref (vad (gV G) 60)), (1, .ref (vad (gV G) e1))]) (pc := 91) C 3 dX7_search_91 rfl rfl (by decide) rfl ?_
              refine j_goto (tgt := 34) (pc := 94) C dX7_search_94 (by decide) ?_
              refine j_ls [2, 3, 0] rfl ?_
              exact ih _ _ hm
            · refine j_iinc (v := (x2 + (1 : Int32))) (ls' := [(2, .int (x2 + (1 : Int32))), (3, .int y7), (0, .ref (vad (gV G) 60)), (1, .ref (vad (gV G) e1))]) (pc := 91) C 3 dX7_search_91 rfl rfl (by decide) rfl ?_
              refine j_goto (tgt := 34) (pc := 94) C dX7_search_94 (by decide) ?_
              refine j_ls [2, 3, 0] rfl ?_
              exact ih _ _ hm
        · refine j_iinc (v := (x2 + (1 : Int32))) (ls' := [(2, .int (x2 + (1 : Int32))), (3, .int y7), (0, .ref (vad (gV G) 60)), (1, .ref (vad (gV G) e1))]) (pc := 91) C 3 dX7_search_91 rfl rfl (by decide) rfl ?_
          refine j_goto (tgt := 34) (pc := 94) C dX7_search_94 (by decide) ?_
          refine j_ls [2, 3, 0] rfl ?_
          exact ih _ _ hm
      · refine j_ls [0] rfl ?_
        exact hk97 _ hm
    · refine j_ls [0] rfl ?_
      exact hk97 _ hm

def lp_X7_search_99 (F : Nat) (e1 : Nat) : Nat → Int32 → jS → Option jS
  | 0, _, _ => none
  | n + 1, x2, σ => (if x2 < (16 : Int32) then (Option.bind (mX7_follow F x2 x2 (((1 : Int32) <<< (x2 &&& 31))) (1 : Int32) σ) fun q14 => (lp_X7_search_99 F e1 n ((x2 + (1 : Int32))) q14)) else some σ)
set_option maxHeartbeats 4000000 in
set_option maxRecDepth 100000 in
theorem lp_X7_search_99_ok {G : jG} (C : jc cfX 70 G cX7_search RX7 4 none 22) (F : Nat) (e1 : Nat) (he1 : kX e1 = 6) {v : jS} : ∀ (n : Nat) (x2 : Int32) (σ : jS), lp_X7_search_99 F e1 n x2 σ = some v → JX G 99 [(0, .ref (vad (gV G) 60)), (2, .int x2)] [] σ (0, v) := by
  intro n
  induction n with
  | zero =>
    intro x2 σ hm
    rw [lp_X7_search_99] at hm
    cases hm
  | succ n ih =>
    intro x2 σ hm
    rw [lp_X7_search_99] at hm
    refine j_iloadn (pc := 99) C 1 dX7_search_99 rfl rfl ?_
    refine j_bipush (v := 16) (pc := 100) C dX7_search_100 (by decide) ?_
    refine j_icmp_ge (tgt := 121) (pc := 102) C dX7_search_102 (by decide) hm (fun _ hm => ?_) (fun _ hm => ?_)
    · refine j_aloadn (pc := 105) C 0 dX7_search_105 rfl rfl ?_
      refine j_iloadn (pc := 106) C 1 dX7_search_106 rfl rfl ?_
      refine j_iloadn (pc := 107) C 1 dX7_search_107 rfl rfl ?_
      refine j_iconst (v := 1) (pc := 108) C dX7_search_108 (by decide) ?_
      refine j_iloadn (pc := 109) C 1 dX7_search_109 rfl rfl ?_
      refine j_ishl (pc := 110) C dX7_search_110 ?_
      refine j_iconst (v := 1) (pc := 111) C dX7_search_111 (by decide) ?_
      obtain ⟨q14, hq14, hm⟩ := Option.bind_eq_some_iff.mp hm
      refine cl_X7_34 (c := 60) (pc := 112) C kx_60 (kX7_follow hq14) (by decide) (Nat.le_of_ble_eq_true rfl) dX7_search_112 ?_
      refine j_iinc (v := (x2 + (1 : Int32))) (ls' := [(2, .int (x2 + (1 : Int32))), (0, .ref (vad (gV G) 60))]) (pc := 115) C 1 dX7_search_115 rfl rfl (by decide) rfl ?_
      refine j_goto (tgt := 99) (pc := 118) C dX7_search_118 (by decide) ?_
      refine j_ls [1, 0] rfl ?_
      exact ih _ _ hm
    · exact j_vret (pc := 121) C rfl dX7_search_121 hm

def jn_X7_search_97 (F : Nat) (e1 : Nat) (σ : jS) : Option jS := (lp_X7_search_99 F e1 F (0 : Int32) σ)
set_option maxHeartbeats 4000000 in
set_option maxRecDepth 100000 in
theorem jn_X7_search_97_ok {G : jG} (C : jc cfX 70 G cX7_search RX7 4 none 22) (F : Nat) (e1 : Nat) (he1 : kX e1 = 6) {v : jS} : ∀ (σ : jS), jn_X7_search_97 F e1 σ = some v → JX G 97 [(0, .ref (vad (gV G) 60))] [] σ (0, v) := by
  intro σ hm
  unfold jn_X7_search_97 at hm
  refine j_iconst (v := 0) (pc := 97) C dX7_search_97 (by decide) ?_
  refine j_istoren (ls' := [(2, .int (0 : Int32)), (0, .ref (vad (gV G) 60))]) (pc := 98) C dX7_search_98 rfl (by decide) rfl ?_
  refine j_ls [1, 0] rfl ?_
  exact lp_X7_search_99_ok C F e1 he1  F _ _ hm

def mX7_search (F : Nat) (e1 : Nat) (σ : jS) : Option jS := (lt (js σ 60 1 (17 : Int32)) fun σ1 => (lt (js σ1 60 2 (0 : Int32)) fun σ2 => (lp_X7_search_13 F e1 (fun σ5 => (lp_X7_search_34 F e1 (fun σ13 => (jn_X7_search_97 F e1 σ13)) F (0 : Int32) σ5)) F (0 : Int32) σ2)))
set_option maxHeartbeats 4000000 in
set_option maxRecDepth 100000 in
theorem kX7_search {V : jV} {F : Nat} {e1 : Nat} (he1 : kX e1 = 6) {σ : jS} {v : jS} (hm : mX7_search F e1 σ = some v) : Ct cfX 70 V yX7_search cX7_search 4 none 22 [.ref (vad V 60), .ref (vad V e1)] σ (0, v) := by
  refine j_start (own := RX7) (by decide) rfl (Nat.le_of_ble_eq_true rfl) ?_
  intro G hV C
  subst hV
  unfold mX7_search at hm
  show JX G 0 [(0, .ref (vad (gV G) 60)), (1, .ref (vad (gV G) e1))] [] σ (0, v)
  refine j_aloadn (pc := 0) C 0 dX7_search_0 rfl rfl ?_
  refine j_bipush (v := 17) (pc := 1) C dX7_search_1 (by decide) ?_
  refine pf_X7_15 (c := 60) (pc := 3) C kx_60 dX7_search_3 hm (fun σ1 hm => ?_)
  refine j_aloadn (pc := 6) C 0 dX7_search_6 rfl rfl ?_
  refine j_iconst (v := 0) (pc := 7) C dX7_search_7 (by decide) ?_
  refine pf_X7_19 (c := 60) (pc := 8) C kx_60 dX7_search_8 hm (fun σ2 hm => ?_)
  refine j_iconst (v := 0) (pc := 11) C dX7_search_11 (by decide) ?_
  refine j_istoren (ls' := [(2, .int (0 : Int32)), (0, .ref (vad (gV G) 60)), (1, .ref (vad (gV G) e1))]) (pc := 12) C dX7_search_12 rfl (by decide) rfl ?_
  refine j_ls [1, 2, 0] rfl ?_
  refine lp_X7_search_13_ok C F e1 he1 _ (fun σ5 hm => ?_) F _ _ hm
  refine j_iconst (v := 0) (pc := 32) C dX7_search_32 (by decide) ?_
  refine j_istoren (ls' := [(2, .int (0 : Int32)), (0, .ref (vad (gV G) 60)), (1, .ref (vad (gV G) e1))]) (pc := 33) C dX7_search_33 rfl (by decide) rfl ?_
  refine j_ls [1, 2, 0] rfl ?_
  refine lp_X7_search_34_ok C F e1 he1 _ (fun σ13 hm => ?_) F _ _ hm
  exact jn_X7_search_97_ok C F e1 he1  _ hm

