theorem dX1_share_0 : decode cX1_share 0 = .ok (.iload_n 1, 1) := by decide +kernel
theorem dX1_share_1 : decode cX1_share 1 = .ok (.ifCond .lt 16, 3) := by decide +kernel
theorem dX1_share_4 : decode cX1_share 4 = .ok (.iload_n 1, 1) := by decide +kernel
theorem dX1_share_5 : decode cX1_share 5 = .ok (.aload_n 0, 1) := by decide +kernel
theorem dX1_share_6 : decode cX1_share 6 = .ok (.getfield 24, 3) := by decide +kernel
theorem dX1_share_9 : decode cX1_share 9 = .ok (.if_icmp .ge 8, 3) := by decide +kernel
theorem dX1_share_12 : decode cX1_share 12 = .ok (.iload_n 1, 1) := by decide +kernel
theorem dX1_share_13 : decode cX1_share 13 = .ok (.iconst 5, 1) := by decide +kernel
theorem dX1_share_14 : decode cX1_share 14 = .ok (.if_icmp .lt 4, 3) := by decide +kernel
theorem dX1_share_17 : decode cX1_share 17 = .ok (.return_, 1) := by decide +kernel
theorem dX1_share_18 : decode cX1_share 18 = .ok (.iload_n 1, 1) := by decide +kernel
theorem dX1_share_19 : decode cX1_share 19 = .ok (.aload_n 0, 1) := by decide +kernel
theorem dX1_share_20 : decode cX1_share 20 = .ok (.getfield 24, 3) := by decide +kernel
theorem dX1_share_23 : decode cX1_share 23 = .ok (.iconst 1, 1) := by decide +kernel
theorem dX1_share_24 : decode cX1_share 24 = .ok (.isub, 1) := by decide +kernel
theorem dX1_share_25 : decode cX1_share 25 = .ok (.if_icmp .ne 38, 3) := by decide +kernel
theorem dX1_share_28 : decode cX1_share 28 = .ok (.aload_n 0, 1) := by decide +kernel
theorem dX1_share_29 : decode cX1_share 29 = .ok (.getfield 18, 3) := by decide +kernel
theorem dX1_share_32 : decode cX1_share 32 = .ok (.iload_n 1, 1) := by decide +kernel
theorem dX1_share_33 : decode cX1_share 33 = .ok (.iload_n 2, 1) := by decide +kernel
theorem dX1_share_34 : decode cX1_share 34 = .ok (.iastore, 1) := by decide +kernel
theorem dX1_share_35 : decode cX1_share 35 = .ok (.iload_n 2, 1) := by decide +kernel
theorem dX1_share_36 : decode cX1_share 36 = .ok (.aload_n 0, 1) := by decide +kernel
theorem dX1_share_37 : decode cX1_share 37 = .ok (.getfield 9, 3) := by decide +kernel
theorem dX1_share_40 : decode cX1_share 40 = .ok (.iload_n 1, 1) := by decide +kernel
theorem dX1_share_41 : decode cX1_share 41 = .ok (.iaload, 1) := by decide +kernel
theorem dX1_share_42 : decode cX1_share 42 = .ok (.imul, 1) := by decide +kernel
theorem dX1_share_43 : decode cX1_share 43 = .ok (.iload_n 3, 1) := by decide +kernel
theorem dX1_share_44 : decode cX1_share 44 = .ok (.if_icmp .gt 18, 3) := by decide +kernel
theorem dX1_share_47 : decode cX1_share 47 = .ok (.aload_n 0, 1) := by decide +kernel
theorem dX1_share_48 : decode cX1_share 48 = .ok (.iload 4, 2) := by decide +kernel
theorem dX1_share_50 : decode cX1_share 50 = .ok (.iload_n 2, 1) := by decide +kernel
theorem dX1_share_51 : decode cX1_share 51 = .ok (.aload_n 0, 1) := by decide +kernel
theorem dX1_share_52 : decode cX1_share 52 = .ok (.getfield 15, 3) := by decide +kernel
theorem dX1_share_55 : decode cX1_share 55 = .ok (.iload_n 1, 1) := by decide +kernel
theorem dX1_share_56 : decode cX1_share 56 = .ok (.iaload, 1) := by decide +kernel
theorem dX1_share_57 : decode cX1_share 57 = .ok (.imul, 1) := by decide +kernel
theorem dX1_share_58 : decode cX1_share 58 = .ok (.iadd, 1) := by decide +kernel
theorem dX1_share_59 : decode cX1_share 59 = .ok (.invokevirtual 47, 3) := by decide +kernel
theorem dX1_share_62 : decode cX1_share 62 = .ok (.return_, 1) := by decide +kernel
theorem dX1_share_63 : decode cX1_share 63 = .ok (.iload_n 2, 1) := by decide +kernel
theorem dX1_share_64 : decode cX1_share 64 = .ok (.istore 5, 2) := by decide +kernel
theorem dX1_share_66 : decode cX1_share 66 = .ok (.iload 5, 2) := by decide +kernel
theorem dX1_share_68 : decode cX1_share 68 = .ok (.ifCond .lt 61, 3) := by decide +kernel
theorem dX1_share_71 : decode cX1_share 71 = .ok (.iload 5, 2) := by decide +kernel
theorem dX1_share_73 : decode cX1_share 73 = .ok (.aload_n 0, 1) := by decide +kernel
theorem dX1_share_74 : decode cX1_share 74 = .ok (.getfield 9, 3) := by decide +kernel
theorem dX1_share_77 : decode cX1_share 77 = .ok (.iload_n 1, 1) := by decide +kernel
theorem dX1_share_78 : decode cX1_share 78 = .ok (.iaload, 1) := by decide +kernel
theorem dX1_share_79 : decode cX1_share 79 = .ok (.imul, 1) := by decide +kernel
theorem dX1_share_80 : decode cX1_share 80 = .ok (.istore 6, 2) := by decide +kernel
theorem dX1_share_82 : decode cX1_share 82 = .ok (.iload 6, 2) := by decide +kernel
theorem dX1_share_84 : decode cX1_share 84 = .ok (.iload_n 3, 1) := by decide +kernel
theorem dX1_share_85 : decode cX1_share 85 = .ok (.if_icmp .gt 38, 3) := by decide +kernel
theorem dX1_share_88 : decode cX1_share 88 = .ok (.aload_n 0, 1) := by decide +kernel
theorem dX1_share_89 : decode cX1_share 89 = .ok (.getfield 18, 3) := by decide +kernel
theorem dX1_share_92 : decode cX1_share 92 = .ok (.iload_n 1, 1) := by decide +kernel
theorem dX1_share_93 : decode cX1_share 93 = .ok (.iload 5, 2) := by decide +kernel
theorem dX1_share_95 : decode cX1_share 95 = .ok (.iastore, 1) := by decide +kernel
theorem dX1_share_96 : decode cX1_share 96 = .ok (.aload_n 0, 1) := by decide +kernel
theorem dX1_share_97 : decode cX1_share 97 = .ok (.iload_n 1, 1) := by decide +kernel
theorem dX1_share_98 : decode cX1_share 98 = .ok (.iconst 1, 1) := by decide +kernel
theorem dX1_share_99 : decode cX1_share 99 = .ok (.iadd, 1) := by decide +kernel
theorem dX1_share_100 : decode cX1_share 100 = .ok (.iload_n 2, 1) := by decide +kernel
theorem dX1_share_101 : decode cX1_share 101 = .ok (.iload 5, 2) := by decide +kernel
theorem dX1_share_103 : decode cX1_share 103 = .ok (.isub, 1) := by decide +kernel
theorem dX1_share_104 : decode cX1_share 104 = .ok (.iload_n 3, 1) := by decide +kernel
theorem dX1_share_105 : decode cX1_share 105 = .ok (.iload 6, 2) := by decide +kernel
theorem dX1_share_107 : decode cX1_share 107 = .ok (.isub, 1) := by decide +kernel
theorem dX1_share_108 : decode cX1_share 108 = .ok (.iload 4, 2) := by decide +kernel
theorem dX1_share_110 : decode cX1_share 110 = .ok (.iload 5, 2) := by decide +kernel
theorem dX1_share_112 : decode cX1_share 112 = .ok (.aload_n 0, 1) := by decide +kernel
theorem dX1_share_113 : decode cX1_share 113 = .ok (.getfield 15, 3) := by decide +kernel
theorem dX1_share_116 : decode cX1_share 116 = .ok (.iload_n 1, 1) := by decide +kernel
theorem dX1_share_117 : decode cX1_share 117 = .ok (.iaload, 1) := by decide +kernel
theorem dX1_share_118 : decode cX1_share 118 = .ok (.imul, 1) := by decide +kernel
theorem dX1_share_119 : decode cX1_share 119 = .ok (.iadd, 1) := by decide +kernel
theorem dX1_share_120 : decode cX1_share 120 = .ok (.invokevirtual 43, 3) := by decide +kernel
theorem dX1_share_123 : decode cX1_share 123 = .ok (.iinc 5 (-1), 3) := by decide +kernel
theorem dX1_share_126 : decode cX1_share 126 = .ok (.goto (-60), 3) := by decide +kernel
theorem dX1_share_129 : decode cX1_share 129 = .ok (.return_, 1) := by decide +kernel
def lp_X1_share_66 (F : Nat) (f_X1_share : Int32 → Int32 → Int32 → Int32 → jS → Option jS) : Nat → Int32 → Int32 → Int32 → Int32 → Int32 → jS → Option jS
  | 0, _, _, _, _, _, _ => none
  | n + 1, x1, x2, x3, x4, x5, σ => (if x5 < 0 then some σ else (if jin x1 5 = true then (lt (x5 * (σ 63 x1.toNatClampNeg)) fun y7 => (if x3 < y7 then (lp_X1_share_66 F f_X1_share n x1 x2 x3 x4 ((x5 + (-1 : Int32))) σ) else (if jin x1 5 = true then (lt (js σ 65 x1.toNatClampNeg x5) fun σ8 => (if jin x1 5 = true then (Option.bind (f_X1_share ((x1 + (1 : Int32))) ((x2 - x5)) ((x3 - y7)) ((x4 + (x5 * (σ8 64 x1.toNatClampNeg)))) σ8) fun q11 => (lp_X1_share_66 F f_X1_share n x1 x2 x3 x4 ((x5 + (-1 : Int32))) q11)) else none)) else none))) else none))
set_option maxHeartbeats 4000000 in
set_option maxRecDepth 100000 in
theorem lp_X1_share_66_ok {G : jG} {h2 h : Nat} (C : jc cfX 70 G cX1_share RX1 7 none h) (F : Nat) (f_X1_share : Int32 → Int32 → Int32 → Int32 → jS → Option jS) (hf_X1_share : ∀ (x1 : Int32) (x2 : Int32) (x3 : Int32) (x4 : Int32) (σ : jS) (v : jS), f_X1_share x1 x2 x3 x4 σ = some v → Ct cfX 70 (gV G) yX1_share cX1_share 7 none h2 [.ref (vad (gV G) 62), .int x1, .int x2, .int x3, .int x4] σ (0, v)) (hh2 : h2 + 1 ≤ h) (hb : 2 ≤ h) {v : jS} : ∀ (n : Nat) (x1 : Int32) (x2 : Int32) (x3 : Int32) (x4 : Int32) (x5 : Int32) (σ : jS), lp_X1_share_66 F f_X1_share n x1 x2 x3 x4 x5 σ = some v → JX G 66 [(0, .ref (vad (gV G) 62)), (1, .int x1), (2, .int x2), (3, .int x3), (4, .int x4), (5, .int x5)] [] σ (0, v) := by
  intro n
  induction n with
  | zero =>
    intro x1 x2 x3 x4 x5 σ hm
    rw [lp_X1_share_66] at hm
    cases hm
  | succ n ih =>
    intro x1 x2 x3 x4 x5 σ hm
    rw [lp_X1_share_66] at hm
    refine j_iload (pc := 66) C 5 dX1_share_66 rfl ?_
    refine j_if_lt (tgt := 129) (pc := 68) C dX1_share_68 (by decide) hm (fun _ hm => ?_) (fun _ hm => ?_)
    · exact j_vret (pc := 129) C rfl dX1_share_129 hm
    · refine j_iload (pc := 71) C 5 dX1_share_71 rfl ?_
      refine j_aloadn (pc := 73) C 0 dX1_share_73 rfl rfl ?_
      refine gf_X1_9 (c := 62) (pc := 74) C kx_62 dX1_share_74 ?_
      refine j_iloadn (pc := 77) C 1 dX1_share_77 rfl rfl ?_
      refine j_guard hm (fun hg6 hm => ?_)
      refine j_iald (c := 63) (n := 5) (pc := 78) C (kX_lt kx_63 (by decide)) (cx_a kx_63 lx_63 _) hg6 dX1_share_78 ?_
      refine j_imul (pc := 79) C dX1_share_79 ?_
      refine j_lti hm (fun y7 hm => ?_)
      refine j_istore (ls' := [(6, .int y7), (0, .ref (vad (gV G) 62)), (1, .int x1), (2, .int x2), (3, .int x3), (4, .int x4), (5, .int x5)]) (pc := 80) C dX1_share_80 (by decide) rfl ?_
      refine j_iload (pc := 82) C 0 dX1_share_82 rfl ?_
      refine j_iloadn (pc := 84) C 4 dX1_share_84 rfl rfl ?_
      refine j_icmp_gt (tgt := 123) (pc := 85) C dX1_share_85 (by decide) hm (fun _ hm => ?_) (fun _ hm => ?_)
      · refine j_iinc (v := (x5 + (-1 : Int32))) (ls' := [(5, .int (x5 + (-1 : Int32))), (6, .int y7), (0, .ref (vad (gV G) 62)), (1, .int x1), (2, .int x2), (3, .int x3), (4, .int x4)]) (pc := 123) C 6 dX1_share_123 rfl rfl (by decide) rfl ?_
        refine j_goto (tgt := 66) (pc := 126) C dX1_share_126 (by decide) ?_
        refine j_ls [2, 3, 4, 5, 6, 0] rfl ?_
        exact ih _ _ _ _ _ _ hm
      · refine j_aloadn (pc := 88) C 1 dX1_share_88 rfl rfl ?_
        refine gf_X1_18 (c := 62) (pc := 89) C kx_62 dX1_share_89 ?_
        refine j_iloadn (pc := 92) C 2 dX1_share_92 rfl rfl ?_
        refine j_iload (pc := 93) C 6 dX1_share_93 rfl ?_
        refine j_guard hm (fun hg9 hm => ?_)
        refine j_iastL (c := 65) (n := 5) (pc := 95) C (kX_lt kx_65 (by decide)) (cx_a kx_65 lx_65) hg9 dX1_share_95 hm (fun σ8 hm => ?_)
        refine j_aloadn (pc := 96) C 1 dX1_share_96 rfl rfl ?_
        refine j_iloadn (pc := 97) C 2 dX1_share_97 rfl rfl ?_
        refine j_iconst (v := 1) (pc := 98) C dX1_share_98 (by decide) ?_
        refine j_iadd (pc := 99) C dX1_share_99 ?_
        refine j_iloadn (pc := 100) C 3 dX1_share_100 rfl rfl ?_
        refine j_iload (pc := 101) C 6 dX1_share_101 rfl ?_
        refine j_isub (pc := 103) C dX1_share_103 ?_
        refine j_iloadn (pc := 104) C 4 dX1_share_104 rfl rfl ?_
        refine j_iload (pc := 105) C 0 dX1_share_105 rfl ?_
        refine j_isub (pc := 107) C dX1_share_107 ?_
        refine j_iload (pc := 108) C 5 dX1_share_108 rfl ?_
        refine j_iload (pc := 110) C 6 dX1_share_110 rfl ?_
        refine j_aloadn (pc := 112) C 1 dX1_share_112 rfl rfl ?_
        refine gf_X1_15 (c := 62) (pc := 113) C kx_62 dX1_share_113 ?_
        refine j_iloadn (pc := 116) C 2 dX1_share_116 rfl rfl ?_
        refine j_guard hm (fun hg10 hm => ?_)
        refine j_iald (c := 64) (n := 5) (pc := 117) C (kX_lt kx_64 (by decide)) (cx_a kx_64 lx_64 _) hg10 dX1_share_117 ?_
        refine j_imul (pc := 118) C dX1_share_118 ?_
        refine j_iadd (pc := 119) C dX1_share_119 ?_
        obtain ⟨q11, hq11, hm⟩ := Option.bind_eq_some_iff.mp hm
        refine cl_X1_43 (c := 62) (pc := 120) C kx_62 (hf_X1_share _ _ _ _ _ _ hq11) hh2 (Nat.le_of_ble_eq_true rfl) dX1_share_120 ?_
        refine j_iinc (v := (x5 + (-1 : Int32))) (ls' := [(5, .int (x5 + (-1 : Int32))), (6, .int y7), (0, .ref (vad (gV G) 62)), (1, .int x1), (2, .int x2), (3, .int x3), (4, .int x4)]) (pc := 123) C 6 dX1_share_123 rfl rfl (by decide) rfl ?_
        refine j_goto (tgt := 66) (pc := 126) C dX1_share_126 (by decide) ?_
        refine j_ls [2, 3, 4, 5, 6, 0] rfl ?_
        exact ih _ _ _ _ _ _ hm

def bX1_share (F : Nat) (f_X1_share : Int32 → Int32 → Int32 → Int32 → jS → Option jS) (x1 : Int32) (x2 : Int32) (x3 : Int32) (x4 : Int32) (σ : jS) : Option jS := (if x1 < 0 then some σ else (if x1 < (σ 62 4) then (if x1 < (5 : Int32) then (if x1 = ((σ 62 4) - (1 : Int32)) then (if jin x1 5 = true then (lt (js σ 65 x1.toNatClampNeg x2) fun σ1 => (if jin x1 5 = true then (if x3 < (x2 * (σ1 63 x1.toNatClampNeg)) then some σ1 else (if jin x1 5 = true then (Option.bind (mX1_note F ((x4 + (x2 * (σ1 64 x1.toNatClampNeg)))) σ1) fun q5 => some q5) else none)) else none)) else none) else (lp_X1_share_66 F f_X1_share F x1 x2 x3 x4 x2 σ)) else some σ) else some σ))
set_option maxHeartbeats 4000000 in
set_option maxRecDepth 100000 in
theorem kbX1_share {V : jV} {F : Nat} {h2 h : Nat} {f_X1_share : Int32 → Int32 → Int32 → Int32 → jS → Option jS} (hf_X1_share : ∀ (x1 : Int32) (x2 : Int32) (x3 : Int32) (x4 : Int32) (σ : jS) (v : jS), f_X1_share x1 x2 x3 x4 σ = some v → Ct cfX 70 V yX1_share cX1_share 7 none h2 [.ref (vad V 62), .int x1, .int x2, .int x3, .int x4] σ (0, v)) (hh2 : h2 + 1 ≤ h) (hb : 2 ≤ h) {x1 : Int32} {x2 : Int32} {x3 : Int32} {x4 : Int32} {σ : jS} {v : jS} (hm : bX1_share F f_X1_share x1 x2 x3 x4 σ = some v) : Ct cfX 70 V yX1_share cX1_share 7 none h [.ref (vad V 62), .int x1, .int x2, .int x3, .int x4] σ (0, v) := by
  refine j_start (own := RX1) (by decide) rfl (Nat.le_of_ble_eq_true rfl) ?_
  intro G hV C
  subst hV
  unfold bX1_share at hm
  show JX G 0 [(0, .ref (vad (gV G) 62)), (1, .int x1), (2, .int x2), (3, .int x3), (4, .int x4)] [] σ (0, v)
  refine j_iloadn (pc := 0) C 1 dX1_share_0 rfl rfl ?_
  refine j_if_lt (tgt := 17) (pc := 1) C dX1_share_1 (by decide) hm (fun _ hm => ?_) (fun _ hm => ?_)
  · exact j_vret (pc := 17) C rfl dX1_share_17 hm
  · refine j_iloadn (pc := 4) C 1 dX1_share_4 rfl rfl ?_
    refine j_aloadn (pc := 5) C 0 dX1_share_5 rfl rfl ?_
    refine gf_X1_24 (c := 62) (pc := 6) C kx_62 dX1_share_6 ?_
    refine j_icmp_ge (tgt := 17) (pc := 9) C dX1_share_9 (by decide) hm (fun _ hm => ?_) (fun _ hm => ?_)
    · refine j_iloadn (pc := 12) C 1 dX1_share_12 rfl rfl ?_
      refine j_iconst (v := 5) (pc := 13) C dX1_share_13 (by decide) ?_
      refine j_icmp_lt (tgt := 18) (pc := 14) C dX1_share_14 (by decide) hm (fun _ hm => ?_) (fun _ hm => ?_)
      · refine j_iloadn (pc := 18) C 1 dX1_share_18 rfl rfl ?_
        refine j_aloadn (pc := 19) C 0 dX1_share_19 rfl rfl ?_
        refine gf_X1_24 (c := 62) (pc := 20) C kx_62 dX1_share_20 ?_
        refine j_iconst (v := 1) (pc := 23) C dX1_share_23 (by decide) ?_
        refine j_isub (pc := 24) C dX1_share_24 ?_
        refine j_icmp_ne (tgt := 63) (pc := 25) C dX1_share_25 (by decide) hm (fun _ hm => ?_) (fun _ hm => ?_)
        · refine j_aloadn (pc := 28) C 0 dX1_share_28 rfl rfl ?_
          refine gf_X1_18 (c := 62) (pc := 29) C kx_62 dX1_share_29 ?_
          refine j_iloadn (pc := 32) C 1 dX1_share_32 rfl rfl ?_
          refine j_iloadn (pc := 33) C 2 dX1_share_33 rfl rfl ?_
          refine j_guard hm (fun hg2 hm => ?_)
          refine j_iastL (c := 65) (n := 5) (pc := 34) C (kX_lt kx_65 (by decide)) (cx_a kx_65 lx_65) hg2 dX1_share_34 hm (fun σ1 hm => ?_)
          refine j_iloadn (pc := 35) C 2 dX1_share_35 rfl rfl ?_
          refine j_aloadn (pc := 36) C 0 dX1_share_36 rfl rfl ?_
          refine gf_X1_9 (c := 62) (pc := 37) C kx_62 dX1_share_37 ?_
          refine j_iloadn (pc := 40) C 1 dX1_share_40 rfl rfl ?_
          refine j_guard hm (fun hg3 hm => ?_)
          refine j_iald (c := 63) (n := 5) (pc := 41) C (kX_lt kx_63 (by decide)) (cx_a kx_63 lx_63 _) hg3 dX1_share_41 ?_
          refine j_imul (pc := 42) C dX1_share_42 ?_
          refine j_iloadn (pc := 43) C 3 dX1_share_43 rfl rfl ?_
          refine j_icmp_gt (tgt := 62) (pc := 44) C dX1_share_44 (by decide) hm (fun _ hm => ?_) (fun _ hm => ?_)
          · exact j_vret (pc := 62) C rfl dX1_share_62 hm
          · refine j_aloadn (pc := 47) C 0 dX1_share_47 rfl rfl ?_
            refine j_iload (pc := 48) C 4 dX1_share_48 rfl ?_
            refine j_iloadn (pc := 50) C 2 dX1_share_50 rfl rfl ?_
            refine j_aloadn (pc := 51) C 0 dX1_share_51 rfl rfl ?_
            refine gf_X1_15 (c := 62) (pc := 52) C kx_62 dX1_share_52 ?_
            refine j_iloadn (pc := 55) C 1 dX1_share_55 rfl rfl ?_
            refine j_guard hm (fun hg4 hm => ?_)
            refine j_iald (c := 64) (n := 5) (pc := 56) C (kX_lt kx_64 (by decide)) (cx_a kx_64 lx_64 _) hg4 dX1_share_56 ?_
            refine j_imul (pc := 57) C dX1_share_57 ?_
            refine j_iadd (pc := 58) C dX1_share_58 ?_
            obtain ⟨q5, hq5, hm⟩ := Option.bind_eq_some_iff.mp hm
            refine cl_X1_47 (c := 62) (pc := 59) C kx_62 (kX1_note hq5) (by omega) (Nat.le_of_ble_eq_true rfl) dX1_share_59 ?_
            exact j_vret (pc := 62) C rfl dX1_share_62 hm
        · refine j_iloadn (pc := 63) C 2 dX1_share_63 rfl rfl ?_
          refine j_istore (ls' := [(5, .int x2), (0, .ref (vad (gV G) 62)), (1, .int x1), (2, .int x2), (3, .int x3), (4, .int x4)]) (pc := 64) C dX1_share_64 (by decide) rfl ?_
          refine j_ls [1, 2, 3, 4, 5, 0] rfl ?_
          exact lp_X1_share_66_ok C F f_X1_share hf_X1_share hh2 hb  F _ _ _ _ _ _ hm
      · exact j_vret (pc := 17) C rfl dX1_share_17 hm
    · exact j_vret (pc := 17) C rfl dX1_share_17 hm

def rX1_share (F : Nat) : Nat → Int32 → Int32 → Int32 → Int32 → jS → Option jS
  | 0, _, _, _, _, _ => none
  | d + 1, x1, x2, x3, x4, σ => bX1_share F (rX1_share F d) x1 x2 x3 x4 σ
theorem krX1_share {V : jV} {F : Nat} : ∀ (d : Nat) (x1 x2 x3 x4 : Int32) (σ v : jS), rX1_share F d x1 x2 x3 x4 σ = some v → Ct cfX 70 V yX1_share cX1_share 7 none (2 + d) [.ref (vad V 62), .int x1, .int x2, .int x3, .int x4] σ (0, v) := by
  intro d
  induction d with
  | zero =>
    intro x1 x2 x3 x4 σ v hm
    rw [rX1_share] at hm
    cases hm
  | succ d ih =>
    intro x1 x2 x3 x4 σ v hm
    rw [rX1_share] at hm
    exact kbX1_share (h2 := 2 + d) ih (by omega) (by omega) hm
def mX1_share (F : Nat) (x1 x2 x3 x4 : Int32) (σ : jS) : Option jS := rX1_share F 8 x1 x2 x3 x4 σ
theorem kX1_share {V : jV} {F : Nat} {x1 x2 x3 x4 : Int32} {σ v : jS} (hm : mX1_share F x1 x2 x3 x4 σ = some v) : Ct cfX 70 V yX1_share cX1_share 7 none 10 [.ref (vad V 62), .int x1, .int x2, .int x3, .int x4] σ (0, v) := krX1_share 8 x1 x2 x3 x4 σ v hm
theorem dX1_seek_0 : decode cX1_seek 0 = .ok (.aload_n 0, 1) := by decide +kernel
theorem dX1_seek_1 : decode cX1_seek 1 = .ok (.iload_n 2, 1) := by decide +kernel
theorem dX1_seek_2 : decode cX1_seek 2 = .ok (.iconst 5, 1) := by decide +kernel
theorem dX1_seek_3 : decode cX1_seek 3 = .ok (.invokestatic 31, 3) := by decide +kernel
theorem dX1_seek_6 : decode cX1_seek 6 = .ok (.putfield 24, 3) := by decide +kernel
theorem dX1_seek_9 : decode cX1_seek 9 = .ok (.aload_n 0, 1) := by decide +kernel
theorem dX1_seek_10 : decode cX1_seek 10 = .ok (.iconst (-1), 1) := by decide +kernel
theorem dX1_seek_11 : decode cX1_seek 11 = .ok (.putfield 28, 3) := by decide +kernel
theorem dX1_seek_14 : decode cX1_seek 14 = .ok (.iconst 0, 1) := by decide +kernel
theorem dX1_seek_15 : decode cX1_seek 15 = .ok (.istore 4, 2) := by decide +kernel
theorem dX1_seek_17 : decode cX1_seek 17 = .ok (.iload 4, 2) := by decide +kernel
theorem dX1_seek_19 : decode cX1_seek 19 = .ok (.aload_n 0, 1) := by decide +kernel
theorem dX1_seek_20 : decode cX1_seek 20 = .ok (.getfield 24, 3) := by decide +kernel
theorem dX1_seek_23 : decode cX1_seek 23 = .ok (.if_icmp .ge 41, 3) := by decide +kernel
theorem dX1_seek_26 : decode cX1_seek 26 = .ok (.aload_n 0, 1) := by decide +kernel
theorem dX1_seek_27 : decode cX1_seek 27 = .ok (.getfield 9, 3) := by decide +kernel
theorem dX1_seek_30 : decode cX1_seek 30 = .ok (.iload 4, 2) := by decide +kernel
theorem dX1_seek_32 : decode cX1_seek 32 = .ok (.aload_n 1, 1) := by decide +kernel
theorem dX1_seek_33 : decode cX1_seek 33 = .ok (.iconst 2, 1) := by decide +kernel
theorem dX1_seek_34 : decode cX1_seek 34 = .ok (.iload 4, 2) := by decide +kernel
theorem dX1_seek_36 : decode cX1_seek 36 = .ok (.imul, 1) := by decide +kernel
theorem dX1_seek_37 : decode cX1_seek 37 = .ok (.invokevirtual 37, 3) := by decide +kernel
theorem dX1_seek_40 : decode cX1_seek 40 = .ok (.iastore, 1) := by decide +kernel
theorem dX1_seek_41 : decode cX1_seek 41 = .ok (.aload_n 0, 1) := by decide +kernel
theorem dX1_seek_42 : decode cX1_seek 42 = .ok (.getfield 15, 3) := by decide +kernel
theorem dX1_seek_45 : decode cX1_seek 45 = .ok (.iload 4, 2) := by decide +kernel
theorem dX1_seek_47 : decode cX1_seek 47 = .ok (.aload_n 1, 1) := by decide +kernel
theorem dX1_seek_48 : decode cX1_seek 48 = .ok (.iconst 2, 1) := by decide +kernel
theorem dX1_seek_49 : decode cX1_seek 49 = .ok (.iload 4, 2) := by decide +kernel
theorem dX1_seek_51 : decode cX1_seek 51 = .ok (.imul, 1) := by decide +kernel
theorem dX1_seek_52 : decode cX1_seek 52 = .ok (.iconst 1, 1) := by decide +kernel
theorem dX1_seek_53 : decode cX1_seek 53 = .ok (.iadd, 1) := by decide +kernel
theorem dX1_seek_54 : decode cX1_seek 54 = .ok (.invokevirtual 37, 3) := by decide +kernel
theorem dX1_seek_57 : decode cX1_seek 57 = .ok (.iastore, 1) := by decide +kernel
theorem dX1_seek_58 : decode cX1_seek 58 = .ok (.iinc 4 1, 3) := by decide +kernel
theorem dX1_seek_61 : decode cX1_seek 61 = .ok (.goto (-44), 3) := by decide +kernel
theorem dX1_seek_64 : decode cX1_seek 64 = .ok (.aload_n 0, 1) := by decide +kernel
theorem dX1_seek_65 : decode cX1_seek 65 = .ok (.iconst 0, 1) := by decide +kernel
theorem dX1_seek_66 : decode cX1_seek 66 = .ok (.bipush 24, 2) := by decide +kernel
theorem dX1_seek_68 : decode cX1_seek 68 = .ok (.iload_n 3, 1) := by decide +kernel
theorem dX1_seek_69 : decode cX1_seek 69 = .ok (.iconst 0, 1) := by decide +kernel
theorem dX1_seek_70 : decode cX1_seek 70 = .ok (.invokevirtual 43, 3) := by decide +kernel
theorem dX1_seek_73 : decode cX1_seek 73 = .ok (.return_, 1) := by decide +kernel
def lp_X1_seek_17 (F : Nat) : Nat → Int32 → Int32 → jS → Option jS
  | 0, _, _, _ => none
  | n + 1, x3, x4, σ => (if x4 < (σ 62 4) then (Option.bind (mX10_byteAt F (((2 : Int32) * x4)) σ) fun q3 => (if jin x4 5 = true then (lt (js σ 63 x4.toNatClampNeg q3) fun σ4 => (Option.bind (mX10_byteAt F ((((2 : Int32) * x4) + (1 : Int32))) σ4) fun q6 => (if jin x4 5 = true then (lt (js σ4 64 x4.toNatClampNeg q6) fun σ7 => (lp_X1_seek_17 F n x3 ((x4 + (1 : Int32))) σ7)) else none))) else none)) else (Option.bind (mX1_share F (0 : Int32) (24 : Int32) x3 (0 : Int32) σ) fun q9 => some q9))
set_option maxHeartbeats 4000000 in
set_option maxRecDepth 100000 in
theorem lp_X1_seek_17_ok {G : jG} (C : jc cfX 70 G cX1_seek RX1 5 none 11) (F : Nat) {v : jS} : ∀ (n : Nat) (x3 : Int32) (x4 : Int32) (σ : jS), lp_X1_seek_17 F n x3 x4 σ = some v → JX G 17 [(0, .ref (vad (gV G) 62)), (1, .ref (vad (gV G) 1)), (3, .int x3), (4, .int x4)] [] σ (0, v) := by
  intro n
  induction n with
  | zero =>
    intro x3 x4 σ hm
    rw [lp_X1_seek_17] at hm
    cases hm
  | succ n ih =>
    intro x3 x4 σ hm
    rw [lp_X1_seek_17] at hm
    refine j_iload (pc := 17) C 3 dX1_seek_17 rfl ?_
    refine j_aloadn (pc := 19) C 0 dX1_seek_19 rfl rfl ?_
    refine gf_X1_24 (c := 62) (pc := 20) C kx_62 dX1_seek_20 ?_
    refine j_icmp_ge (tgt := 64) (pc := 23) C dX1_seek_23 (by decide) hm (fun _ hm => ?_) (fun _ hm => ?_)
    · refine j_aloadn (pc := 26) C 0 dX1_seek_26 rfl rfl ?_
      refine gf_X1_9 (c := 62) (pc := 27) C kx_62 dX1_seek_27 ?_
      refine j_iload (pc := 30) C 3 dX1_seek_30 rfl ?_
      refine j_aloadn (pc := 32) C 1 dX1_seek_32 rfl rfl ?_
      refine j_iconst (v := 2) (pc := 33) C dX1_seek_33 (by decide) ?_
      refine j_iload (pc := 34) C 3 dX1_seek_34 rfl ?_
      refine j_imul (pc := 36) C dX1_seek_36 ?_
      obtain ⟨q3, hq3, hm⟩ := Option.bind_eq_some_iff.mp hm
      refine cl_X1_37 (c := 1) (pc := 37) C kx_1 (kX10_byteAt hq3) (by decide) (Nat.le_of_ble_eq_true rfl) dX1_seek_37 ?_
      refine j_guard hm (fun hg5 hm => ?_)
      refine j_iastL (c := 63) (n := 5) (pc := 40) C (kX_lt kx_63 (by decide)) (cx_a kx_63 lx_63) hg5 dX1_seek_40 hm (fun σ4 hm => ?_)
      refine j_aloadn (pc := 41) C 0 dX1_seek_41 rfl rfl ?_
      refine gf_X1_15 (c := 62) (pc := 42) C kx_62 dX1_seek_42 ?_
      refine j_iload (pc := 45) C 3 dX1_seek_45 rfl ?_
      refine j_aloadn (pc := 47) C 1 dX1_seek_47 rfl rfl ?_
      refine j_iconst (v := 2) (pc := 48) C dX1_seek_48 (by decide) ?_
      refine j_iload (pc := 49) C 3 dX1_seek_49 rfl ?_
      refine j_imul (pc := 51) C dX1_seek_51 ?_
      refine j_iconst (v := 1) (pc := 52) C dX1_seek_52 (by decide) ?_
      refine j_iadd (pc := 53) C dX1_seek_53 ?_
      obtain ⟨q6, hq6, hm⟩ := Option.bind_eq_some_iff.mp hm
      refine cl_X1_37 (c := 1) (pc := 54) C kx_1 (kX10_byteAt hq6) (by decide) (Nat.le_of_ble_eq_true rfl) dX1_seek_54 ?_
      refine j_guard hm (fun hg8 hm => ?_)
      refine j_iastL (c := 64) (n := 5) (pc := 57) C (kX_lt kx_64 (by decide)) (cx_a kx_64 lx_64) hg8 dX1_seek_57 hm (fun σ7 hm => ?_)
      refine j_iinc (v := (x4 + (1 : Int32))) (ls' := [(4, .int (x4 + (1 : Int32))), (0, .ref (vad (gV G) 62)), (1, .ref (vad (gV G) 1)), (3, .int x3)]) (pc := 58) C 3 dX1_seek_58 rfl rfl (by decide) rfl ?_
      refine j_goto (tgt := 17) (pc := 61) C dX1_seek_61 (by decide) ?_
      refine j_ls [1, 2, 3, 0] rfl ?_
      exact ih _ _ _ hm
    · refine j_aloadn (pc := 64) C 0 dX1_seek_64 rfl rfl ?_
      refine j_iconst (v := 0) (pc := 65) C dX1_seek_65 (by decide) ?_
      refine j_bipush (v := 24) (pc := 66) C dX1_seek_66 (by decide) ?_
      refine j_iloadn (pc := 68) C 2 dX1_seek_68 rfl rfl ?_
      refine j_iconst (v := 0) (pc := 69) C dX1_seek_69 (by decide) ?_
      obtain ⟨q9, hq9, hm⟩ := Option.bind_eq_some_iff.mp hm
      refine cl_X1_43 (c := 62) (pc := 70) C kx_62 (kX1_share hq9) (by decide) (Nat.le_of_ble_eq_true rfl) dX1_seek_70 ?_
      exact j_vret (pc := 73) C rfl dX1_seek_73 hm

def mX1_seek (F : Nat) (x2 : Int32) (x3 : Int32) (σ : jS) : Option jS := (lt (js σ 62 4 (imin x2 (5 : Int32))) fun σ1 => (lt (js σ1 62 5 (-1 : Int32)) fun σ2 => (lp_X1_seek_17 F F x3 (0 : Int32) σ2)))
set_option maxHeartbeats 4000000 in
set_option maxRecDepth 100000 in
theorem kX1_seek {V : jV} {F : Nat} {x2 : Int32} {x3 : Int32} {σ : jS} {v : jS} (hm : mX1_seek F x2 x3 σ = some v) : Ct cfX 70 V yX1_seek cX1_seek 5 none 11 [.ref (vad V 62), .ref (vad V 1), .int x2, .int x3] σ (0, v) := by
  refine j_start (own := RX1) (by decide) rfl (Nat.le_of_ble_eq_true rfl) ?_
  intro G hV C
  subst hV
  unfold mX1_seek at hm
  show JX G 0 [(0, .ref (vad (gV G) 62)), (1, .ref (vad (gV G) 1)), (2, .int x2), (3, .int x3)] [] σ (0, v)
  refine j_aloadn (pc := 0) C 0 dX1_seek_0 rfl rfl ?_
  refine j_iloadn (pc := 1) C 2 dX1_seek_1 rfl rfl ?_
  refine j_iconst (v := 5) (pc := 2) C dX1_seek_2 (by decide) ?_
  refine j_mminD (pc := 3) C tw_4_206 tw_2_162 tw_1_14 tw_2_163 (by decide) (Nat.le_of_ble_eq_true rfl) dX1_seek_3 ?_
  refine pf_X1_24 (c := 62) (pc := 6) C kx_62 dX1_seek_6 hm (fun σ1 hm => ?_)
  refine j_aloadn (pc := 9) C 0 dX1_seek_9 rfl rfl ?_
  refine j_iconst (v := -1) (pc := 10) C dX1_seek_10 (by decide) ?_
  refine pf_X1_28 (c := 62) (pc := 11) C kx_62 dX1_seek_11 hm (fun σ2 hm => ?_)
  refine j_iconst (v := 0) (pc := 14) C dX1_seek_14 (by decide) ?_
  refine j_istore (ls' := [(4, .int (0 : Int32)), (0, .ref (vad (gV G) 62)), (1, .ref (vad (gV G) 1)), (2, .int x2), (3, .int x3)]) (pc := 15) C dX1_seek_15 (by decide) rfl ?_
  refine j_ls [1, 2, 4, 0] rfl ?_
  exact lp_X1_seek_17_ok C F  F _ _ _ hm

