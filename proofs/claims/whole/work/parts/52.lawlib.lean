abbrev lG : Type := (Program × Env × State × MethodId × List Frame × Method × Code) × (Nat × Nat × (Nat → Int32)) × jV × (Nat → Nat)
abbrev lp (G : lG) : Program := G.1.1
abbrev le (G : lG) : Env := G.1.2.1
abbrev lS (G : lG) : State := G.1.2.2.1
abbrev lm (G : lG) : MethodId := G.1.2.2.2.1
abbrev lbl (G : lG) : List Frame := G.1.2.2.2.2.1
abbrev lh (G : lG) : Method := G.1.2.2.2.2.2.1
abbrev lcd (G : lG) : Code := G.1.2.2.2.2.2.2
abbrev lb (G : lG) : Nat := G.2.1.1
abbrev lL (G : lG) : Nat := G.2.1.2.1
abbrev lx (G : lG) : Nat → Int32 := G.2.1.2.2
abbrev l1 (G : lG) : jV := G.2.2.1
abbrev l2 (G : lG) : jV := (vl (l1 G), vD (l1 G), G.2.2.2, (vcI (l1 G), vcB (l1 G)), vak (l1 G), vav (l1 G))
abbrev lA (G : lG) : Nat → Prop := fun q => (lS G).heap.size ≤ q
def lJ (G : lG) (pc : Nat) (ls : jL) (st : List Value) (σ τ : jS) : Prop :=
  ∀ (H : Heap) (locs : List Loc) (la : Array Slot), va_P (vD (l1 G)) vwCl (wd cfX 70 (l1 G) σ) H → va_P (vD (l1 G)) vwCl (wd cfM 33 (l2 G) τ) H → va_S (lA G) (lS G).heap H locs → lv_has la 4 ls →
    W (lp G) (vl (l1 G)) (le G) room_1 (lS G) (lm G) #[Value.ref (lb G)] (lbl G) (lh G) (lcd G) H locs 600000 7302250 (lw_Z (lbl G) #[Value.ref (lb G)] (lS G)) (F0 (lm G) pc la st)
def lc (G : lG) : Prop := (lp G).tables.exec = Jvm.exec ∧ (lcd G).code = cL_law ∧ (lh G).sig.returnType = ret ∧ (lcd G).maxLocals = 4 ∧ (lS G).vm.findClass RL = some (lm G).cls ∧ (∀ w ∈ jT, w.before #[Value.ref (lb G)] (lS G) = true) ∧ va_X (lb G) (lL G) (lx G) (lS G) (lS G).heap ∧ lb G < (lS G).heap.size ∧ (lh G).locks = false ∧ va_K (vD (l1 G)) vwCl (jtys (l1 G)) (lS G) ∧ (∀ σ, va_D (lA G) (wd cfX 70 (l1 G) σ)) ∧ (∀ τ, va_D (lA G) (wd cfM 33 (l2 G) τ)) ∧ (∀ i j, i < 70 → j < 33 → vad (l1 G) i ≠ vad (l2 G) j) ∧ (∀ w ∈ jN, va_Nw w (lS G)) ∧ jE (l1 G) (lA G) (lS G) (lS G).heap
section LROWS
variable {G : lG} {pc : Nat} {ls : jL} {st : List Value} {σ τ : jS}
theorem l_iconst (C : lc G) {n : Int} {v : Int32} (hdg : decode cL_law pc = .ok (.iconst n, 1)) (hv : Int32.ofInt n = v) (kk : lJ G (pc + 1) ls (.int v :: st) σ τ) : lJ G pc ls st σ τ := fun H locs la hP hQ hS hL => lv_iconst C.1 C.2.1 hdg hv (kk H locs la hP hQ hS hL)
theorem l_bipush (C : lc G) {n : Int} {v : Int32} (hdg : decode cL_law pc = .ok (.bipush n, 2)) (hv : (Int8.ofInt n).toInt32 = v) (kk : lJ G (pc + 2) ls (.int v :: st) σ τ) : lJ G pc ls st σ τ := fun H locs la hP hQ hS hL => lv_bipush C.1 C.2.1 hdg hv (kk H locs la hP hQ hS hL)
theorem l_iload (C : lc G) {n : Fin 4} {i : Nat} {x : Int32} (k : Nat) (hdg : decode cL_law pc = .ok (.iload_n n, 1)) (hi : (n : Nat) = i) (hk : ls[k]? = some (i, .int x)) (kk : lJ G (pc + 1) ls (.int x :: st) σ τ) : lJ G pc ls st σ τ := fun H locs la hP hQ hS hL => lv_iload_n C.1 C.2.1 hdg hi (lv_at hL k hk) (kk H locs la hP hQ hS hL)
theorem l_aload (C : lc G) {n : Fin 4} {i : Nat} {x : Nat} (k : Nat) (hdg : decode cL_law pc = .ok (.aload_n n, 1)) (hi : (n : Nat) = i) (hk : ls[k]? = some (i, .ref x)) (kk : lJ G (pc + 1) ls (.ref x :: st) σ τ) : lJ G pc ls st σ τ := fun H locs la hP hQ hS hL => lv_aload_n C.1 C.2.1 hdg hi (lv_at hL k hk) (kk H locs la hP hQ hS hL)
theorem l_iadd (C : lc G) {x y : Int32} (hdg : decode cL_law pc = .ok (.iadd, 1)) (kk : lJ G (pc + 1) ls (.int (x + y) :: st) σ τ) : lJ G pc ls (.int y :: .int x :: st) σ τ := fun H locs la hP hQ hS hL => lv_iadd C.1 C.2.1 hdg (kk H locs la hP hQ hS hL)
theorem l_isub (C : lc G) {x y : Int32} (hdg : decode cL_law pc = .ok (.isub, 1)) (kk : lJ G (pc + 1) ls (.int (x - y) :: st) σ τ) : lJ G pc ls (.int y :: .int x :: st) σ τ := fun H locs la hP hQ hS hL => lv_isub C.1 C.2.1 hdg (kk H locs la hP hQ hS hL)
theorem l_iand (C : lc G) {x y : Int32} (hdg : decode cL_law pc = .ok (.iand, 1)) (kk : lJ G (pc + 1) ls (.int (x &&& y) :: st) σ τ) : lJ G pc ls (.int y :: .int x :: st) σ τ := fun H locs la hP hQ hS hL => lv_iand C.1 C.2.1 hdg (kk H locs la hP hQ hS hL)
theorem l_not (C : lc G) : ¬ lA G (lb G) := Nat.not_le.mpr C.2.2.2.2.2.2.2.1
theorem l_sld (C : lc G) {i : Int32} (hin : vp_in i (lL G)) (hdg : decode cL_law pc = .ok (.iaload, 1)) (kk : lJ G (pc + 1) ls (.int (lx G i.toNatClampNeg) :: st) σ τ) : lJ G pc ls (.int i :: .ref (lb G) :: st) σ τ := fun H locs la hP hQ hS hL => va_sld C.1 C.2.1 C.2.2.2.2.2.2.1 C.2.2.2.2.2.2.2.1 (l_not C) hS hin hdg (kk H locs la hP hQ hS hL)
theorem l_slen (C : lc G) (hdg : decode cL_law pc = .ok (.arraylength, 1)) (kk : lJ G (pc + 1) ls (.int (nI (lL G)) :: st) σ τ) : lJ G pc ls (.ref (lb G) :: st) σ τ := fun H locs la hP hQ hS hL => va_slen C.1 C.2.1 C.2.2.2.2.2.2.1 C.2.2.2.2.2.2.2.1 (l_not C) hS hdg (kk H locs la hP hQ hS hL)
theorem l_gt (C : lc G) {x y : Int32} {off : Int} {tgt : Nat} (hdg : decode cL_law pc = .ok (.if_icmp .gt off, 3)) (ht : (pc : Int) + off = (tgt : Int)) (kt : y < x → lJ G tgt ls st σ τ) (kf : ¬ y < x → lJ G (pc + 3) ls st σ τ) : lJ G pc ls (.int y :: .int x :: st) σ τ := fun H locs la hP hQ hS hL => lv_icmp_gt C.1 C.2.1 hdg ht (fun c => kt c H locs la hP hQ hS hL) (fun c => kf c H locs la hP hQ hS hL)
theorem l_same (C : lc G) {x : Int32} {off : Int} {tgt : Nat} (hdg : decode cL_law pc = .ok (.if_icmp .eq off, 3)) (ht : (pc : Int) + off = (tgt : Int)) (kt : lJ G tgt ls st σ τ) : lJ G pc ls (.int x :: .int x :: st) σ τ := fun H locs la hP hQ hS hL => lv_icmp_eq C.1 C.2.1 hdg ht (fun _ => kt H locs la hP hQ hS hL) (fun c => absurd rfl c)
theorem l_goto (C : lc G) {off : Int} {tgt : Nat} (hdg : decode cL_law pc = .ok (.goto off, 3)) (ht : (pc : Int) + off = (tgt : Int)) (kk : lJ G tgt ls st σ τ) : lJ G pc ls st σ τ := fun H locs la hP hQ hS hL => lv_goto C.1 C.2.1 hdg ht (kk H locs la hP hQ hS hL)
theorem l_iinc (C : lc G) {i : Nat} {n : Int} {x v : Int32} {ls' : jL} (k : Nat) (hdg : decode cL_law pc = .ok (.iinc i n, 3)) (hk : ls[k]? = some (i, .int x)) (hv : x + Int32.ofInt n = v) (hn : i < 4) (hl : (i, Value.int v) :: ls.filter (fun q => !(q.1 == i) && !(q.1 + 1 == i && q.2.category == 2)) = ls') (kk : lJ G (pc + 3) ls' st σ τ) : lJ G pc ls st σ τ := fun H locs la hP hQ hS hL => lv_iinc C.1 C.2.1 hdg hL hk hv hn hl (fun la hL => kk H locs la hP hQ hS hL)
theorem l_ls {ls' : jL} (ks : List Nat) (hl : lv_pick ls ks = ls') (kk : lJ G pc ls' st σ τ) : lJ G pc ls st σ τ := fun H locs la hP hQ hS hL => kk H locs la hP hQ hS (lv_sub hL ks hl)
theorem l_sw (C : lc G) {dflt lo hi : Int} {offs : Array Int} {len : Nat} {x b : Int32} {off : Int} {tgt : Nat} (hdg : decode cL_law pc = .ok (.tableswitch dflt lo hi offs, len)) (hx : x = b) (h1 : ¬ b.toInt < lo) (h2 : ¬ hi < b.toInt) (ho : offs[(b.toInt - lo).toNat]? = some off) (ht : (pc : Int) + off = (tgt : Int)) (kk : lJ G tgt ls st σ τ) : lJ G pc ls (.int x :: st) σ τ := by
  subst hx
  exact fun H locs la hP hQ hS hL => lv_tableIn C.1 C.2.1 hdg h1 h2 ho ht (kk H locs la hP hQ hS hL)
theorem l_ret (C : lc G) (hdg : decode cL_law pc = .ok (.ireturn, 1)) : lJ G pc ls [.int 1] σ τ := fun H locs la hP hQ hS hL => va_forget hS.2.2 (lw_ret C.1 C.2.1 C.2.2.1 C.2.2.2.2.2.2.2.2.1 hdg)
theorem l_free1 (C : lc G) {H : Heap} {locs : List Loc} (hS : va_S (lA G) (lS G).heap H locs) : ∀ q, va_A (wd cfX 70 (l1 G) σ) H.size q → lA G q := by
  intro q hq
  rcases hq with ⟨k, e, hq⟩ | hq
  · exact (C.2.2.2.2.2.2.2.2.2.2.1 σ).2 k _ hq
  · exact Nat.le_trans hS.1 hq
theorem l_free2 (C : lc G) {H : Heap} {locs : List Loc} (hS : va_S (lA G) (lS G).heap H locs) : ∀ q, va_A (wd cfM 33 (l2 G) τ) H.size q → lA G q := by
  intro q hq
  rcases hq with ⟨k, e, hq⟩ | hq
  · exact (C.2.2.2.2.2.2.2.2.2.2.2.1 τ).2 k _ hq
  · exact Nat.le_trans hS.1 hq
theorem l_keep {V W : jV} {cf cg : jF} {n k : Nat} {σ τ : jS} {H H1 : Heap} (hap : ∀ i j, i < n → j < k → vad V i ≠ vad W j) (hQ : va_P (vD V) vwCl (wd cg k W τ) H) (hk : ∀ q : Nat, q < H.size → ¬ va_A (wd cf n V σ) H.size q → H1[q]? = H[q]?) : va_P (vD V) vwCl (wd cg k W τ) H1 := by
  intro j q hq
  obtain ⟨hj, rfl⟩ := wd_of hq
  have hl := (hQ j _ hq).lt
  refine (hQ j _ hq).kept (hk _ hl ?_)
  intro hA
  rcases hA with ⟨i, e, hi⟩ | hA
  · obtain ⟨hi1, hi2⟩ := wd_of hi
    exact hap i j hi1 hj (congrArg Prod.fst hi2).symm
  · exact absurd hl (Nat.not_lt.mpr hA)
theorem l_words {y : MethodName} {bytes : ByteArray} {m' i : Nat} {C0 : String} {ret : Option FieldType} (w1 : Cond.methodLink RL i y ∈ jT) (w2 : Cond.instanceMethod y ∈ jT) (w3 : Cond.selects C0 y y ∈ jT) (w4 : Cond.initialized C0 ∈ jT) (w5 : Cond.code y bytes m' ret ∈ jT) : GoodIn jT (wsV RL i C0 y (Cond.code y bytes m' ret :: jT)) := by
  intro w hw
  rcases List.mem_append.mp hw with hw | hw
  · have hw2 : w ∈ jT := by
      simp only [List.mem_cons, List.not_mem_nil, or_false] at hw
      rcases hw with rfl | rfl | rfl | rfl
      · exact w1
      · exact w2
      · exact w3
      · exact w4
    exact ⟨hw2, jT_good hw2⟩
  · exact jwords (own := RL) w5 w hw
theorem l_room {h' m' : Nat} (hh : h' ≤ 100) (hm : m' ≤ 41) : (jrm h').frames + 1 ≤ room_1.frames ∧ 8 + (m' + 11) + (jrm h').locals ≤ room_1.locals := by
  constructor
  · show h' + 1 ≤ 2048
    omega
  · show 8 + (m' + 11) + 60 * h' ≤ 84000
    omega
theorem l_pre1 (C : lc G) {H : Heap} {locs : List Loc} {as : List Value} (hP : va_P (vD (l1 G)) vwCl (wd cfX 70 (l1 G) σ) H) (hS : va_S (lA G) (lS G).heap H locs) : ∀ U : State, U.heap = H → (lS G).WarmedH U.vm → jpre cfX 70 (l1 G) as σ H.size as.toArray U := by
  intro U hU hW
  subst hU
  exact ⟨rfl, rfl, hP, va_K.moved hW.alike C.2.2.2.2.2.2.2.2.2.1, (C.2.2.2.2.2.2.2.2.2.2.1 σ).weaken (fun _ _ _ _ => trivial), jN_warm hW C.2.2.2.2.2.2.2.2.2.2.2.2.2.1, jE_to C.2.2.2.2.2.2.2.2.2.2.2.2.2.2 hS hW (l_free1 C hS)⟩
theorem l_pre2 (C : lc G) {H : Heap} {locs : List Loc} {as : List Value} (hQ : va_P (vD (l1 G)) vwCl (wd cfM 33 (l2 G) τ) H) (hS : va_S (lA G) (lS G).heap H locs) : ∀ U : State, U.heap = H → (lS G).WarmedH U.vm → jpre cfM 33 (l2 G) as τ H.size as.toArray U := by
  intro U hU hW
  subst hU
  exact ⟨rfl, rfl, hQ, va_K.moved hW.alike C.2.2.2.2.2.2.2.2.2.1, (C.2.2.2.2.2.2.2.2.2.2.2.1 τ).weaken (fun _ _ _ _ => trivial), jN_warm hW C.2.2.2.2.2.2.2.2.2.2.2.2.2.1, jE_to (V := l2 G) C.2.2.2.2.2.2.2.2.2.2.2.2.2.2 hS hW (l_free2 C hS)⟩
theorem l_callX (C : lc G) {y : MethodName} {bytes : ByteArray} {m' h' n i : Nat} {ty : FieldType} {as : List Value} {r : Int32 × jS} (hM : Ct cfX 70 (l1 G) y bytes m' (some ty) h' (.ref (vad (l1 G) 0) :: as) σ r) (w1 : Cond.methodLink RL i y ∈ jT) (w2 : Cond.instanceMethod y ∈ jT) (w3 : Cond.selects RX11 y y ∈ jT) (w4 : Cond.initialized RX11 ∈ jT) (w5 : Cond.code y bytes m' (some ty) ∈ jT) (hd : y.cls = RX11 ∧ y.cls ≠ "java/lang/invoke/MethodHandle" ∧ y.cls ≠ "java/lang/invoke/VarHandle" ∧ (parseMethodDescriptor y.desc).map (fun d => d.parameters.length) = some n) (hh : h' ≤ 100) (hm' : m' ≤ 41) (hn : as.length = n) (hr : (st.map fun v => v.category).sum ≤ 8) (hdg : decode cL_law pc = .ok (.invokevirtual i, 3)) (kk : lJ G (pc + 3) ls (.int r.1 :: st) r.2 τ) : lJ G pc ls (as.reverse ++ .ref (vad (l1 G) 0) :: st) σ τ := by
  intro H locs la hP hQ hS hL
  refine va_calli (a := (.ref (vad (l1 G) 0) :: as : List Value).toArray) (post := fun r1 (_ : Unit) => r1 = r.1) (B := fun _ => jend cfX 70 (l1 G) (va_A (wd cfX 70 (l1 G) σ) H.size) r.2) (va_runV (nL := 4) ⟨C.1, C.2.1, C.2.2.2.1, C.2.2.2.2.1, C.2.2.2.2.2.1⟩ (hM H.size) (cwV n C.2.2.2.2.2.1 (l_words w1 w2 w3 w4 w5) rfl rfl rfl hd (l_room hh hm')) ⟨jpre_blind, va_recv (ci := 11) (q0 := 0) C.2.2.2.2.2.2.2.2.2.1 hP rfl (by rw [wd_at (by decide), cx_11 kx_0]), l_pre1 C hP hS⟩ rfl hn hL.1 rfl (lv_room hr) hdg ⟨Nat.le_of_ble_eq_true rfl, Nat.le_of_ble_eq_true rfl⟩) hS (fun q _ hq => l_free1 C hS q hq) (l_free1 C hS) (fun r1 u t H1 locs1 ht hvm hw hB hz1 hk1 hS1 => ?_)
  obtain ⟨hP1, -, -⟩ := hB
  rw [ht] at hP1
  rw [hw]
  exact kk H1 locs1 la hP1 (l_keep (V := l1 G) C.2.2.2.2.2.2.2.2.2.2.2.2.1 hQ hk1) hS1 hL
theorem l_callM (C : lc G) {y : MethodName} {bytes : ByteArray} {m' h' n i : Nat} {ty : FieldType} {as : List Value} {r : Int32 × jS} (hM : Ct cfM 33 (l2 G) y bytes m' (some ty) h' (.ref (vad (l2 G) 0) :: as) τ r) (w1 : Cond.methodLink RL i y ∈ jT) (w2 : Cond.instanceMethod y ∈ jT) (w3 : Cond.selects RX12 y y ∈ jT) (w4 : Cond.initialized RX12 ∈ jT) (w5 : Cond.code y bytes m' (some ty) ∈ jT) (hd : y.cls = RX12 ∧ y.cls ≠ "java/lang/invoke/MethodHandle" ∧ y.cls ≠ "java/lang/invoke/VarHandle" ∧ (parseMethodDescriptor y.desc).map (fun d => d.parameters.length) = some n) (hh : h' ≤ 100) (hm' : m' ≤ 41) (hn : as.length = n) (hr : (st.map fun v => v.category).sum ≤ 8) (hdg : decode cL_law pc = .ok (.invokevirtual i, 3)) (kk : lJ G (pc + 3) ls (.int r.1 :: st) σ r.2) : lJ G pc ls (as.reverse ++ .ref (vad (l2 G) 0) :: st) σ τ := by
  intro H locs la hP hQ hS hL
  refine va_calli (a := (.ref (vad (l2 G) 0) :: as : List Value).toArray) (post := fun r1 (_ : Unit) => r1 = r.1) (B := fun _ => jend cfM 33 (l2 G) (va_A (wd cfM 33 (l2 G) τ) H.size) r.2) (va_runV (nL := 4) ⟨C.1, C.2.1, C.2.2.2.1, C.2.2.2.2.1, C.2.2.2.2.2.1⟩ (hM H.size) (cwV n C.2.2.2.2.2.1 (l_words w1 w2 w3 w4 w5) rfl rfl rfl hd (l_room hh hm')) ⟨jpre_blind, va_recv (ci := 12) (q0 := 0) C.2.2.2.2.2.2.2.2.2.1 hQ rfl (by rw [wd_at (by decide), cm_12 km_0]), l_pre2 C hQ hS⟩ rfl hn hL.1 rfl (lv_room hr) hdg ⟨Nat.le_of_ble_eq_true rfl, Nat.le_of_ble_eq_true rfl⟩) hS (fun q _ hq => l_free2 C hS q hq) (l_free2 C hS) (fun r1 u t H1 locs1 ht hvm hw hB hz1 hk1 hS1 => ?_)
  obtain ⟨hQ1, -, -⟩ := hB
  rw [ht] at hQ1
  rw [hw]
  exact kk H1 locs1 la (l_keep (V := l2 G) (W := l1 G) (fun i j hi hj e => C.2.2.2.2.2.2.2.2.2.2.2.2.1 j i hj hi e.symm) hP hk1) hQ1 hS1 hL
end LROWS
