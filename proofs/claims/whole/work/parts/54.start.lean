/-! the law's beginning: the same rows over its own frame -/
def jQ (G : jG) (Q : State → Prop) (ws : va_W) (pc : Nat) (ls : jL) (st : List Value) (cells slots : Nat) : Prop :=
  ∀ (H : Heap) (locs : List Loc) (la : Array Slot), va_P (vD (gV G)) vwCl ws H → va_D (gA G) ws → va_S (gA G) (gs G).heap H locs → lv_has la (gn G) ls →
    W (gp G) (vl (gV G)) (ge G) (gR G) (gs G) (gm G) (ga G) (gb G) (gh G) (gc G) H locs cells slots Q (F0 (gm G) pc la st)
def nc (G : jG) (cc : ByteArray) (own : String) (mL h mc ms : Nat) : Prop :=
  (gp G).tables.exec = Jvm.exec ∧ (gc G).code = cc ∧ (gc G).maxLocals = gn G ∧ (gs G).vm.findClass own = some (gm G).cls ∧ (∀ w ∈ jT, w.before (ga G) (gs G) = true) ∧ True ∧ gn G = mL ∧ (gh G).locks = false ∧ va_K (vD (gV G)) vwCl (jtys (gV G)) (gs G) ∧ (∀ q, (gs G).heap.size ≤ q → gA G q) ∧ (∀ w ∈ jN, va_Nw w (gs G)) ∧ True ∧ ((gR G).cells = mc ∧ (gR G).slots = ms ∧ h ≤ (gR G).frames ∧ 60 * h ≤ (gR G).locals)
section NROWS
variable {G : jG} {Q : State → Prop} {cc : ByteArray} {own : String} {mL h mc ms : Nat} {ws : va_W} {pc : Nat} {ls : jL} {st : List Value} {cells slots : Nat}
theorem n_iconst (C : nc G cc own mL h mc ms) {n : Int} {v : Int32} (hdg : decode cc pc = .ok (.iconst n, 1)) (hv : Int32.ofInt n = v) (kk : jQ G Q ws (pc + 1) ls (.int v :: st) cells slots) : jQ G Q ws (pc) ls st cells slots := fun H locs la hP hD hS hL => lv_iconst C.1 C.2.1 hdg hv (kk H locs la hP hD hS hL)
theorem n_dup (C : nc G cc own mL h mc ms) {va : Value} (hdg : decode cc pc = .ok (.dup, 1)) (hva : va.category = 1) (kk : jQ G Q ws (pc + 1) ls (va :: va :: st) cells slots) : jQ G Q ws (pc) ls (va :: st) cells slots := fun H locs la hP hD hS hL => lv_dup C.1 C.2.1 hdg hva (kk H locs la hP hD hS hL)
theorem n_new (C : nc G cc own mL h mc ms) {ci nf i : Nat} {T : u_T} {C0 : String} {fs : List Value} {ws' : Nat → va_W} (ty : Nat → FieldType) (hty : ∀ k, k < nf → parseFieldDescriptor (T k).2.2.1 = some (ty k)) (hin : ∀ w ∈ u_ws C0 T nf, w ∈ jT) (w1 : Cond.classLink own i C0 ∈ jT) (w2 : Cond.instantiable C0 nf ∈ jT) (w3 : Cond.initialized C0 ∈ jT) (hcl : vwCl[ci]? = some (C0, T, nf)) (hfs : ∀ j, j < nf → defaultValue (ty j) = vp_V fs j) (hc : cells + 1 ≤ mc) (hs : slots + nf ≤ ms) (hws : ∀ q, ws ++ [(q, .inr (ci, fs))] = ws' q) (hdg : decode cc pc = .ok (.new i, 3)) (kk : ∀ q, jQ G Q (ws' q) (pc + 3) ls (.ref q :: st) (cells + 1) (slots + nf)) : jQ G Q ws pc ls st cells slots := by
  intro H locs la hP hD hS hL
  refine va_new C.1 C.2.1 C.2.2.2.2.1 hin ty hty C.2.2.2.1 (C.2.2.2.2.1 _ w1) (C.2.2.2.2.1 _ w2) (C.2.2.2.2.1 _ w3) C.2.2.2.2.2.2.2.2.1 hP hD hS C.2.2.2.2.2.2.2.2.2.1 hcl hfs (by rw [C.2.2.2.2.2.2.2.2.2.2.2.2.1]; exact hc) (by rw [C.2.2.2.2.2.2.2.2.2.2.2.2.2.1]; exact hs) hdg (fun q H1 hP1 hD1 hS1 => ?_)
  rw [hws q] at hP1 hD1
  exact kk q H1 locs la hP1 hD1 hS1 hL
theorem n_call (C : nc G cc own mL h mc ms) {wr : va_W} {a : Nat} {e0 : va_E} {as : List Value} {mc' ms' : Nat} {Wd : (Nat → Nat) → va_W} {ws' : (Nat → Nat) → va_W} {st0 : List Value} (hrun : ∀ (H : Heap) (locs : List Loc) (la : Array Slot), va_P (vD (gV G)) vwCl [(a, e0)] H → va_D (gA G) (wr ++ [(a, e0)]) → va_S (gA G) (gs G).heap H locs → lv_has la (gn G) ls → va_Run (gp G) (vl (gV G)) (ge G) (gR G) (gs G) (gm G) (ga G) (gb G) (gh G) (gc G) H locs cells slots mc' ms' (F0 (gm G) pc la st0) st (va_Qv (fun _ : Nat → Nat => True) (kend (gV G) (va_A [(a, e0)] H.size) Wd) (va_A [(a, e0)] H.size) (.ref a :: as).toArray) (va_A [(a, e0)] H.size)) (hw0 : ws = wr ++ [(a, e0)]) (hws : ∀ q, wr ++ Wd q = ws' q) (kk : ∀ q, jQ G Q (ws' q) (pc + 3) ls st (cells + mc') (slots + ms')) : jQ G Q ws pc ls st0 cells slots := by
  subst hw0
  intro H locs la hP hD hS hL
  have hlast : (wr ++ [(a, e0)])[wr.length]? = some (a, e0) := k_last
  have hP0 : va_P (vD (gV G)) vwCl [(a, e0)] H := by
    intro k q hk
    match k, hk with
    | 0, hk => cases hk; exact hP wr.length _ hlast
    | k + 1, hk => simp at hk
  have hfree : ∀ q, va_A [(a, e0)] H.size q → gA G q := by
    intro q hq
    rcases hq with ⟨k, e, hq⟩ | hq
    · match k, hq with
      | 0, hq => cases hq; exact hD.2 wr.length _ hlast
      | k + 1, hq => simp at hq
    · exact C.2.2.2.2.2.2.2.2.2.1 q (Nat.le_trans hS.1 hq)
  refine va_callv (a := (.ref a :: as : List Value).toArray) (hrun H locs la hP0 hD hS hL) hS (fun q _ hq => hfree q hq) hfree (fun u t H1 locs1 ht hvm hw hB hz1 hk1 hS1 => ?_)
  obtain ⟨hP1, -, hD1⟩ := hB
  rw [ht] at hP1
  have hin : ∀ (i : Nat) (q : Nat × va_E), wr[i]? = some q → i < wr.length ∧ (wr ++ [(a, e0)])[i]? = some q := by
    intro i q hi
    have hl := (List.getElem?_eq_some_iff.mp hi).1
    exact ⟨hl, by rw [List.getElem?_append_left hl]; exact hi⟩
  have hap : ∀ (i : Nat) (q : Nat × va_E), wr[i]? = some q → q.1 < H.size ∧ ¬ va_A [(a, e0)] H.size q.1 := by
    intro i q hi
    obtain ⟨h1, h2⟩ := hin i q hi
    have hl := (hP i q h2).lt
    refine ⟨hl, fun hA => ?_⟩
    rcases hA with ⟨k, e, hA⟩ | hA
    · match k, hA with
      | 0, hA =>
        cases hA
        have := hD.1 i wr.length q _ h2 hlast rfl
        omega
      | k + 1, hA => simp at hA
    · omega
  have hPn : va_P (vD (gV G)) vwCl (wr ++ Wd u) H1 := va_P.app (fun i q hi => (hP i q (hin i q hi).2).kept (hk1 _ (hap i q hi).1 (hap i q hi).2)) hP1
  have hDn : va_D (gA G) (wr ++ Wd u) := va_D.app ⟨fun i j p q hi hj e => hD.1 i j p q (hin i p hi).2 (hin j q hj).2 e, fun i q hi => hD.2 i q (hin i q hi).2⟩ (hD1.weaken (fun _ q _ hq => hfree q.1 hq)) (fun i j x y hx hy e => (hap i x hx).2 (by rw [e]; exact hD1.2 j y hy))
  rw [hws u] at hPn hDn
  exact kk u H1 locs1 la hPn hDn hS1 hL
theorem n_pre (C : nc G cc own mL h mc ms) {a : Nat} {e0 : va_E} {wr : va_W} {as : List Value} {H : Heap} (hP : va_P (vD (gV G)) vwCl [(a, e0)] H) (hD : va_D (gA G) (wr ++ [(a, e0)])) : ∀ U : State, U.heap = H → (gs G).WarmedH U.vm → kpre (gV G) as a e0 H.size (.ref a :: as).toArray U := by
  intro U hU hW
  subst hU
  refine ⟨rfl, rfl, hP, va_K.moved hW.alike C.2.2.2.2.2.2.2.2.1, ⟨fun i j p q hi hj _ => ?_, fun _ _ _ => trivial⟩, jN_warm hW C.2.2.2.2.2.2.2.2.2.2.1⟩
  match i, j, hi, hj with
  | 0, 0, _, _ => rfl
  | i + 1, _, hi, _ => simp at hi
  | 0, j + 1, _, hj => simp at hj
theorem n_runI (C : nc G cc own mL h mc ms) {wr : va_W} {y : MethodName} {bytes : ByteArray} {m' h' n i mc' ms' a : Nat} {e0 : va_E} {as : List Value} {Wd : (Nat → Nat) → va_W} (hM : Kt (gV G) y bytes m' h' mc' ms' a as e0 Wd) (w1 : Cond.methodLink own i y ∈ jT) (w2 : Cond.instanceMethod y ∈ jT) (w4 : Cond.initialized y.cls ∈ jT) (w5 : Cond.code y bytes m' none ∈ jT) (hy : y.name = "<init>") (hd : y.cls ≠ "java/lang/invoke/MethodHandle" ∧ y.cls ≠ "java/lang/invoke/VarHandle" ∧ (parseMethodDescriptor y.desc).map (fun d => d.parameters.length) = some n) (hh : h' + 1 ≤ h) (hm' : m' ≤ 41) (hn : as.length = n) (hr : (st.map fun v => v.category).sum ≤ 8) (hf : cells + mc' ≤ mc ∧ slots + ms' ≤ ms) (hdg : decode cc pc = .ok (.invokespecial i, 3)) : ∀ (H : Heap) (locs : List Loc) (la : Array Slot), va_P (vD (gV G)) vwCl [(a, e0)] H → va_D (gA G) (wr ++ [(a, e0)]) → va_S (gA G) (gs G).heap H locs → lv_has la (gn G) ls → va_Run (gp G) (vl (gV G)) (ge G) (gR G) (gs G) (gm G) (ga G) (gb G) (gh G) (gc G) H locs cells slots mc' ms' (F0 (gm G) pc la (as.reverse ++ .ref a :: st)) st (va_Qv (fun _ : Nat → Nat => True) (kend (gV G) (va_A [(a, e0)] H.size) Wd) (va_A [(a, e0)] H.size) (.ref a :: as).toArray) (va_A [(a, e0)] H.size) := by
  intro H locs la hP hD hS hL
  exact va_runI (nL := gn G) (Ts := jT) ⟨C.1, C.2.1, C.2.2.1, C.2.2.2.1, C.2.2.2.2.1⟩ (hM H.size) (cwI n C.2.2.2.2.1 (jwords (own := own) w5) rfl rfl rfl (C.2.2.2.2.1 _ w4) (C.2.2.2.2.1 _ w1) (C.2.2.2.2.1 _ w2) hy hd ⟨Nat.le_trans hh C.2.2.2.2.2.2.2.2.2.2.2.2.2.2.1, Nat.le_trans (by show 8 + (m' + 11) + 60 * h' ≤ 60 * h; omega) C.2.2.2.2.2.2.2.2.2.2.2.2.2.2.2⟩) ⟨kpre_blind, n_pre C hP hD⟩ rfl hn hL.1 rfl (lv_room hr) hdg (by rw [C.2.2.2.2.2.2.2.2.2.2.2.2.1, C.2.2.2.2.2.2.2.2.2.2.2.2.2.1]; exact hf)
theorem n_astore (C : nc G cc own mL h mc ms) {n : Fin 4} {i : Nat} {x : Nat} {ls' : jL} (hdg : decode cc pc = .ok (.astore_n n, 1)) (hi : (n : Nat) = i) (hn : i < mL) (hl : (i, Value.ref x) :: ls.filter (fun q => !(q.1 == i) && !(q.1 + 1 == i && q.2.category == 2)) = ls') (kk : jQ G Q ws (pc + 1) ls' st cells slots) : jQ G Q ws pc ls (.ref x :: st) cells slots := fun H locs la hP hD hS hL => lv_astore_n C.1 C.2.1 hdg hi hL (by rw [C.2.2.2.2.2.2.1]; exact hn) hl (fun la hL => kk H locs la hP hD hS hL)
theorem n_istore (C : nc G cc own mL h mc ms) {n : Fin 4} {i : Nat} {x : Int32} {ls' : jL} (hdg : decode cc pc = .ok (.istore_n n, 1)) (hi : (n : Nat) = i) (hn : i < mL) (hl : (i, Value.int x) :: ls.filter (fun q => !(q.1 == i) && !(q.1 + 1 == i && q.2.category == 2)) = ls') (kk : jQ G Q ws (pc + 1) ls' st cells slots) : jQ G Q ws pc ls (.int x :: st) cells slots := fun H locs la hP hD hS hL => lv_istore_n C.1 C.2.1 hdg hi hL (by rw [C.2.2.2.2.2.2.1]; exact hn) hl (fun la hL => kk H locs la hP hD hS hL)
end NROWS
def σ0 : jS := fun c => if c = 0 then (fun k => if k = 11 then 46 else if k = 12 then 52 else 0) else if c = 1 then (fun k => if k = 4 then (-1) else 0) else if c = 3 then (fun k => if k = 7 then 1 else 0) else if c = 13 then (fun k => if k = 7 then 1 else 0) else if c = 23 then (fun k => if k = 7 then 1 else 0) else if c = 58 then (fun k => if k = 2 then 3 else if k = 3 then 46 else 0) else if c = 62 then (fun k => if k = 5 then (-1) else 0) else (fun _ => 0)
def τ0 : jS := fun c => if c = 1 then upd (fun _ => 0) (211 : Int32).toNatClampNeg 1 else (fun _ => 0)
set_option maxHeartbeats 8000000 in
set_option maxRecDepth 100000 in
theorem wd_X0 (h0 : Nat) (V : jV) (q : Nat → Nat) : WD_X11_init h0 (vcI V) (vcB V) q = wd cfX 70 (vl V, vD V, (fun i => if i = 0 then h0 else q i), (vcI V, vcB V), vak V, vav V) σ0 := by
  rfl
set_option maxHeartbeats 8000000 in
set_option maxRecDepth 100000 in
theorem wd_M0 (h0 : Nat) (V : jV) (q : Nat → Nat) : WD_X12_init h0 (vcI V) (vcB V) q = wd cfM 33 (vl V, vD V, (fun i => if i = 0 then h0 else q i), (vcI V, vcB V), vak V, vav V) τ0 := by
  rfl
