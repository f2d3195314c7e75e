def krm (h mc ms : Nat) : Room := { frames := h, cells := mc, slots := ms, locals := 60 * h }
def jK (G : jG) (B : (Nat → Nat) → State → Prop) (mc ms : Nat) (ws : va_W) (pc : Nat) (ls : jL) (st : List Value) (cells slots : Nat) : Prop :=
  ∀ (H : Heap) (locs : List Loc) (la : Array Slot), va_P (vD (gV G)) vwCl ws H → va_D (gA G) ws → va_S (gA G) (gs G).heap H locs → lv_has la (gn G) ls →
    W (gp G) (vl (gV G)) (ge G) (gR G) (gs G) (gm G) (ga G) (gb G) (gh G) (gc G) H locs cells slots (MQ (gb G) (va_Qv (fun _ : Nat → Nat => True) B (gA G)) (ga G) (gs G) mc ms (gA G)) (F0 (gm G) pc la st)
def kc (G : jG) (cc : ByteArray) (own : String) (mL h mc ms : Nat) : Prop :=
  (gp G).tables.exec = Jvm.exec ∧ (gc G).code = cc ∧ (gc G).maxLocals = gn G ∧ (gs G).vm.findClass own = some (gm G).cls ∧ (∀ w ∈ jT, w.before (ga G) (gs G) = true) ∧ (gh G).sig.returnType = none ∧ gn G = mL ∧ (gh G).locks = false ∧ va_K (vD (gV G)) vwCl (jtys (gV G)) (gs G) ∧ (∀ q, (gs G).heap.size ≤ q → gA G q) ∧ (∀ w ∈ jN, va_Nw w (gs G)) ∧ (gh G).name = "<init>" ∧ gR G = krm h mc ms
def kpre (V : jV) (as : List Value) (h0 : Nat) (e0 : va_E) (sz : Nat) : Array Value → State → Prop := va_Pc (.ref h0 :: as) (fun U => U.heap.size = sz ∧ va_P (vD V) vwCl [(h0, e0)] U.heap ∧ va_K (vD V) vwCl (jtys V) U ∧ va_D (fun _ => True) [(h0, e0)] ∧ ∀ w ∈ jN, va_Nw w U)
def kend (V : jV) (A : Nat → Prop) (Wd : (Nat → Nat) → va_W) (q : Nat → Nat) (t : State) : Prop := va_P (vD V) vwCl (Wd q) t.heap ∧ va_K (vD V) vwCl (jtys V) t ∧ va_D A (Wd q)
def Kt (V : jV) (y : MethodName) (cc : ByteArray) (mL h mc ms h0 : Nat) (as : List Value) (e0 : va_E) (Wd : (Nat → Nat) → va_W) : Prop :=
  ∀ sz : Nat, Met (vl V) y (.code y cc mL none :: jT) (krm h mc ms) (kpre V as h0 e0 sz) (va_Qv (fun _ : Nat → Nat => True) (kend V (va_A [(h0, e0)] sz) Wd) (va_A [(h0, e0)] sz)) mc ms (va_A [(h0, e0)] sz)
theorem k_start {V : jV} {y : MethodName} {cc : ByteArray} {mL h mc ms h0 : Nat} {as : List Value} {e0 : va_E} {Wd : (Nat → Nat) → va_W} {own : String} (hy : plainName y.cls = true) (ho : y.cls = own) (hn : y.name = "<init>") (hl : (lg_sl (.ref h0 :: as)).length ≤ mL)
    (body : ∀ G : jG, gV G = V → kc G cc own mL h mc ms → jK G (kend V (gA G) Wd) mc ms [(h0, e0)] 0 (lv_args 0 (.ref h0 :: as)) [] 0 0) : Kt V y cc mL h mc ms h0 as e0 Wd := by
  intro sz
  refine Met.ofW (cc := cc) (maxL := mL) (ret := none) hy rfl ?_
  intro p e s m args below meth c s₁ B hml hv
  obtain ⟨rfl, hsz, hP, hK, hD0, hN⟩ := hv
  subst hsz
  have hts := atoms_spec (ws := .code y cc mL none :: jT) B.pre
  rw [lg_entry_eq]
  refine body (V, (p, e, _, s, m, (.ref h0 :: as : List Value).toArray, below, meth, c), (mL, none, va_A [(h0, e0)] s.heap.size)) rfl ⟨B.exec, B.bytes, hml, ?_, fun w hw => hts w (List.mem_cons_of_mem _ hw), B.returns, rfl, B.notSynchronized, hK, fun q h => Or.inr h, hN, ?_, rfl⟩ s.heap [] _ hP hD0.self va_S.rf (lv_entry (.ref h0 :: as) hl)
  · rw [← ho]
    exact findClass_of_methodNamed B.named
  · rw [← hn]
    exact (name_of_methodNamed B.named B.method).1
section KROWS
variable {G : jG} {B : (Nat → Nat) → State → Prop} {cc : ByteArray} {own : String} {mL h mc ms : Nat} {ws : va_W} {pc : Nat} {ls : jL} {st : List Value} {cells slots : Nat}

theorem k_iconst (C : kc G cc own mL h mc ms) {n : Int} {v : Int32} (hdg : decode cc pc = .ok (.iconst n, 1)) (hv : Int32.ofInt n = v) (kk : jK G B mc ms ws (pc + 1) ls (.int v :: st) cells slots) : jK G B mc ms ws (pc) ls st cells slots := fun H locs la hP hD hS hL => lv_iconst C.1 C.2.1 hdg hv (kk H locs la hP hD hS hL)
theorem k_bipush (C : kc G cc own mL h mc ms) {n : Int} {v : Int32} (hdg : decode cc pc = .ok (.bipush n, 2)) (hv : (Int8.ofInt n).toInt32 = v) (kk : jK G B mc ms ws (pc + 2) ls (.int v :: st) cells slots) : jK G B mc ms ws (pc) ls st cells slots := fun H locs la hP hD hS hL => lv_bipush C.1 C.2.1 hdg hv (kk H locs la hP hD hS hL)
theorem k_sipush (C : kc G cc own mL h mc ms) {n : Int} {v : Int32} (hdg : decode cc pc = .ok (.sipush n, 3)) (hv : (Int16.ofInt n).toInt32 = v) (kk : jK G B mc ms ws (pc + 3) ls (.int v :: st) cells slots) : jK G B mc ms ws (pc) ls st cells slots := fun H locs la hP hD hS hL => lv_sipush C.1 C.2.1 hdg hv (kk H locs la hP hD hS hL)
theorem k_aload (C : kc G cc own mL h mc ms) {n : Fin 4} {i : Nat} {x : Nat} (k : Nat) (hdg : decode cc pc = .ok (.aload_n n, 1)) (hi : (n : Nat) = i) (hk : ls[k]? = some (i, .ref x)) (kk : jK G B mc ms ws (pc + 1) ls (.ref x :: st) cells slots) : jK G B mc ms ws (pc) ls st cells slots := fun H locs la hP hD hS hL => lv_aload_n C.1 C.2.1 hdg hi (lv_at hL k hk) (kk H locs la hP hD hS hL)
theorem k_dup (C : kc G cc own mL h mc ms) {va : Value} (hdg : decode cc pc = .ok (.dup, 1)) (hva : va.category = 1) (kk : jK G B mc ms ws (pc + 1) ls (va :: va :: st) cells slots) : jK G B mc ms ws (pc) ls (va :: st) cells slots := fun H locs la hP hD hS hL => lv_dup C.1 C.2.1 hdg hva (kk H locs la hP hD hS hL)
theorem k_obj (C : kc G cc own mL h mc ms) {i a : Nat} (w1 : Cond.methodLink own i objectInit ∈ jT) (w2 : Cond.instanceMethod objectInit ∈ jT) (w3 : Cond.code objectInit ⟨#[0xb1]⟩ 1 none ∈ jT) (hh : 1 ≤ h) (hr : (st.map fun v => v.category).sum ≤ 8) (hdg : decode cc pc = .ok (.invokespecial i, 3)) (kk : jK G B mc ms ws (pc + 3) ls st cells slots) : jK G B mc ms ws (pc) ls (.ref a :: st) cells slots := by
  intro H locs la hP hD hS hL
  refine W.objInit C.1 C.2.1 C.2.2.2.1 (C.2.2.2.2.1 _ w1) (C.2.2.2.2.1 _ w2) (C.2.2.2.2.1 _ w3) rfl (by rw [C.2.2.1]; exact hL.1) rfl hdg (by rw [C.2.2.2.2.2.2.2.2.2.2.2.2]; exact hh) (by rw [C.2.2.2.2.2.2.2.2.2.2.2.2]; show 2 * 0 + _ + 12 ≤ 60 * h; omega) ?_
  exact kk H locs la hP hD hS hL
theorem k_get (C : kc G cc own mL h mc ms) {ci nf : Nat} {T : u_T} {C0 : String} {fs : List Value} {a q0 k i : Nat} {v : Value} (hin : ∀ w ∈ u_ws C0 T nf, w ∈ jT) (he : ws[q0]? = some (a, .inr (ci, fs))) (hcl : vwCl[ci]? = some (C0, T, nf)) (hk : k < nf) (hw : Cond.fieldLink own i (T k).1 (T k).2.1 (T k).2.2.1 ∈ jT) (hv : fs[k]? = some v) (hdg : decode cc pc = .ok (.getfield i, 3)) (kk : jK G B mc ms ws (pc + 3) ls (v :: st) cells slots) : jK G B mc ms ws (pc) ls (.ref a :: st) cells slots := fun H locs la hP hD hS hL => va_get C.1 C.2.1 C.2.2.2.2.1 hin C.2.2.2.1 C.2.2.2.2.2.2.2.2.1 hP q0 he hcl k hk (C.2.2.2.2.1 _ hw) (fun _ h9 => h9) hv hdg (kk H locs la hP hD hS hL)
theorem k_put (C : kc G cc own mL h mc ms) {ci nf : Nat} {T : u_T} {C0 : String} {fs : List Value} {a q0 k i : Nat} {v : Value} {ty : FieldType} {ws' : va_W} (ty0 : Nat → FieldType) (hty : ∀ k, k < nf → parseFieldDescriptor (T k).2.2.1 = some (ty0 k)) (hnm : ∀ a, a < nf → ∀ b, b < nf → a ≠ b → (T a).2.1 ≠ (T b).2.1) (hin : ∀ w ∈ u_ws C0 T nf, w ∈ jT) (he : ws[q0]? = some (a, .inr (ci, fs))) (hcl : vwCl[ci]? = some (C0, T, nf)) (hk : k < nf) (hw : Cond.fieldLink own i (T k).1 (T k).2.1 (T k).2.2.1 ∈ jT) (hfin : (T k).2.2.2 = false) (hd : parseFieldDescriptor (T k).2.2.1 = some ty) (hn : narrow ty v = v) (hfit : fits ty v = true) (hl : k < fs.length) (hws : ws.set q0 (a, .inr (ci, fs.set k v)) = ws') (hdg : decode cc pc = .ok (.putfield i, 3)) (kk : jK G B mc ms ws' (pc + 3) ls st cells slots) : jK G B mc ms ws (pc) ls (v :: .ref a :: st) cells slots := by
  subst hws
  exact fun H locs la hP hD hS hL => va_put C.1 C.2.1 C.2.2.2.2.1 hin ty0 hty hnm C.2.2.2.1 C.2.2.2.2.2.2.2.2.1 hP hD hS q0 he hcl k hk (C.2.2.2.2.1 _ hw) (fun _ h9 => h9) hfin hd hn hfit hl hdg (fun H locs hP hD hS => kk H locs la hP hD hS hL)
theorem k_putF (C : kc G cc own mL h mc ms) {ci nf : Nat} {T : u_T} {C0 : String} {fs : List Value} {a q0 k i : Nat} {v : Value} {ty : FieldType} {ws' : va_W} (ty0 : Nat → FieldType) (hty : ∀ k, k < nf → parseFieldDescriptor (T k).2.2.1 = some (ty0 k)) (hnm : ∀ a, a < nf → ∀ b, b < nf → a ≠ b → (T a).2.1 ≠ (T b).2.1) (hin : ∀ w ∈ u_ws C0 T nf, w ∈ jT) (he : ws[q0]? = some (a, .inr (ci, fs))) (hcl : vwCl[ci]? = some (C0, T, nf)) (hk : k < nf) (hw : Cond.fieldLink own i (T k).1 (T k).2.1 (T k).2.2.1 ∈ jT) (hfin : (T k).2.2.2 = true) (hdecl : (T k).1 = own) (hd : parseFieldDescriptor (T k).2.2.1 = some ty) (hn : narrow ty v = v) (hfit : fits ty v = true) (hl : k < fs.length) (hws : ws.set q0 (a, .inr (ci, fs.set k v)) = ws') (hdg : decode cc pc = .ok (.putfield i, 3)) (kk : jK G B mc ms ws' (pc + 3) ls st cells slots) : jK G B mc ms ws (pc) ls (v :: .ref a :: st) cells slots := by
  subst hws
  exact fun H locs la hP hD hS hL => va_putF C.1 C.2.1 C.2.2.2.2.1 hin ty0 hty hnm C.2.2.2.1 C.2.2.2.2.2.2.2.2.1 hP hD hS q0 he hcl k hk (C.2.2.2.2.1 _ hw) (fun _ h9 => h9) hfin C.2.2.2.2.2.2.2.2.2.2.2.1 hdecl hd hn hfit hl hdg (fun H locs hP hD hS => kk H locs la hP hD hS hL)
theorem k_newi (C : kc G cc own mL h mc ms) {n : Int32} {N : Nat} {ws' : Nat → va_W} (w1 : Cond.arrayClass .int ∈ jT) (hn : ¬ n < 0) (hN : n.toNatClampNeg = N) (hb : N ≤ 10000) (hc : cells + 1 ≤ mc) (hs : slots + N ≤ ms) (hws : ∀ q, ws ++ [(q, .inl (vcI (gV G), N, .inl (fun _ => 0)))] = ws' q) (hdg : decode cc pc = .ok (.newarray .int, 2)) (kk : ∀ q, jK G B mc ms (ws' q) (pc + 2) ls (.ref q :: st) (cells + 1) (slots + N)) : jK G B mc ms ws pc ls (.int n :: st) cells slots := by
  intro H locs la hP hD hS hL
  refine va_newa (atype := .int) (ty := .int) (N' := N) (a0 := (N, .inl (fun _ => 0))) C.1 C.2.1 (C.2.2.2.2.1 _ w1) rfl C.2.2.2.2.2.2.2.2.1 hP hD hS C.2.2.2.2.2.2.2.2.2.1 (fun _ => rfl) hn hN (by show N * 4 ≤ _; omega) (by rw [C.2.2.2.2.2.2.2.2.2.2.2.2]; exact hc) (by rw [C.2.2.2.2.2.2.2.2.2.2.2.2]; exact hs) hdg (fun q cA H1 hK1 hP1 hD1 hS1 => ?_)
  have e : cA = vcI (gV G) := by
    have a1 : (gs G).vm.findClass ("[" ++ FieldType.int.toString) = some cA := (hK1.2 2 (cA, .int) rfl).2
    have a2 : (gs G).vm.findClass ("[" ++ FieldType.int.toString) = some (vcI (gV G)) := (C.2.2.2.2.2.2.2.2.1.2 0 (vcI (gV G), .int) rfl).2
    rw [a1] at a2
    exact Option.some.inj a2
  subst e
  rw [hws q] at hP1 hD1
  exact kk q H1 locs la hP1 hD1 hS1 hL
theorem k_newb (C : kc G cc own mL h mc ms) {n : Int32} {N : Nat} {ws' : Nat → va_W} (w1 : Cond.arrayClass .byte ∈ jT) (hn : ¬ n < 0) (hN : n.toNatClampNeg = N) (hb : N ≤ 10000) (hc : cells + 1 ≤ mc) (hs : slots + N ≤ ms) (hws : ∀ q, ws ++ [(q, .inl (vcB (gV G), N, .inl (fun _ => 0)))] = ws' q) (hdg : decode cc pc = .ok (.newarray .byte, 2)) (kk : ∀ q, jK G B mc ms (ws' q) (pc + 2) ls (.ref q :: st) (cells + 1) (slots + N)) : jK G B mc ms ws pc ls (.int n :: st) cells slots := by
  intro H locs la hP hD hS hL
  refine va_newa (atype := .byte) (ty := .byte) (N' := N) (a0 := (N, .inl (fun _ => 0))) C.1 C.2.1 (C.2.2.2.2.1 _ w1) rfl C.2.2.2.2.2.2.2.2.1 hP hD hS C.2.2.2.2.2.2.2.2.2.1 (fun _ => rfl) hn hN (by show N * 1 ≤ _; omega) (by rw [C.2.2.2.2.2.2.2.2.2.2.2.2]; exact hc) (by rw [C.2.2.2.2.2.2.2.2.2.2.2.2]; exact hs) hdg (fun q cA H1 hK1 hP1 hD1 hS1 => ?_)
  have e : cA = vcB (gV G) := by
    have a1 : (gs G).vm.findClass ("[" ++ FieldType.byte.toString) = some cA := (hK1.2 2 (cA, .byte) rfl).2
    have a2 : (gs G).vm.findClass ("[" ++ FieldType.byte.toString) = some (vcB (gV G)) := (C.2.2.2.2.2.2.2.2.1.2 1 (vcB (gV G), .byte) rfl).2
    rw [a1] at a2
    exact Option.some.inj a2
  subst e
  rw [hws q] at hP1 hD1
  exact kk q H1 locs la hP1 hD1 hS1 hL
theorem k_new (C : kc G cc own mL h mc ms) {ci nf i : Nat} {T : u_T} {C0 : String} {fs : List Value} {ws' : Nat → va_W} (ty : Nat → FieldType) (hty : ∀ k, k < nf → parseFieldDescriptor (T k).2.2.1 = some (ty k)) (hin : ∀ w ∈ u_ws C0 T nf, w ∈ jT) (w1 : Cond.classLink own i C0 ∈ jT) (w2 : Cond.instantiable C0 nf ∈ jT) (w3 : Cond.initialized C0 ∈ jT) (hcl : vwCl[ci]? = some (C0, T, nf)) (hfs : ∀ j, j < nf → defaultValue (ty j) = vp_V fs j) (hc : cells + 1 ≤ mc) (hs : slots + nf ≤ ms) (hws : ∀ q, ws ++ [(q, .inr (ci, fs))] = ws' q) (hdg : decode cc pc = .ok (.new i, 3)) (kk : ∀ q, jK G B mc ms (ws' q) (pc + 3) ls (.ref q :: st) (cells + 1) (slots + nf)) : jK G B mc ms ws pc ls st cells slots := by
  intro H locs la hP hD hS hL
  refine va_new C.1 C.2.1 C.2.2.2.2.1 hin ty hty C.2.2.2.1 (C.2.2.2.2.1 _ w1) (C.2.2.2.2.1 _ w2) (C.2.2.2.2.1 _ w3) C.2.2.2.2.2.2.2.2.1 hP hD hS C.2.2.2.2.2.2.2.2.2.1 hcl hfs (by rw [C.2.2.2.2.2.2.2.2.2.2.2.2]; exact hc) (by rw [C.2.2.2.2.2.2.2.2.2.2.2.2]; exact hs) hdg (fun q H1 hP1 hD1 hS1 => ?_)
  rw [hws q] at hP1 hD1
  exact kk q H1 locs la hP1 hD1 hS1 hL
theorem k_iast (C : kc G cc own mL h mc ms) {a q0 n : Nat} {f : Nat → Int32} {i x : Int32} {ws' : va_W} (he : ws[q0]? = some (a, .inl (vcI (gV G), n, .inl f))) (hin : jin i n = true) (hws : ws.set q0 (a, .inl (vcI (gV G), n, .inl (upd f i.toNatClampNeg x))) = ws') (hdg : decode cc pc = .ok (.iastore, 1)) (kk : jK G B mc ms ws' (pc + 1) ls st cells slots) : jK G B mc ms ws pc ls (.int x :: .int i :: .ref a :: st) cells slots := by
  subst hws
  exact fun H locs la hP hD hS hL => va_iast C.1 C.2.1 C.2.2.2.2.2.2.2.2.1 hP hD hS q0 0 he rfl (jin_of hin) hdg (fun H locs hP hD hS => kk H locs la hP hD hS hL)
theorem k_ret (C : kc G cc own mL h mc ms) (q : Nat → Nat) {Wd : (Nat → Nat) → va_W} (hB : B = kend (gV G) (gA G) Wd) (hq : Wd q = ws) (hc : cells = mc) (hs : slots = ms) (hdg : decode cc pc = .ok (.return_, 1)) : jK G B mc ms ws pc ls [] cells slots := by
  subst hq
  subst hB
  subst hc
  subst hs
  intro H locs la hP hD hS hL
  have hP9 := hP
  exact W.vret C.1 C.2.1 C.2.2.2.2.2.1 (fun t ht hW => ⟨⟨q, rfl, trivial, by rw [ht]; exact hP9, va_K.moved hW.alike C.2.2.2.2.2.2.2.2.1, hD⟩, hS.F ht⟩) hS.2.2 hdg C.2.2.2.2.2.2.2.1
theorem kpre_blind {V : jV} {as : List Value} {h0 : Nat} {e0 : va_E} {sz : Nat} : FrameBlind (kpre V as h0 e0 sz) := by
  intro a U g mk q
  obtain ⟨q0, q1, qP, qK, qD, qN⟩ := q
  exact ⟨q0, q1, qP, va_K.moved (u := U) (U := U.calling g mk a) (Vm.Alike.refl U.vm) qK, qD, jN_calling qN⟩
theorem k_last {wr : va_W} {a : Nat} {e0 : va_E} : (wr ++ [(a, e0)])[wr.length]? = some (a, e0) := by simp
theorem k_call (C : kc G cc own mL h mc ms) {wr : va_W} {a : Nat} {e0 : va_E} {as : List Value} {mc' ms' : Nat} {Wd : (Nat → Nat) → va_W} {ws' : (Nat → Nat) → va_W} {st0 : List Value} (hrun : ∀ (H : Heap) (locs : List Loc) (la : Array Slot), va_P (vD (gV G)) vwCl [(a, e0)] H → va_D (gA G) (wr ++ [(a, e0)]) → va_S (gA G) (gs G).heap H locs → lv_has la (gn G) ls → va_Run (gp G) (vl (gV G)) (ge G) (gR G) (gs G) (gm G) (ga G) (gb G) (gh G) (gc G) H locs cells slots mc' ms' (F0 (gm G) pc la st0) st (va_Qv (fun _ : Nat → Nat => True) (kend (gV G) (va_A [(a, e0)] H.size) Wd) (va_A [(a, e0)] H.size) (.ref a :: as).toArray) (va_A [(a, e0)] H.size)) (hw0 : ws = wr ++ [(a, e0)]) (hws : ∀ q, wr ++ Wd q = ws' q) (kk : ∀ q, jK G B mc ms (ws' q) (pc + 3) ls st (cells + mc') (slots + ms')) : jK G B mc ms ws pc ls st0 cells slots := by
  subst hw0
  intro H locs la hP hD hS hL
  have hlast : (wr ++ [(a, e0)])[wr.length]? = some (a, e0) := k_last
  have hP0 : va_P (vD (gV G)) vwCl [(a, e0)] H := by
    intro k q hk
    match k, hk with
    | 0, hk => cases hk; exact hP wr.length _ hlast
    | k + 1, hk => simp at hk
  have hfree : ∀ q, va_A [(a, e0)] H.size q → gA G q := by
    intro q hq
    rcases hq with ⟨k, e, hq⟩ | hq
    · match k, hq with
      | 0, hq => cases hq; exact hD.2 wr.length _ hlast
      | k + 1, hq => simp at hq
    · exact C.2.2.2.2.2.2.2.2.2.1 q (Nat.le_trans hS.1 hq)
  refine va_callv (a := (.ref a :: as : List Value).toArray) (hrun H locs la hP0 hD hS hL) hS (fun q _ hq => hfree q hq) hfree (fun u t H1 locs1 ht hvm hw hB hz1 hk1 hS1 => ?_)
  obtain ⟨hP1, -, hD1⟩ := hB
  rw [ht] at hP1
  have hin : ∀ (i : Nat) (q : Nat × va_E), wr[i]? = some q → i < wr.length ∧ (wr ++ [(a, e0)])[i]? = some q := by
    intro i q hi
    have hl := (List.getElem?_eq_some_iff.mp hi).1
    exact ⟨hl, by rw [List.getElem?_append_left hl]; exact hi⟩
  have hap : ∀ (i : Nat) (q : Nat × va_E), wr[i]? = some q → q.1 < H.size ∧ ¬ va_A [(a, e0)] H.size q.1 := by
    intro i q hi
    obtain ⟨h1, h2⟩ := hin i q hi
    have hl := (hP i q h2).lt
    refine ⟨hl, fun hA => ?_⟩
    rcases hA with ⟨k, e, hA⟩ | hA
    · match k, hA with
      | 0, hA =>
        cases hA
        have := hD.1 i wr.length q _ h2 hlast rfl
        omega
      | k + 1, hA => simp at hA
    · omega
  have hPn : va_P (vD (gV G)) vwCl (wr ++ Wd u) H1 := va_P.app (fun i q hi => (hP i q (hin i q hi).2).kept (hk1 _ (hap i q hi).1 (hap i q hi).2)) hP1
  have hDn : va_D (gA G) (wr ++ Wd u) := va_D.app ⟨fun i j p q hi hj e => hD.1 i j p q (hin i p hi).2 (hin j q hj).2 e, fun i q hi => hD.2 i q (hin i q hi).2⟩ (hD1.weaken (fun _ q _ hq => hfree q.1 hq)) (fun i j x y hx hy e => (hap i x hx).2 (by rw [e]; exact hD1.2 j y hy))
  rw [hws u] at hPn hDn
  exact kk u H1 locs1 la hPn hDn hS1 hL
theorem k_pre (C : kc G cc own mL h mc ms) {a : Nat} {e0 : va_E} {wr : va_W} {as : List Value} {H : Heap} (hP : va_P (vD (gV G)) vwCl [(a, e0)] H) (hD : va_D (gA G) (wr ++ [(a, e0)])) : ∀ U : State, U.heap = H → (gs G).WarmedH U.vm → kpre (gV G) as a e0 H.size (.ref a :: as).toArray U := by
  intro U hU hW
  subst hU
  refine ⟨rfl, rfl, hP, va_K.moved hW.alike C.2.2.2.2.2.2.2.2.1, ⟨fun i j p q hi hj _ => ?_, fun _ _ _ => trivial⟩, jN_warm hW C.2.2.2.2.2.2.2.2.2.2.1⟩
  match i, j, hi, hj with
  | 0, 0, _, _ => rfl
  | i + 1, _, hi, _ => simp at hi
  | 0, j + 1, _, hj => simp at hj
theorem kroom {h h' m' c1 s1 c2 s2 : Nat} (hh : h' + 1 ≤ h) (hm : m' ≤ 41) : (krm h' c1 s1).frames + 1 ≤ (krm h c2 s2).frames ∧ 8 + (m' + 11) + (krm h' c1 s1).locals ≤ (krm h c2 s2).locals := by
  refine ⟨hh, ?_⟩
  show 8 + (m' + 11) + 60 * h' ≤ 60 * h
  omega
theorem k_runI (C : kc G cc own mL h mc ms) {wr : va_W} {y : MethodName} {bytes : ByteArray} {m' h' n i mc' ms' a : Nat} {e0 : va_E} {as : List Value} {Wd : (Nat → Nat) → va_W} (hM : Kt (gV G) y bytes m' h' mc' ms' a as e0 Wd) (w1 : Cond.methodLink own i y ∈ jT) (w2 : Cond.instanceMethod y ∈ jT) (w4 : Cond.initialized y.cls ∈ jT) (w5 : Cond.code y bytes m' none ∈ jT) (hy : y.name = "<init>") (hd : y.cls ≠ "java/lang/invoke/MethodHandle" ∧ y.cls ≠ "java/lang/invoke/VarHandle" ∧ (parseMethodDescriptor y.desc).map (fun d => d.parameters.length) = some n) (hh : h' + 1 ≤ h) (hm' : m' ≤ 41) (hn : as.length = n) (hr : (st.map fun v => v.category).sum ≤ 8) (hf : cells + mc' ≤ mc ∧ slots + ms' ≤ ms) (hdg : decode cc pc = .ok (.invokespecial i, 3)) : ∀ (H : Heap) (locs : List Loc) (la : Array Slot), va_P (vD (gV G)) vwCl [(a, e0)] H → va_D (gA G) (wr ++ [(a, e0)]) → va_S (gA G) (gs G).heap H locs → lv_has la (gn G) ls → va_Run (gp G) (vl (gV G)) (ge G) (gR G) (gs G) (gm G) (ga G) (gb G) (gh G) (gc G) H locs cells slots mc' ms' (F0 (gm G) pc la (as.reverse ++ .ref a :: st)) st (va_Qv (fun _ : Nat → Nat => True) (kend (gV G) (va_A [(a, e0)] H.size) Wd) (va_A [(a, e0)] H.size) (.ref a :: as).toArray) (va_A [(a, e0)] H.size) := by
  intro H locs la hP hD hS hL
  exact va_runI (nL := gn G) (Ts := jT) ⟨C.1, C.2.1, C.2.2.1, C.2.2.2.1, C.2.2.2.2.1⟩ (hM H.size) (cwI n C.2.2.2.2.1 (jwords (own := own) w5) rfl rfl rfl (C.2.2.2.2.1 _ w4) (C.2.2.2.2.1 _ w1) (C.2.2.2.2.1 _ w2) hy hd (by rw [C.2.2.2.2.2.2.2.2.2.2.2.2]; exact kroom hh hm')) ⟨kpre_blind, k_pre C hP hD⟩ rfl hn hL.1 rfl (lv_room hr) hdg (by rw [C.2.2.2.2.2.2.2.2.2.2.2.2]; exact hf)
theorem k_runIN (C : kc G cc own mL h mc ms) {wr : va_W} {y : MethodName} {bytes : ByteArray} {host : String} {m' h' n i mc' ms' a : Nat} {e0 : va_E} {as : List Value} {Wd : (Nat → Nat) → va_W} (hM : Kt (gV G) y bytes m' h' mc' ms' a as e0 Wd) (w1 : Cond.methodLinkNest own i y host ∈ jN) (w2 : Cond.instanceMethod y ∈ jT) (w4 : Cond.initialized y.cls ∈ jT) (w5 : Cond.code y bytes m' none ∈ jT) (hy : y.name = "<init>") (hd : y.cls ≠ "java/lang/invoke/MethodHandle" ∧ y.cls ≠ "java/lang/invoke/VarHandle" ∧ (parseMethodDescriptor y.desc).map (fun d => d.parameters.length) = some n) (hh : h' + 1 ≤ h) (hm' : m' ≤ 41) (hn : as.length = n) (hr : (st.map fun v => v.category).sum ≤ 8) (hf : cells + mc' ≤ mc ∧ slots + ms' ≤ ms) (hdg : decode cc pc = .ok (.invokespecial i, 3)) : ∀ (H : Heap) (locs : List Loc) (la : Array Slot), va_P (vD (gV G)) vwCl [(a, e0)] H → va_D (gA G) (wr ++ [(a, e0)]) → va_S (gA G) (gs G).heap H locs → lv_has la (gn G) ls → va_Run (gp G) (vl (gV G)) (ge G) (gR G) (gs G) (gm G) (ga G) (gb G) (gh G) (gc G) H locs cells slots mc' ms' (F0 (gm G) pc la (as.reverse ++ .ref a :: st)) st (va_Qv (fun _ : Nat → Nat => True) (kend (gV G) (va_A [(a, e0)] H.size) Wd) (va_A [(a, e0)] H.size) (.ref a :: as).toArray) (va_A [(a, e0)] H.size) := by
  intro H locs la hP hD hS hL
  exact va_runIN (nL := gn G) (Ts := jT) ⟨C.1, C.2.1, C.2.2.1, C.2.2.2.1, C.2.2.2.2.1⟩ (hM H.size) ⟨va_cnB n C.2.2.2.2.1 (jwords (own := own) w5) rfl rfl rfl (C.2.2.2.2.2.2.2.2.2.2.1 _ w1) (C.2.2.2.2.1 _ w4) hd (by rw [C.2.2.2.2.2.2.2.2.2.2.2.2]; exact kroom hh hm'), hy, C.2.2.2.2.1 _ w2⟩ ⟨kpre_blind, k_pre C hP hD⟩ rfl hn hL.1 rfl (lv_room hr) hdg (by rw [C.2.2.2.2.2.2.2.2.2.2.2.2]; exact hf)
end KROWS
