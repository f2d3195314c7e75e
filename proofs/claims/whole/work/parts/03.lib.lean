
/-! ===== the tables' words that are kept over calls, and the nest mates' ===== -/
def jT : List Cond := lw_tbl.filter goodWord
def jnest : Cond → Bool
  | .fieldLinkNest _ _ _ _ _ _ => true
  | .methodLinkNest _ _ _ _ => true
  | _ => false
def jN : List Cond := lw_tbl.filter jnest
theorem jT_in {w : Cond} (h : w ∈ lw_tbl) (hg : goodWord w = true) : w ∈ jT := List.mem_filter.mpr ⟨h, hg⟩
theorem jN_in {w : Cond} (h : w ∈ lw_tbl) (hg : jnest w = true) : w ∈ jN := List.mem_filter.mpr ⟨h, hg⟩
theorem jT_good {w : Cond} (h : w ∈ jT) : (w.onTables && w.keeps) = true ∨ ∃ ty, w = .arrayClass ty := good_of_word (List.mem_filter.mp h).2
theorem in_t1 {w : Cond} (h : w ∈ tables_1_1) : w ∈ lw_tbl := by unfold lw_tbl tables_1; exact List.mem_append_right _ (List.mem_append_left _ h)
theorem in_t2 {w : Cond} (h : w ∈ tables_1_2) : w ∈ lw_tbl := by unfold lw_tbl tables_1; exact List.mem_append_right _ (List.mem_append_right _ (List.mem_append_left _ h))
theorem in_t3 {w : Cond} (h : w ∈ tables_1_3) : w ∈ lw_tbl := by unfold lw_tbl tables_1; exact List.mem_append_right _ (List.mem_append_right _ (List.mem_append_right _ (List.mem_append_left _ h)))
theorem in_t4 {w : Cond} (h : w ∈ tables_1_4) : w ∈ lw_tbl := by unfold lw_tbl tables_1; exact List.mem_append_right _ (List.mem_append_right _ (List.mem_append_right _ (List.mem_append_right _ (List.mem_append_left _ h))))
theorem in_t5 {w : Cond} (h : w ∈ tables_1_5) : w ∈ lw_tbl := by unfold lw_tbl tables_1; exact List.mem_append_right _ (List.mem_append_right _ (List.mem_append_right _ (List.mem_append_right _ (List.mem_append_right _ (List.mem_append_left _ h)))))
theorem in_t6 {w : Cond} (h : w ∈ tables_1_6) : w ∈ lw_tbl := by unfold lw_tbl tables_1; exact List.mem_append_right _ (List.mem_append_right _ (List.mem_append_right _ (List.mem_append_right _ (List.mem_append_right _ (List.mem_append_right _ (List.mem_append_left _ h))))))
theorem in_t7 {w : Cond} (h : w ∈ tables_1_7) : w ∈ lw_tbl := by unfold lw_tbl tables_1; exact List.mem_append_right _ (List.mem_append_right _ (List.mem_append_right _ (List.mem_append_right _ (List.mem_append_right _ (List.mem_append_right _ (List.mem_append_right _ h))))))
theorem in_t0 {w : Cond} (h : w ∈ k2_sels lw_privs) : w ∈ lw_tbl := by unfold lw_tbl; exact List.mem_append_left _ h
/-! ===== the state: a number for each place of each cell ===== -/
abbrev jS : Type := Nat → Nat → Int32
abbrev jL : Type := List (Nat × Value)
def js (σ : jS) (c k : Nat) (v : Int32) : jS := va_up σ c (upd (σ c) k v)
def jin (i : Int32) (n : Nat) : Bool := !(decide (i < 0)) && decide (i.toNatClampNeg < n)
theorem jin_of {i : Int32} {n : Nat} (h : jin i n = true) : vp_in i n := by
  simp only [jin, Bool.and_eq_true, Bool.not_eq_true', decide_eq_false_iff_not, decide_eq_true_eq] at h
  intro q
  rcases q with q | q
  · exact h.1 q
  · omega
def jbo (v : Int32) : Bool := decide (v = 0) || decide (v = 1)
theorem jbo_of {v : Int32} (h : jbo v = true) : v = 0 ∨ v = 1 := by simpa [jbo] using h
theorem jbo_nar {v : Int32} (h : jbo v = true) : narrow .boolean (.int v) = .int v := by
  rcases jbo_of h with rfl | rfl <;> decide
theorem jbo_fit {v : Int32} (h : jbo v = true) : fits .boolean (.int v) = true := by
  rcases jbo_of h with rfl | rfl <;> decide
/-! ===== what is fixed in a walk ===== -/
abbrev jV : Type := Launch × va_G × (Nat → Nat) × (ClassId × ClassId) × (Nat → Nat) × (Nat → Nat)
abbrev vl (V : jV) : Launch := V.1
abbrev vD (V : jV) : va_G := V.2.1
abbrev vad (V : jV) : Nat → Nat := V.2.2.1
abbrev vcI (V : jV) : ClassId := V.2.2.2.1.1
abbrev vcB (V : jV) : ClassId := V.2.2.2.1.2
abbrev vak (V : jV) : Nat → Nat := V.2.2.2.2.1
abbrev vav (V : jV) : Nat → Nat := V.2.2.2.2.2
abbrev jtys (V : jV) : List (ClassId × FieldType) := [(vcI V, .int), (vcB V, .byte)]
abbrev jF : Type := jV → Nat → (Nat → Int32) → va_E
def wd (cf : jF) (N : Nat) (V : jV) (σ : jS) : va_W := (List.range N).map (fun c => (vad V c, cf V c (σ c)))
theorem wd_at {cf : jF} {N : Nat} {V : jV} {σ : jS} {c : Nat} (h : c < N) : (wd cf N V σ)[c]? = some (vad V c, cf V c (σ c)) := by simp [wd, h]
theorem wd_of {cf : jF} {N : Nat} {V : jV} {σ : jS} {c : Nat} {q : Nat × va_E} (h : (wd cf N V σ)[c]? = some q) : c < N ∧ q = (vad V c, cf V c (σ c)) := by
  have hc : c < N := by
    have := (List.getElem?_eq_some_iff.mp h).1
    simpa [wd] using this
  rw [wd_at hc] at h
  exact ⟨hc, (Option.some.inj h).symm⟩
theorem wd_set {cf : jF} {N : Nat} {V : jV} {σ : jS} {c : Nat} (row : Nat → Int32) (h : c < N) : (wd cf N V σ).set c (vad V c, cf V c row) = wd cf N V (va_up σ c row) := by
  apply List.ext_getElem?
  intro i
  rw [List.getElem?_set]
  by_cases hi : c = i
  · subst hi
    have hl : c < (wd cf N V σ).length := by simpa [wd] using h
    rw [if_pos rfl, if_pos hl, wd_at h, va_up_self]
  · rw [if_neg hi]
    by_cases h2 : i < N
    · rw [wd_at h2, wd_at h2, va_up_ne σ row (Ne.symm hi)]
    · rw [List.getElem?_eq_none (by simpa [wd] using h2), List.getElem?_eq_none (by simpa [wd] using h2)]
theorem wd_D {cf : jF} {N : Nat} {V : jV} {σ : jS} {A : Nat → Prop} (h : va_D A (wd cf N V σ)) (σ' : jS) : va_D A (wd cf N V σ') := by
  refine ⟨fun i j p q hi hj e => ?_, fun k q hk => ?_⟩
  · obtain ⟨a1, a2⟩ := wd_of hi
    obtain ⟨b1, b2⟩ := wd_of hj
    exact h.1 i j _ _ (wd_at a1) (wd_at b1) (by rw [a2, b2] at e; exact e)
  · obtain ⟨a1, a2⟩ := wd_of hk
    rw [a2]
    have h9 := h.2 k (vad V k, cf V k (σ k)) (wd_at a1)
    exact h9
theorem wd_A {cf : jF} {N : Nat} {V : jV} {σ : jS} {sz : Nat} (σ' : jS) {q : Nat} (h : va_A (wd cf N V σ) sz q) : va_A (wd cf N V σ') sz q := by
  rcases h with ⟨k, e, h⟩ | h
  · obtain ⟨a1, a2⟩ := wd_of h
    have e1 : q = vad V k := congrArg Prod.fst a2
    subst e1
    exact Or.inl ⟨k, _, wd_at a1⟩
  · exact Or.inr h
theorem wd_Aeq {cf : jF} {N : Nat} {V : jV} {σ : jS} {sz : Nat} (σ' : jS) : va_A (wd cf N V σ) sz = va_A (wd cf N V σ') sz := by
  funext q
  exact propext ⟨wd_A σ', wd_A σ⟩
/-- the four String constants, and how Strings are held -/
def jE (V : jV) (A : Nat → Prop) (U : State) (H : Heap) : Prop :=
  (vk_R RX8 81 "scwrlfo" (vak V 0) U ∧ vk_R RX4 105 "kdhabnmtw" (vak V 1) U ∧ vk_R RX4 85 "<>=" (vak V 2) U ∧ vk_R RX4 94 "+-*/%" (vak V 3) U) ∧ vk_S 4 [7, 9, 3, 5] [[115, 99, 119, 114, 108, 102, 111], [107, 100, 104, 97, 98, 110, 109, 116, 119], [60, 62, 61], [43, 45, 42, 47, 37]] (vak V) (vav V) A U H ∧ va_Z "java/lang/String" "COMPACT_STRINGS" "Z" (.int 1) A U H
theorem jE_calling {V : jV} {A : Nat → Prop} {U : State} {g : JFrame} {mk : MethodId} {a : Array Value} (h : jE V A U U.heap) : jE V A (U.calling g mk a) (U.calling g mk a).heap :=
  ⟨⟨vk_R.same (u := U) rfl h.1.1, vk_R.same (u := U) rfl h.1.2.1, vk_R.same (u := U) rfl h.1.2.2.1, vk_R.same (u := U) rfl h.1.2.2.2⟩, vk_S.moved (u := U) (U := U.calling g mk a) (Vm.Alike.refl U.vm) h.2.1, va_Z.moved (u := U) (U := U.calling g mk a) (Vm.Alike.refl U.vm) h.2.2⟩
theorem jE_to {V : jV} {A B : Nat → Prop} {s U : State} {H : Heap} {locs : List Loc} (h : jE V A s s.heap) (hS : va_S A s.heap H locs) (hW : s.WarmedH U.vm) (hB : ∀ q, B q → A q) : jE V B U H :=
  ⟨⟨vk_R.warm hW h.1.1, vk_R.warm hW h.1.2.1, vk_R.warm hW h.1.2.2.1, vk_R.warm hW h.1.2.2.2⟩, ((h.2.1.kept hS.2.1).moved hW.alike).narrow hB, ((h.2.2.kept hS.2.1).moved hW.alike).narrow hB⟩
theorem jN_calling {U : State} {g : JFrame} {mk : MethodId} {a : Array Value} (h : ∀ w ∈ jN, va_Nw w U) : ∀ w ∈ jN, va_Nw w (U.calling g mk a) := by
  intro w hw
  have hn := (List.mem_filter.mp hw).2
  have h1 := h w hw
  cases w <;> first | exact va_Nw.same (u := U) rfl rfl h1 | (simp [jnest] at hn)
theorem jN_warm {s U : State} (hW : s.WarmedH U.vm) (h : ∀ w ∈ jN, va_Nw w s) : ∀ w ∈ jN, va_Nw w U := by
  intro w hw
  have hn := (List.mem_filter.mp hw).2
  have h1 := h w hw
  cases w <;> first | exact va_Nw.warmF hW h1 | exact va_Nw.warmM hW h1 | (simp [jnest] at hn)
def jpre (cf : jF) (N : Nat) (V : jV) (as : List Value) (σ : jS) (sz : Nat) : Array Value → State → Prop := va_Pc as (fun U => U.heap.size = sz ∧ va_P (vD V) vwCl (wd cf N V σ) U.heap ∧ va_K (vD V) vwCl (jtys V) U ∧ va_D (fun _ => True) (wd cf N V σ) ∧ (∀ w ∈ jN, va_Nw w U) ∧ jE V (va_A (wd cf N V σ) sz) U U.heap)
def jend (cf : jF) (N : Nat) (V : jV) (A : Nat → Prop) (σ : jS) (t : State) : Prop := va_P (vD V) vwCl (wd cf N V σ) t.heap ∧ va_K (vD V) vwCl (jtys V) t ∧ va_D A (wd cf N V σ)
def jpost (cf : jF) (N : Nat) (V : jV) (rt : Option FieldType) (A : Nat → Prop) (res : Int32 × jS) : Array Value → State → Outcome → State → Prop := match rt with
  | none => va_Qv (fun _ : Unit => True) (fun _ => jend cf N V A res.2) A
  | some _ => va_Qi (fun r (_ : Unit) => r = res.1) (fun _ => jend cf N V A res.2) A
def jrm (h : Nat) : Room := { frames := h, cells := 0, slots := 0, locals := 60 * h }
/-- a method's contract: from the state σ it answers res.1 and leaves the state res.2 -/
def Ct (cf : jF) (N : Nat) (V : jV) (y : MethodName) (cc : ByteArray) (mL : Nat) (rt : Option FieldType) (h : Nat) (as : List Value) (σ : jS) (res : Int32 × jS) : Prop :=
  ∀ sz : Nat, Met (vl V) y (.code y cc mL rt :: jT) (jrm h) (jpre cf N V as σ sz) (jpost cf N V rt (va_A (wd cf N V σ) sz) res) 0 0 (va_A (wd cf N V σ) sz)
abbrev jG : Type := jV × (Program × Env × Room × State × MethodId × Array Value × List Frame × Method × Code) × (Nat × Option FieldType × (Nat → Prop))
abbrev gV (G : jG) : jV := G.1
abbrev gp (G : jG) : Program := G.2.1.1
abbrev ge (G : jG) : Env := G.2.1.2.1
abbrev gR (G : jG) : Room := G.2.1.2.2.1
abbrev gs (G : jG) : State := G.2.1.2.2.2.1
abbrev gm (G : jG) : MethodId := G.2.1.2.2.2.2.1
abbrev ga (G : jG) : Array Value := G.2.1.2.2.2.2.2.1
abbrev gb (G : jG) : List Frame := G.2.1.2.2.2.2.2.2.1
abbrev gh (G : jG) : Method := G.2.1.2.2.2.2.2.2.2.1
abbrev gc (G : jG) : Code := G.2.1.2.2.2.2.2.2.2.2
abbrev gn (G : jG) : Nat := G.2.2.1
abbrev gt (G : jG) : Option FieldType := G.2.2.2.1
abbrev gA (G : jG) : Nat → Prop := G.2.2.2.2
def J (cf : jF) (N : Nat) (G : jG) (pc : Nat) (ls : jL) (st : List Value) (σ : jS) (res : Int32 × jS) : Prop :=
  ∀ (H : Heap) (locs : List Loc) (la : Array Slot), va_P (vD (gV G)) vwCl (wd cf N (gV G) σ) H → va_S (gA G) (gs G).heap H locs → lv_has la (gn G) ls →
    W (gp G) (vl (gV G)) (ge G) (gR G) (gs G) (gm G) (ga G) (gb G) (gh G) (gc G) H locs 0 0 (MQ (gb G) (jpost cf N (gV G) (gt G) (gA G) res) (ga G) (gs G) 0 0 (gA G)) (F0 (gm G) pc la st)
def jc (cf : jF) (N : Nat) (G : jG) (cc : ByteArray) (own : String) (mL : Nat) (rt : Option FieldType) (h : Nat) : Prop :=
  (gp G).tables.exec = Jvm.exec ∧ (gc G).code = cc ∧ (gc G).maxLocals = gn G ∧ (gs G).vm.findClass own = some (gm G).cls ∧ (∀ w ∈ jT, w.before (ga G) (gs G) = true) ∧ (gh G).sig.returnType = rt ∧ gt G = rt ∧ gn G = mL ∧ (gh G).locks = false ∧ va_K (vD (gV G)) vwCl (jtys (gV G)) (gs G) ∧ (∀ σ, va_D (gA G) (wd cf N (gV G) σ)) ∧ (∀ q, (gs G).heap.size ≤ q → gA G q) ∧ (∀ w ∈ jN, va_Nw w (gs G)) ∧ jE (gV G) (gA G) (gs G) (gs G).heap ∧ gR G = jrm h
theorem j_start {cf : jF} {N : Nat} {V : jV} {y : MethodName} {cc : ByteArray} {mL : Nat} {rt : Option FieldType} {h : Nat} {as : List Value} {σ : jS} {res : Int32 × jS} {own : String} (hy : plainName y.cls = true) (ho : y.cls = own) (hl : (lg_sl as).length ≤ mL)
    (body : ∀ G : jG, gV G = V → jc cf N G cc own mL rt h → J cf N G 0 (lv_args 0 as) [] σ res) : Ct cf N V y cc mL rt h as σ res := by
  intro sz
  refine Met.ofW (cc := cc) (maxL := mL) (ret := rt) hy rfl ?_
  intro p e s m args below meth c s₁ B hml hv
  obtain ⟨rfl, hsz, hP, hK, hD0, hN, hE⟩ := hv
  subst hsz
  have hts := atoms_spec (ws := .code y cc mL rt :: jT) B.pre
  rw [lg_entry_eq]
  refine body (V, (p, e, _, s, m, as.toArray, below, meth, c), (mL, rt, va_A (wd cf N V σ) s.heap.size)) rfl ⟨B.exec, B.bytes, hml, ?_, fun w hw => hts w (List.mem_cons_of_mem _ hw), B.returns, rfl, rfl, B.notSynchronized, hK, fun σ' => wd_D hD0.self σ', fun q h => Or.inr h, hN, hE, rfl⟩ s.heap [] _ hP va_S.rf (lv_entry as hl)
  rw [← ho]
  exact findClass_of_methodNamed B.named
section JROWS
variable {cf : jF} {N : Nat} {G : jG} {cc : ByteArray} {own : String} {mL : Nat} {rt : Option FieldType} {h : Nat} {pc : Nat} {ls : jL} {st : List Value} {σ : jS} {res : Int32 × jS}
theorem j_ls {ls' : jL} (ks : List Nat) (hl : lv_pick ls ks = ls') (kk : J cf N G pc ls' st σ res) : J cf N G pc ls st σ res := fun H locs la hP hS hL => kk H locs la hP hS (lv_sub hL ks hl)
theorem j_iconst (C : jc cf N G cc own mL rt h) {n : Int} {v : Int32} (hdg : decode cc pc = .ok (.iconst n, 1)) (hv : Int32.ofInt n = v) (kk : J cf N G (pc + 1) ls (.int v :: st) σ res) : J cf N G pc ls st σ res := fun H locs la hP hS hL => lv_iconst C.1 C.2.1 hdg hv (kk H locs la hP hS hL)
theorem j_bipush (C : jc cf N G cc own mL rt h) {n : Int} {v : Int32} (hdg : decode cc pc = .ok (.bipush n, 2)) (hv : (Int8.ofInt n).toInt32 = v) (kk : J cf N G (pc + 2) ls (.int v :: st) σ res) : J cf N G pc ls st σ res := fun H locs la hP hS hL => lv_bipush C.1 C.2.1 hdg hv (kk H locs la hP hS hL)
theorem j_sipush (C : jc cf N G cc own mL rt h) {n : Int} {v : Int32} (hdg : decode cc pc = .ok (.sipush n, 3)) (hv : (Int16.ofInt n).toInt32 = v) (kk : J cf N G (pc + 3) ls (.int v :: st) σ res) : J cf N G pc ls st σ res := fun H locs la hP hS hL => lv_sipush C.1 C.2.1 hdg hv (kk H locs la hP hS hL)
theorem j_ldc (C : jc cf N G cc own mL rt h) {i : Nat} {v : Int32} (hdg : decode cc pc = .ok (.ldc i, 2)) (hw : Cond.constant own i v ∈ jT) (kk : J cf N G (pc + 2) ls (.int v :: st) σ res) : J cf N G pc ls st σ res := fun H locs la hP hS hL => lv_ldc C.1 C.2.1 C.2.2.2.1 (C.2.2.2.2.1 _ hw) hdg (kk H locs la hP hS hL)
theorem j_ldcw (C : jc cf N G cc own mL rt h) {i : Nat} {v : Int32} (hdg : decode cc pc = .ok (.ldc_w i, 3)) (hw : Cond.constant own i v ∈ jT) (kk : J cf N G (pc + 3) ls (.int v :: st) σ res) : J cf N G pc ls st σ res := fun H locs la hP hS hL => lv_ldcw C.1 C.2.1 C.2.2.2.1 (C.2.2.2.2.1 _ hw) hdg (kk H locs la hP hS hL)
theorem j_iloadn (C : jc cf N G cc own mL rt h) {n : Fin 4} {i : Nat} {x : Int32} (k : Nat) (hdg : decode cc pc = .ok (.iload_n n, 1)) (hi : (n : Nat) = i) (hk : ls[k]? = some (i, .int x)) (kk : J cf N G (pc + 1) ls (.int x :: st) σ res) : J cf N G pc ls st σ res := fun H locs la hP hS hL => lv_iload_n C.1 C.2.1 hdg hi (lv_at hL k hk) (kk H locs la hP hS hL)
theorem j_iload (C : jc cf N G cc own mL rt h) {i : Nat} {x : Int32} (k : Nat) (hdg : decode cc pc = .ok (.iload i, 2)) (hk : ls[k]? = some (i, .int x)) (kk : J cf N G (pc + 2) ls (.int x :: st) σ res) : J cf N G pc ls st σ res := fun H locs la hP hS hL => lv_iload C.1 C.2.1 hdg (lv_at hL k hk) (kk H locs la hP hS hL)
theorem j_aloadn (C : jc cf N G cc own mL rt h) {n : Fin 4} {i : Nat} {x : Nat} (k : Nat) (hdg : decode cc pc = .ok (.aload_n n, 1)) (hi : (n : Nat) = i) (hk : ls[k]? = some (i, .ref x)) (kk : J cf N G (pc + 1) ls (.ref x :: st) σ res) : J cf N G pc ls st σ res := fun H locs la hP hS hL => lv_aload_n C.1 C.2.1 hdg hi (lv_at hL k hk) (kk H locs la hP hS hL)
theorem j_istoren (C : jc cf N G cc own mL rt h) {n : Fin 4} {i : Nat} {x : Int32} {ls' : jL} (hdg : decode cc pc = .ok (.istore_n n, 1)) (hi : (n : Nat) = i) (hn : i < mL) (hl : (i, Value.int x) :: ls.filter (fun q => !(q.1 == i) && !(q.1 + 1 == i && q.2.category == 2)) = ls') (kk : J cf N G (pc + 1) ls' st σ res) : J cf N G pc ls (.int x :: st) σ res := fun H locs la hP hS hL => lv_istore_n C.1 C.2.1 hdg hi hL (by rw [C.2.2.2.2.2.2.2.1]; exact hn) hl (fun la hL => kk H locs la hP hS hL)
theorem j_istore (C : jc cf N G cc own mL rt h) {i : Nat} {x : Int32} {ls' : jL} (hdg : decode cc pc = .ok (.istore i, 2)) (hn : i < mL) (hl : (i, Value.int x) :: ls.filter (fun q => !(q.1 == i) && !(q.1 + 1 == i && q.2.category == 2)) = ls') (kk : J cf N G (pc + 2) ls' st σ res) : J cf N G pc ls (.int x :: st) σ res := fun H locs la hP hS hL => lv_istore C.1 C.2.1 hdg hL (by rw [C.2.2.2.2.2.2.2.1]; exact hn) hl (fun la hL => kk H locs la hP hS hL)
theorem j_astoren (C : jc cf N G cc own mL rt h) {n : Fin 4} {i : Nat} {x : Nat} {ls' : jL} (hdg : decode cc pc = .ok (.astore_n n, 1)) (hi : (n : Nat) = i) (hn : i < mL) (hl : (i, Value.ref x) :: ls.filter (fun q => !(q.1 == i) && !(q.1 + 1 == i && q.2.category == 2)) = ls') (kk : J cf N G (pc + 1) ls' st σ res) : J cf N G pc ls (.ref x :: st) σ res := fun H locs la hP hS hL => lv_astore_n C.1 C.2.1 hdg hi hL (by rw [C.2.2.2.2.2.2.2.1]; exact hn) hl (fun la hL => kk H locs la hP hS hL)
theorem j_iinc (C : jc cf N G cc own mL rt h) {i : Nat} {n : Int} {x v : Int32} {ls' : jL} (k : Nat) (hdg : decode cc pc = .ok (.iinc i n, 3)) (hk : ls[k]? = some (i, .int x)) (hv : x + Int32.ofInt n = v) (hn : i < mL) (hl : (i, Value.int v) :: ls.filter (fun q => !(q.1 == i) && !(q.1 + 1 == i && q.2.category == 2)) = ls') (kk : J cf N G (pc + 3) ls' st σ res) : J cf N G pc ls st σ res := fun H locs la hP hS hL => lv_iinc C.1 C.2.1 hdg hL hk hv (by rw [C.2.2.2.2.2.2.2.1]; exact hn) hl (fun la hL => kk H locs la hP hS hL)
theorem j_iadd (C : jc cf N G cc own mL rt h) {x y : Int32} (hdg : decode cc pc = .ok (.iadd, 1)) (kk : J cf N G (pc + 1) ls (.int (x + y) :: st) σ res) : J cf N G pc ls (.int y :: .int x :: st) σ res := fun H locs la hP hS hL => lv_iadd C.1 C.2.1 hdg (kk H locs la hP hS hL)
theorem j_isub (C : jc cf N G cc own mL rt h) {x y : Int32} (hdg : decode cc pc = .ok (.isub, 1)) (kk : J cf N G (pc + 1) ls (.int (x - y) :: st) σ res) : J cf N G pc ls (.int y :: .int x :: st) σ res := fun H locs la hP hS hL => lv_isub C.1 C.2.1 hdg (kk H locs la hP hS hL)
theorem j_imul (C : jc cf N G cc own mL rt h) {x y : Int32} (hdg : decode cc pc = .ok (.imul, 1)) (kk : J cf N G (pc + 1) ls (.int (x * y) :: st) σ res) : J cf N G pc ls (.int y :: .int x :: st) σ res := fun H locs la hP hS hL => lv_imul C.1 C.2.1 hdg (kk H locs la hP hS hL)
theorem j_iand (C : jc cf N G cc own mL rt h) {x y : Int32} (hdg : decode cc pc = .ok (.iand, 1)) (kk : J cf N G (pc + 1) ls (.int (x &&& y) :: st) σ res) : J cf N G pc ls (.int y :: .int x :: st) σ res := fun H locs la hP hS hL => lv_iand C.1 C.2.1 hdg (kk H locs la hP hS hL)
theorem j_ior (C : jc cf N G cc own mL rt h) {x y : Int32} (hdg : decode cc pc = .ok (.ior, 1)) (kk : J cf N G (pc + 1) ls (.int (x ||| y) :: st) σ res) : J cf N G pc ls (.int y :: .int x :: st) σ res := fun H locs la hP hS hL => lv_ior C.1 C.2.1 hdg (kk H locs la hP hS hL)
theorem j_ixor (C : jc cf N G cc own mL rt h) {x y : Int32} (hdg : decode cc pc = .ok (.ixor, 1)) (kk : J cf N G (pc + 1) ls (.int (x ^^^ y) :: st) σ res) : J cf N G pc ls (.int y :: .int x :: st) σ res := fun H locs la hP hS hL => lv_ixor C.1 C.2.1 hdg (kk H locs la hP hS hL)
theorem j_ishl (C : jc cf N G cc own mL rt h) {x y : Int32} (hdg : decode cc pc = .ok (.ishl, 1)) (kk : J cf N G (pc + 1) ls (.int (x <<< (y &&& 31)) :: st) σ res) : J cf N G pc ls (.int y :: .int x :: st) σ res := fun H locs la hP hS hL => lv_ishl C.1 C.2.1 hdg (kk H locs la hP hS hL)
theorem j_ishr (C : jc cf N G cc own mL rt h) {x y : Int32} (hdg : decode cc pc = .ok (.ishr, 1)) (kk : J cf N G (pc + 1) ls (.int (x >>> (y &&& 31)) :: st) σ res) : J cf N G pc ls (.int y :: .int x :: st) σ res := fun H locs la hP hS hL => lv_ishr C.1 C.2.1 hdg (kk H locs la hP hS hL)
theorem j_iushr (C : jc cf N G cc own mL rt h) {x y : Int32} (hdg : decode cc pc = .ok (.iushr, 1)) (kk : J cf N G (pc + 1) ls (.int ((x.toUInt32 >>> (y.toUInt32 &&& Int32.toUInt32 31)).toInt32) :: st) σ res) : J cf N G pc ls (.int y :: .int x :: st) σ res := fun H locs la hP hS hL => lv_iushr C.1 C.2.1 hdg rfl (kk H locs la hP hS hL)
theorem j_ineg (C : jc cf N G cc own mL rt h) {x : Int32} (hdg : decode cc pc = .ok (.ineg, 1)) (kk : J cf N G (pc + 1) ls (.int (-x) :: st) σ res) : J cf N G pc ls (.int x :: st) σ res := fun H locs la hP hS hL => lv_ineg C.1 C.2.1 hdg (kk H locs la hP hS hL)
theorem j_i2b (C : jc cf N G cc own mL rt h) {x : Int32} (hdg : decode cc pc = .ok (.i2b, 1)) (kk : J cf N G (pc + 1) ls (.int (x.toInt8.toInt32) :: st) σ res) : J cf N G pc ls (.int x :: st) σ res := fun H locs la hP hS hL => lv_i2b C.1 C.2.1 hdg rfl (kk H locs la hP hS hL)
theorem j_i2c (C : jc cf N G cc own mL rt h) {x : Int32} (hdg : decode cc pc = .ok (.i2c, 1)) (kk : J cf N G (pc + 1) ls (.int ((x.toUInt32 % 65536).toInt32) :: st) σ res) : J cf N G pc ls (.int x :: st) σ res := fun H locs la hP hS hL => lv_i2c C.1 C.2.1 hdg rfl (kk H locs la hP hS hL)
theorem j_idiv (C : jc cf N G cc own mL rt h) {α : Type} {M : Option α} {v : α} {x y : Int32} (hdg : decode cc pc = .ok (.idiv, 1)) (hm : (if y = 0 then none else M) = some v) (kk : M = some v → J cf N G (pc + 1) ls (.int (x / y) :: st) σ res) : J cf N G pc ls (.int y :: .int x :: st) σ res := by
  by_cases hy : y = 0
  · rw [if_pos hy] at hm; cases hm
  · rw [if_neg hy] at hm
    exact fun H locs la hP hS hL => lv_idiv C.1 C.2.1 hdg hy (kk hm H locs la hP hS hL)
theorem j_idivK (C : jc cf N G cc own mL rt h) {x y : Int32} (hdg : decode cc pc = .ok (.idiv, 1)) (hy : ¬ y = 0) (kk : J cf N G (pc + 1) ls (.int (x / y) :: st) σ res) : J cf N G pc ls (.int y :: .int x :: st) σ res := fun H locs la hP hS hL => lv_idiv C.1 C.2.1 hdg hy (kk H locs la hP hS hL)
theorem j_irem (C : jc cf N G cc own mL rt h) {α : Type} {M : Option α} {v : α} {x y : Int32} (hdg : decode cc pc = .ok (.irem, 1)) (hm : (if y = 0 then none else M) = some v) (kk : M = some v → J cf N G (pc + 1) ls (.int (x - x / y * y) :: st) σ res) : J cf N G pc ls (.int y :: .int x :: st) σ res := by
  by_cases hy : y = 0
  · rw [if_pos hy] at hm; cases hm
  · rw [if_neg hy] at hm
    exact fun H locs la hP hS hL => lv_irem C.1 C.2.1 hdg hy (kk hm H locs la hP hS hL)
theorem j_iremK (C : jc cf N G cc own mL rt h) {x y : Int32} (hdg : decode cc pc = .ok (.irem, 1)) (hy : ¬ y = 0) (kk : J cf N G (pc + 1) ls (.int (x - x / y * y) :: st) σ res) : J cf N G pc ls (.int y :: .int x :: st) σ res := fun H locs la hP hS hL => lv_irem C.1 C.2.1 hdg hy (kk H locs la hP hS hL)
theorem j_dup (C : jc cf N G cc own mL rt h) {va : Value} (hdg : decode cc pc = .ok (.dup, 1)) (hva : va.category = 1) (kk : J cf N G (pc + 1) ls (va :: va :: st) σ res) : J cf N G pc ls (va :: st) σ res := fun H locs la hP hS hL => lv_dup C.1 C.2.1 hdg hva (kk H locs la hP hS hL)
theorem j_dup2 (C : jc cf N G cc own mL rt h) {va vb : Value} (hdg : decode cc pc = .ok (.dup2, 1)) (hva : va.category = 1) (hvb : vb.category = 1) (kk : J cf N G (pc + 1) ls (va :: vb :: va :: vb :: st) σ res) : J cf N G pc ls (va :: vb :: st) σ res := fun H locs la hP hS hL => lv_dup2_11 C.1 C.2.1 hdg hva hvb (kk H locs la hP hS hL)
theorem j_pop (C : jc cf N G cc own mL rt h) {va : Value} (hdg : decode cc pc = .ok (.pop, 1)) (hva : va.category = 1) (kk : J cf N G (pc + 1) ls st σ res) : J cf N G pc ls (va :: st) σ res := fun H locs la hP hS hL => lv_pop C.1 C.2.1 hdg hva (kk H locs la hP hS hL)
theorem j_goto (C : jc cf N G cc own mL rt h) {off : Int} {tgt : Nat} (hdg : decode cc pc = .ok (.goto off, 3)) (ht : (pc : Int) + off = (tgt : Int)) (kk : J cf N G (tgt) ls st σ res) : J cf N G pc ls st σ res := fun H locs la hP hS hL => lv_goto C.1 C.2.1 hdg ht (kk H locs la hP hS hL)
theorem j_if_eq (C : jc cf N G cc own mL rt h) {α : Type} {A B : Option α} {v : α} {x : Int32} {off : Int} {tgt : Nat} (hdg : decode cc pc = .ok (.ifCond .eq off, 3)) (ht : (pc : Int) + off = (tgt : Int)) (hm : (if x = 0 then A else B) = some v) (kt : x = 0 → A = some v → J cf N G (tgt) ls st σ res) (kf : ¬ x = 0 → B = some v → J cf N G (pc + 3) ls st σ res) : J cf N G pc ls (.int x :: st) σ res := fun H locs la hP hS hL => lv_if_eq C.1 C.2.1 hdg ht (fun c => kt c (by rw [if_pos c] at hm; exact hm) H locs la hP hS hL) (fun c => kf c (by rw [if_neg c] at hm; exact hm) H locs la hP hS hL)
theorem j_icmp_eq (C : jc cf N G cc own mL rt h) {α : Type} {A B : Option α} {v : α} {x y : Int32} {off : Int} {tgt : Nat} (hdg : decode cc pc = .ok (.if_icmp .eq off, 3)) (ht : (pc : Int) + off = (tgt : Int)) (hm : (if x = y then A else B) = some v) (kt : x = y → A = some v → J cf N G (tgt) ls st σ res) (kf : ¬ x = y → B = some v → J cf N G (pc + 3) ls st σ res) : J cf N G pc ls (.int y :: .int x :: st) σ res := fun H locs la hP hS hL => lv_icmp_eq C.1 C.2.1 hdg ht (fun c => kt c (by rw [if_pos c] at hm; exact hm) H locs la hP hS hL) (fun c => kf c (by rw [if_neg c] at hm; exact hm) H locs la hP hS hL)
theorem j_if_ne (C : jc cf N G cc own mL rt h) {α : Type} {A B : Option α} {v : α} {x : Int32} {off : Int} {tgt : Nat} (hdg : decode cc pc = .ok (.ifCond .ne off, 3)) (ht : (pc : Int) + off = (tgt : Int)) (hm : (if x = 0 then A else B) = some v) (kt : x = 0 → A = some v → J cf N G (pc + 3) ls st σ res) (kf : ¬ x = 0 → B = some v → J cf N G (tgt) ls st σ res) : J cf N G pc ls (.int x :: st) σ res := fun H locs la hP hS hL => lv_if_ne C.1 C.2.1 hdg ht (fun c => kf (c) (by rw [if_neg (c)] at hm; exact hm) H locs la hP hS hL) (fun c => kt c (by rw [if_pos c] at hm; exact hm) H locs la hP hS hL)
theorem j_icmp_ne (C : jc cf N G cc own mL rt h) {α : Type} {A B : Option α} {v : α} {x y : Int32} {off : Int} {tgt : Nat} (hdg : decode cc pc = .ok (.if_icmp .ne off, 3)) (ht : (pc : Int) + off = (tgt : Int)) (hm : (if x = y then A else B) = some v) (kt : x = y → A = some v → J cf N G (pc + 3) ls st σ res) (kf : ¬ x = y → B = some v → J cf N G (tgt) ls st σ res) : J cf N G pc ls (.int y :: .int x :: st) σ res := fun H locs la hP hS hL => lv_icmp_ne C.1 C.2.1 hdg ht (fun c => kf (c) (by rw [if_neg (c)] at hm; exact hm) H locs la hP hS hL) (fun c => kt c (by rw [if_pos c] at hm; exact hm) H locs la hP hS hL)
theorem j_if_lt (C : jc cf N G cc own mL rt h) {α : Type} {A B : Option α} {v : α} {x : Int32} {off : Int} {tgt : Nat} (hdg : decode cc pc = .ok (.ifCond .lt off, 3)) (ht : (pc : Int) + off = (tgt : Int)) (hm : (if x < 0 then A else B) = some v) (kt : x < 0 → A = some v → J cf N G (tgt) ls st σ res) (kf : ¬ x < 0 → B = some v → J cf N G (pc + 3) ls st σ res) : J cf N G pc ls (.int x :: st) σ res := fun H locs la hP hS hL => lv_if_lt C.1 C.2.1 hdg ht (fun c => kt c (by rw [if_pos c] at hm; exact hm) H locs la hP hS hL) (fun c => kf c (by rw [if_neg c] at hm; exact hm) H locs la hP hS hL)
theorem j_icmp_lt (C : jc cf N G cc own mL rt h) {α : Type} {A B : Option α} {v : α} {x y : Int32} {off : Int} {tgt : Nat} (hdg : decode cc pc = .ok (.if_icmp .lt off, 3)) (ht : (pc : Int) + off = (tgt : Int)) (hm : (if x < y then A else B) = some v) (kt : x < y → A = some v → J cf N G (tgt) ls st σ res) (kf : ¬ x < y → B = some v → J cf N G (pc + 3) ls st σ res) : J cf N G pc ls (.int y :: .int x :: st) σ res := fun H locs la hP hS hL => lv_icmp_lt C.1 C.2.1 hdg ht (fun c => kt c (by rw [if_pos c] at hm; exact hm) H locs la hP hS hL) (fun c => kf c (by rw [if_neg c] at hm; exact hm) H locs la hP hS hL)
theorem j_if_ge (C : jc cf N G cc own mL rt h) {α : Type} {A B : Option α} {v : α} {x : Int32} {off : Int} {tgt : Nat} (hdg : decode cc pc = .ok (.ifCond .ge off, 3)) (ht : (pc : Int) + off = (tgt : Int)) (hm : (if x < 0 then A else B) = some v) (kt : x < 0 → A = some v → J cf N G (pc + 3) ls st σ res) (kf : ¬ x < 0 → B = some v → J cf N G (tgt) ls st σ res) : J cf N G pc ls (.int x :: st) σ res := fun H locs la hP hS hL => lv_if_ge C.1 C.2.1 hdg ht (fun c => kf (Int32.not_lt.mpr c) (by rw [if_neg (Int32.not_lt.mpr c)] at hm; exact hm) H locs la hP hS hL) (fun c => kt (Int32.not_le.mp c) (by rw [if_pos (Int32.not_le.mp c)] at hm; exact hm) H locs la hP hS hL)
theorem j_icmp_ge (C : jc cf N G cc own mL rt h) {α : Type} {A B : Option α} {v : α} {x y : Int32} {off : Int} {tgt : Nat} (hdg : decode cc pc = .ok (.if_icmp .ge off, 3)) (ht : (pc : Int) + off = (tgt : Int)) (hm : (if x < y then A else B) = some v) (kt : x < y → A = some v → J cf N G (pc + 3) ls st σ res) (kf : ¬ x < y → B = some v → J cf N G (tgt) ls st σ res) : J cf N G pc ls (.int y :: .int x :: st) σ res := fun H locs la hP hS hL => lv_icmp_ge C.1 C.2.1 hdg ht (fun c => kf (Int32.not_lt.mpr c) (by rw [if_neg (Int32.not_lt.mpr c)] at hm; exact hm) H locs la hP hS hL) (fun c => kt (Int32.not_le.mp c) (by rw [if_pos (Int32.not_le.mp c)] at hm; exact hm) H locs la hP hS hL)
theorem j_if_gt (C : jc cf N G cc own mL rt h) {α : Type} {A B : Option α} {v : α} {x : Int32} {off : Int} {tgt : Nat} (hdg : decode cc pc = .ok (.ifCond .gt off, 3)) (ht : (pc : Int) + off = (tgt : Int)) (hm : (if 0 < x then A else B) = some v) (kt : 0 < x → A = some v → J cf N G (tgt) ls st σ res) (kf : ¬ 0 < x → B = some v → J cf N G (pc + 3) ls st σ res) : J cf N G pc ls (.int x :: st) σ res := fun H locs la hP hS hL => lv_if_gt C.1 C.2.1 hdg ht (fun c => kt c (by rw [if_pos c] at hm; exact hm) H locs la hP hS hL) (fun c => kf c (by rw [if_neg c] at hm; exact hm) H locs la hP hS hL)
theorem j_icmp_gt (C : jc cf N G cc own mL rt h) {α : Type} {A B : Option α} {v : α} {x y : Int32} {off : Int} {tgt : Nat} (hdg : decode cc pc = .ok (.if_icmp .gt off, 3)) (ht : (pc : Int) + off = (tgt : Int)) (hm : (if y < x then A else B) = some v) (kt : y < x → A = some v → J cf N G (tgt) ls st σ res) (kf : ¬ y < x → B = some v → J cf N G (pc + 3) ls st σ res) : J cf N G pc ls (.int y :: .int x :: st) σ res := fun H locs la hP hS hL => lv_icmp_gt C.1 C.2.1 hdg ht (fun c => kt c (by rw [if_pos c] at hm; exact hm) H locs la hP hS hL) (fun c => kf c (by rw [if_neg c] at hm; exact hm) H locs la hP hS hL)
theorem j_if_le (C : jc cf N G cc own mL rt h) {α : Type} {A B : Option α} {v : α} {x : Int32} {off : Int} {tgt : Nat} (hdg : decode cc pc = .ok (.ifCond .le off, 3)) (ht : (pc : Int) + off = (tgt : Int)) (hm : (if 0 < x then A else B) = some v) (kt : 0 < x → A = some v → J cf N G (pc + 3) ls st σ res) (kf : ¬ 0 < x → B = some v → J cf N G (tgt) ls st σ res) : J cf N G pc ls (.int x :: st) σ res := fun H locs la hP hS hL => lv_if_le C.1 C.2.1 hdg ht (fun c => kf (Int32.not_lt.mpr c) (by rw [if_neg (Int32.not_lt.mpr c)] at hm; exact hm) H locs la hP hS hL) (fun c => kt (Int32.not_le.mp c) (by rw [if_pos (Int32.not_le.mp c)] at hm; exact hm) H locs la hP hS hL)
theorem j_icmp_le (C : jc cf N G cc own mL rt h) {α : Type} {A B : Option α} {v : α} {x y : Int32} {off : Int} {tgt : Nat} (hdg : decode cc pc = .ok (.if_icmp .le off, 3)) (ht : (pc : Int) + off = (tgt : Int)) (hm : (if y < x then A else B) = some v) (kt : y < x → A = some v → J cf N G (pc + 3) ls st σ res) (kf : ¬ y < x → B = some v → J cf N G (tgt) ls st σ res) : J cf N G pc ls (.int y :: .int x :: st) σ res := fun H locs la hP hS hL => lv_icmp_le C.1 C.2.1 hdg ht (fun c => kf (Int32.not_lt.mpr c) (by rw [if_neg (Int32.not_lt.mpr c)] at hm; exact hm) H locs la hP hS hL) (fun c => kt (Int32.not_le.mp c) (by rw [if_pos (Int32.not_le.mp c)] at hm; exact hm) H locs la hP hS hL)
theorem j_guard {α : Type} {M : Option α} {v : α} {b : Bool} (hm : (if b = true then M else none) = some v) (kk : b = true → M = some v → J cf N G pc ls st σ res) : J cf N G pc ls st σ res := by
  by_cases hb : b = true
  · rw [if_pos hb] at hm; exact kk hb hm
  · rw [if_neg hb] at hm; cases hm
theorem j_guardN {α : Type} {M : Option α} {v : α} {a b : Nat} (hm : (if a = b then M else none) = some v) (kk : a = b → M = some v → J cf N G pc ls st σ res) : J cf N G pc ls st σ res := by
  by_cases hb : a = b
  · rw [if_pos hb] at hm; exact kk hb hm
  · rw [if_neg hb] at hm; cases hm
theorem j_get (C : jc cf N G cc own mL rt h) {ci nf : Nat} {T : u_T} {C0 : String} {fs : List Value} {c k : Nat} {i : Nat} {v : Value} (hin : ∀ w ∈ u_ws C0 T nf, w ∈ jT) (hc : c < N) (he : cf (gV G) c (σ c) = .inr (ci, fs)) (hcl : vwCl[ci]? = some (C0, T, nf)) (hk : k < nf) (hw : Cond.fieldLink own i (T k).1 (T k).2.1 (T k).2.2.1 ∈ jT) (hv : fs[k]? = some v) (hdg : decode cc pc = .ok (.getfield i, 3)) (kk : J cf N G (pc + 3) ls (v :: st) σ res) : J cf N G pc ls (.ref (vad (gV G) c) :: st) σ res := fun H locs la hP hS hL => va_get C.1 C.2.1 C.2.2.2.2.1 hin C.2.2.2.1 C.2.2.2.2.2.2.2.2.2.1 hP c (by rw [wd_at hc, he]) hcl k hk (C.2.2.2.2.1 _ hw) (fun _ h9 => h9) hv hdg (kk H locs la hP hS hL)
theorem j_getN (C : jc cf N G cc own mL rt h) {ci nf : Nat} {T : u_T} {C0 : String} {fs : List Value} {c k : Nat} {i : Nat} {v : Value} {host : String} (hin : ∀ w ∈ u_ws C0 T nf, w ∈ jT) (hc : c < N) (he : cf (gV G) c (σ c) = .inr (ci, fs)) (hcl : vwCl[ci]? = some (C0, T, nf)) (hk : k < nf) (hw : Cond.fieldLinkNest own i (T k).1 (T k).2.1 (T k).2.2.1 host ∈ jN) (hv : fs[k]? = some v) (hdg : decode cc pc = .ok (.getfield i, 3)) (kk : J cf N G (pc + 3) ls (v :: st) σ res) : J cf N G pc ls (.ref (vad (gV G) c) :: st) σ res := fun H locs la hP hS hL => va_getN C.1 C.2.1 C.2.2.2.2.1 hin C.2.2.2.1 C.2.2.2.2.2.2.2.2.2.1 hP c (by rw [wd_at hc, he]) hcl k hk (va_Nw.use rfl (C.2.2.2.2.2.2.2.2.2.2.2.2.1 _ hw)) (fun _ h9 => h9) hv hdg (kk H locs la hP hS hL)
theorem j_put (C : jc cf N G cc own mL rt h) {ci nf : Nat} {T : u_T} {C0 : String} {fs : List Value} {c k : Nat} {i : Nat} {v : Value} {ty : FieldType} {x : Int32} (ty0 : Nat → FieldType) (hty : ∀ k, k < nf → parseFieldDescriptor (T k).2.2.1 = some (ty0 k)) (hnm : ∀ a, a < nf → ∀ b, b < nf → a ≠ b → (T a).2.1 ≠ (T b).2.1) (hin : ∀ w ∈ u_ws C0 T nf, w ∈ jT) (hc : c < N) (he : cf (gV G) c (σ c) = .inr (ci, fs)) (hcl : vwCl[ci]? = some (C0, T, nf)) (hk : k < nf) (hw : Cond.fieldLink own i (T k).1 (T k).2.1 (T k).2.2.1 ∈ jT) (hfin : (T k).2.2.2 = false) (hd : parseFieldDescriptor (T k).2.2.1 = some ty) (hn : narrow ty v = v) (hfit : fits ty v = true) (hl : k < fs.length) (hset : cf (gV G) c (upd (σ c) k x) = .inr (ci, fs.set k v)) (hdg : decode cc pc = .ok (.putfield i, 3)) (kk : J cf N G (pc + 3) ls st (js σ c k x) res) : J cf N G pc ls (v :: .ref (vad (gV G) c) :: st) σ res := fun H locs la hP hS hL => va_put C.1 C.2.1 C.2.2.2.2.1 hin ty0 hty hnm C.2.2.2.1 C.2.2.2.2.2.2.2.2.2.1 hP (C.2.2.2.2.2.2.2.2.2.2.1 σ) hS c (by rw [wd_at hc, he]) hcl k hk (C.2.2.2.2.1 _ hw) (fun _ h9 => h9) hfin hd hn hfit hl hdg (fun H locs hP _ hS => kk H locs la (by rw [← hset, wd_set _ hc] at hP; exact hP) hS hL)
theorem j_putN (C : jc cf N G cc own mL rt h) {ci nf : Nat} {T : u_T} {C0 : String} {fs : List Value} {c k : Nat} {i : Nat} {host : String} {v : Value} {ty : FieldType} {x : Int32} (ty0 : Nat → FieldType) (hty : ∀ k, k < nf → parseFieldDescriptor (T k).2.2.1 = some (ty0 k)) (hnm : ∀ a, a < nf → ∀ b, b < nf → a ≠ b → (T a).2.1 ≠ (T b).2.1) (hin : ∀ w ∈ u_ws C0 T nf, w ∈ jT) (hc : c < N) (he : cf (gV G) c (σ c) = .inr (ci, fs)) (hcl : vwCl[ci]? = some (C0, T, nf)) (hk : k < nf) (hw : Cond.fieldLinkNest own i (T k).1 (T k).2.1 (T k).2.2.1 host ∈ jN) (hfin : (T k).2.2.2 = false) (hd : parseFieldDescriptor (T k).2.2.1 = some ty) (hn : narrow ty v = v) (hfit : fits ty v = true) (hl : k < fs.length) (hset : cf (gV G) c (upd (σ c) k x) = .inr (ci, fs.set k v)) (hdg : decode cc pc = .ok (.putfield i, 3)) (kk : J cf N G (pc + 3) ls st (js σ c k x) res) : J cf N G pc ls (v :: .ref (vad (gV G) c) :: st) σ res := fun H locs la hP hS hL => va_putN C.1 C.2.1 C.2.2.2.2.1 hin ty0 hty hnm C.2.2.2.1 C.2.2.2.2.2.2.2.2.2.1 hP (C.2.2.2.2.2.2.2.2.2.2.1 σ) hS c (by rw [wd_at hc, he]) hcl k hk (va_Nw.use rfl (C.2.2.2.2.2.2.2.2.2.2.2.2.1 _ hw)) (fun _ h9 => h9) hfin hd hn hfit hl hdg (fun H locs hP _ hS => kk H locs la (by rw [← hset, wd_set _ hc] at hP; exact hP) hS hL)
theorem j_iald (C : jc cf N G cc own mL rt h) {c n : Nat} {i : Int32} (hc : c < N) (he : cf (gV G) c (σ c) = .inl (vcI (gV G), n, .inl (σ c))) (hin : jin i n = true) (hdg : decode cc pc = .ok (.iaload, 1)) (kk : J cf N G (pc + 1) ls (.int (σ c i.toNatClampNeg) :: st) σ res) : J cf N G pc ls (.int i :: .ref (vad (gV G) c) :: st) σ res := fun H locs la hP hS hL => va_iald C.1 C.2.1 C.2.2.2.2.2.2.2.2.2.1 hP c 0 (by rw [wd_at hc, he]) rfl (jin_of hin) hdg (kk H locs la hP hS hL)
theorem j_bald (C : jc cf N G cc own mL rt h) {c n : Nat} {i : Int32} (hc : c < N) (he : cf (gV G) c (σ c) = .inl (vcB (gV G), n, .inl (σ c))) (hin : jin i n = true) (hdg : decode cc pc = .ok (.baload, 1)) (kk : J cf N G (pc + 1) ls (.int (σ c i.toNatClampNeg) :: st) σ res) : J cf N G pc ls (.int i :: .ref (vad (gV G) c) :: st) σ res := fun H locs la hP hS hL => va_bald C.1 C.2.1 C.2.2.2.2.2.2.2.2.2.1 hP c 1 (by rw [wd_at hc, he]) rfl (jin_of hin) hdg (kk H locs la hP hS hL)
theorem j_iast (C : jc cf N G cc own mL rt h) {c n : Nat} {i x : Int32} (hc : c < N) (he : ∀ row, cf (gV G) c row = .inl (vcI (gV G), n, .inl row)) (hin : jin i n = true) (hdg : decode cc pc = .ok (.iastore, 1)) (kk : J cf N G (pc + 1) ls st (js σ c i.toNatClampNeg x) res) : J cf N G pc ls (.int x :: .int i :: .ref (vad (gV G) c) :: st) σ res := fun H locs la hP hS hL => va_iast C.1 C.2.1 C.2.2.2.2.2.2.2.2.2.1 hP (C.2.2.2.2.2.2.2.2.2.2.1 σ) hS c 0 (by rw [wd_at hc, he]) rfl (jin_of hin) hdg (fun H locs hP _ hS => kk H locs la (by rw [← he, wd_set _ hc] at hP; exact hP) hS hL)
theorem j_bast (C : jc cf N G cc own mL rt h) {c n : Nat} {i x : Int32} (hc : c < N) (he : ∀ row, cf (gV G) c row = .inl (vcB (gV G), n, .inl row)) (hin : jin i n = true) (hdg : decode cc pc = .ok (.bastore, 1)) (kk : J cf N G (pc + 1) ls st (js σ c i.toNatClampNeg (vp_nar .byte x)) res) : J cf N G pc ls (.int x :: .int i :: .ref (vad (gV G) c) :: st) σ res := fun H locs la hP hS hL => va_bast C.1 C.2.1 C.2.2.2.2.2.2.2.2.2.1 hP (C.2.2.2.2.2.2.2.2.2.2.1 σ) hS c 1 (by rw [wd_at hc, he]) rfl (jin_of hin) hdg (fun H locs hP _ hS => kk H locs la (by rw [← he, wd_set _ hc] at hP; exact hP) hS hL)
theorem j_alen (C : jc cf N G cc own mL rt h) {c n : Nat} {v : Int32} (hc : c < N) (he : cf (gV G) c (σ c) = .inl (vcI (gV G), n, .inl (σ c))) (hv : Int32.ofNat n = v) (hdg : decode cc pc = .ok (.arraylength, 1)) (kk : J cf N G (pc + 1) ls (.int v :: st) σ res) : J cf N G pc ls (.ref (vad (gV G) c) :: st) σ res := fun H locs la hP hS hL => va_alen C.1 C.2.1 C.2.2.2.2.2.2.2.2.2.1 hP c 0 (x := (n, .inl (σ c))) (by rw [wd_at hc, he]) rfl hv hdg (kk H locs la hP hS hL)
theorem j_mmax (C : jc cf N G cc own mL rt h) {i : Nat} {x y : Int32} (hw : Cond.methodLink own i Lib.Math.max.name ∈ jT) (w2 : Cond.static Lib.Math.max.name ∈ jT) (w3 : Cond.initialized "java/lang/Math" ∈ jT) (w4 : Cond.code Lib.Math.max.name Lib.Math.max.code 2 (some .int) ∈ jT) (hh : 1 ≤ h) (hr : (st.map fun v => v.category).sum ≤ 8) (hdg : decode cc pc = .ok (.invokestatic i, 3)) (kk : J cf N G (pc + 3) ls (.int (if x < y then y else x) :: st) σ res) : J cf N G pc ls (.int y :: .int x :: st) σ res := fun H locs la hP hS hL => va_mmax C.1 C.2.1 (by rw [C.2.2.1]; exact hL.1.symm) C.2.2.2.1 (C.2.2.2.2.1 _ hw) (C.2.2.2.2.1 _ w2) (C.2.2.2.2.1 _ w3) (C.2.2.2.2.1 _ w4) (by rw [C.2.2.2.2.2.2.2.2.2.2.2.2.2.2]; exact hh) (by rw [C.2.2.2.2.2.2.2.2.2.2.2.2.2.2]; show _ ≤ 60 * h; omega) (Nat.zero_le _) (Nat.zero_le _) hdg (kk H locs la hP hS hL)
theorem j_mmin (C : jc cf N G cc own mL rt h) {i : Nat} {x y : Int32} (hw : Cond.methodLink own i Lib.Math.min.name ∈ jT) (w2 : Cond.static Lib.Math.min.name ∈ jT) (w3 : Cond.initialized "java/lang/Math" ∈ jT) (w4 : Cond.code Lib.Math.min.name Lib.Math.min.code 2 (some .int) ∈ jT) (hh : 1 ≤ h) (hr : (st.map fun v => v.category).sum ≤ 8) (hdg : decode cc pc = .ok (.invokestatic i, 3)) (kk : J cf N G (pc + 3) ls (.int (if y < x then y else x) :: st) σ res) : J cf N G pc ls (.int y :: .int x :: st) σ res := fun H locs la hP hS hL => va_mmin C.1 C.2.1 (by rw [C.2.2.1]; exact hL.1.symm) C.2.2.2.1 (C.2.2.2.2.1 _ hw) (C.2.2.2.2.1 _ w2) (C.2.2.2.2.1 _ w3) (C.2.2.2.2.1 _ w4) (by rw [C.2.2.2.2.2.2.2.2.2.2.2.2.2.2]; exact hh) (by rw [C.2.2.2.2.2.2.2.2.2.2.2.2.2.2]; show _ ≤ 60 * h; omega) (Nat.zero_le _) (Nat.zero_le _) hdg (kk H locs la hP hS hL)
theorem j_iret (C : jc cf N G cc own mL rt h) {v : Int32} {r : Int32} (hrt : rt = some .int) (hdg : decode cc pc = .ok (.ireturn, 1)) (hm : some v = some r) : J cf N G pc ls [.int v] σ (r, σ) := by
  cases hm
  subst hrt
  intro H locs la hP hS hL
  have hP9 := hP
  refine W.iret (Qc := jpost cf N (gV G) (gt G) (gA G) (v, σ)) C.1 C.2.1 C.2.2.2.2.2.1 (fun t ht hW => ?_) hS.2.2 hdg C.2.2.2.2.2.2.2.2.1
  rw [C.2.2.2.2.2.2.1]
  exact ⟨⟨v, (), rfl, rfl, by rw [ht]; exact hP9, va_K.moved hW.alike C.2.2.2.2.2.2.2.2.2.1, C.2.2.2.2.2.2.2.2.2.2.1 σ⟩, hS.F ht⟩
theorem j_zret (C : jc cf N G cc own mL rt h) {v : Int32} {r : Int32} (hrt : rt = some .boolean) (hb : jbo v = true) (hdg : decode cc pc = .ok (.ireturn, 1)) (hm : some v = some r) : J cf N G pc ls [.int v] σ (r, σ) := by
  cases hm
  subst hrt
  intro H locs la hP hS hL
  have hP9 := hP
  refine W.zret (Qc := jpost cf N (gV G) (gt G) (gA G) (v, σ)) C.1 C.2.1 C.2.2.2.2.2.1 (jbo_nar hb) (fun t ht hW => ?_) hS.2.2 hdg C.2.2.2.2.2.2.2.2.1
  rw [C.2.2.2.2.2.2.1]
  exact ⟨⟨v, (), rfl, rfl, by rw [ht]; exact hP9, va_K.moved hW.alike C.2.2.2.2.2.2.2.2.2.1, C.2.2.2.2.2.2.2.2.2.2.1 σ⟩, hS.F ht⟩
theorem j_iretS (C : jc cf N G cc own mL rt h) {v : Int32} (hrt : rt = some .int) (hdg : decode cc pc = .ok (.ireturn, 1)) (hm : some (v, σ) = some res) : J cf N G pc ls [.int v] σ res := by
  cases hm
  exact j_iret C hrt hdg rfl
theorem j_zretS (C : jc cf N G cc own mL rt h) {v : Int32} (hrt : rt = some .boolean) (hb : jbo v = true) (hdg : decode cc pc = .ok (.ireturn, 1)) (hm : some (v, σ) = some res) : J cf N G pc ls [.int v] σ res := by
  cases hm
  exact j_zret C hrt hb hdg rfl
theorem j_vret (C : jc cf N G cc own mL rt h) {σ' : jS} (hrt : rt = none) (hdg : decode cc pc = .ok (.return_, 1)) (hm : some σ = some σ') : J cf N G pc ls [] σ (0, σ') := by
  cases hm
  subst hrt
  intro H locs la hP hS hL
  have hP9 := hP
  refine W.vret (Qc := jpost cf N (gV G) (gt G) (gA G) (0, σ)) C.1 C.2.1 C.2.2.2.2.2.1 (fun t ht hW => ?_) hS.2.2 hdg C.2.2.2.2.2.2.2.2.1
  rw [C.2.2.2.2.2.2.1]
  exact ⟨⟨(), rfl, trivial, by rw [ht]; exact hP9, va_K.moved hW.alike C.2.2.2.2.2.2.2.2.2.1, C.2.2.2.2.2.2.2.2.2.2.1 σ⟩, hS.F ht⟩

theorem jpre_blind {cf : jF} {N : Nat} {V : jV} {as : List Value} {σ : jS} {sz : Nat} : FrameBlind (jpre cf N V as σ sz) := by
  intro a U g mk q
  obtain ⟨q0, q1, qP, qK, qD, qN, qE⟩ := q
  exact ⟨q0, q1, qP, va_K.moved (u := U) (U := U.calling g mk a) (Vm.Alike.refl U.vm) qK, qD, jN_calling qN, jE_calling qE⟩
theorem jwords {own : String} {y : MethodName} {bytes : ByteArray} {mL : Nat} {ret : Option FieldType} (w5 : Cond.code y bytes mL ret ∈ jT) : GoodIn jT (Cond.code y bytes mL ret :: jT) := by
  intro w hw
  rcases List.mem_cons.mp hw with rfl | hw
  · exact ⟨w5, jT_good w5⟩
  · exact ⟨hw, jT_good hw⟩
theorem jroom {h h' m' : Nat} (hh : h' + 1 ≤ h) (hm : m' ≤ 41) : (jrm h').frames + 1 ≤ (jrm h).frames ∧ 8 + (m' + 11) + (jrm h').locals ≤ (jrm h).locals := by
  refine ⟨hh, ?_⟩
  show 8 + (m' + 11) + 60 * h' ≤ 60 * h
  omega
theorem jfree (C : jc cf N G cc own mL rt h) {H : Heap} {locs : List Loc} (hS : va_S (gA G) (gs G).heap H locs) : ∀ q, va_A (wd cf N (gV G) σ) H.size q → gA G q := by
  intro q hq
  rcases hq with ⟨k, e, hq⟩ | hq
  · exact (C.2.2.2.2.2.2.2.2.2.2.1 σ).2 k _ hq
  · exact C.2.2.2.2.2.2.2.2.2.2.2.1 q (Nat.le_trans hS.1 hq)
theorem jpre_at (C : jc cf N G cc own mL rt h) {H : Heap} {locs : List Loc} {as : List Value} (hP : va_P (vD (gV G)) vwCl (wd cf N (gV G) σ) H) (hS : va_S (gA G) (gs G).heap H locs) : ∀ U : State, U.heap = H → (gs G).WarmedH U.vm → jpre cf N (gV G) as σ H.size as.toArray U := by
  intro U hU hW
  subst hU
  exact ⟨rfl, rfl, hP, va_K.moved hW.alike C.2.2.2.2.2.2.2.2.2.1, (C.2.2.2.2.2.2.2.2.2.2.1 σ).weaken (fun _ _ _ _ => trivial), jN_warm hW C.2.2.2.2.2.2.2.2.2.2.2.2.1, jE_to C.2.2.2.2.2.2.2.2.2.2.2.2.2.1 hS hW (jfree C hS)⟩
theorem jcall_i (C : jc cf N G cc own mL rt h) {y : MethodName} {ret : Option FieldType} {as : List Value} {r : Int32 × jS} {st0 : List Value} (hret : ∃ ty, ret = some ty) (hrun : ∀ (H : Heap) (locs : List Loc) (la : Array Slot), va_P (vD (gV G)) vwCl (wd cf N (gV G) σ) H → va_S (gA G) (gs G).heap H locs → lv_has la (gn G) ls → va_Run (gp G) (vl (gV G)) (ge G) (gR G) (gs G) (gm G) (ga G) (gb G) (gh G) (gc G) H locs 0 0 0 0 (F0 (gm G) pc la st0) st (jpost cf N (gV G) ret (va_A (wd cf N (gV G) σ) H.size) r as.toArray) (va_A (wd cf N (gV G) σ) H.size)) (kk : J cf N G (pc + 3) ls (.int r.1 :: st) r.2 res) : J cf N G pc ls st0 σ res := by
  obtain ⟨ty, rfl⟩ := hret
  intro H locs la hP hS hL
  refine va_calli (a := as.toArray) (hrun H locs la hP hS hL) hS (fun q _ hq => jfree C hS q hq) (jfree C hS) (fun r1 u t H1 locs1 ht hvm hw hB hz1 hk1 hS1 => ?_)
  obtain ⟨hP1, -, -⟩ := hB
  rw [ht] at hP1
  rw [hw]
  exact kk H1 locs1 la hP1 hS1 hL
theorem jcall_v (C : jc cf N G cc own mL rt h) {y : MethodName} {ret : Option FieldType} {as : List Value} {r : Int32 × jS} {st0 : List Value} (hret : ret = none) (hrun : ∀ (H : Heap) (locs : List Loc) (la : Array Slot), va_P (vD (gV G)) vwCl (wd cf N (gV G) σ) H → va_S (gA G) (gs G).heap H locs → lv_has la (gn G) ls → va_Run (gp G) (vl (gV G)) (ge G) (gR G) (gs G) (gm G) (ga G) (gb G) (gh G) (gc G) H locs 0 0 0 0 (F0 (gm G) pc la st0) st (jpost cf N (gV G) ret (va_A (wd cf N (gV G) σ) H.size) r as.toArray) (va_A (wd cf N (gV G) σ) H.size)) (kk : J cf N G (pc + 3) ls st r.2 res) : J cf N G pc ls st0 σ res := by
  subst hret
  intro H locs la hP hS hL
  refine va_callv (a := as.toArray) (hrun H locs la hP hS hL) hS (fun q _ hq => jfree C hS q hq) (jfree C hS) (fun u t H1 locs1 ht hvm hw hB hz1 hk1 hS1 => ?_)
  obtain ⟨hP1, -, -⟩ := hB
  rw [ht] at hP1
  exact kk H1 locs1 la hP1 hS1 hL
theorem jrunV (C : jc cf N G cc own mL rt h) {y : MethodName} {bytes : ByteArray} {m' h' n i ci nf c : Nat} {T : u_T} {C0 : String} {fs : List Value} {ret : Option FieldType} {as : List Value} {r : Int32 × jS} (hM : Ct cf N (gV G) y bytes m' ret h' (.ref (vad (gV G) c) :: as) σ r) (w1 : Cond.methodLink own i y ∈ jT) (w2 : Cond.instanceMethod y ∈ jT) (w3 : Cond.selects C0 y y ∈ jT) (w4 : Cond.initialized C0 ∈ jT) (w5 : Cond.code y bytes m' ret ∈ jT) (hd : y.cls = C0 ∧ y.cls ≠ "java/lang/invoke/MethodHandle" ∧ y.cls ≠ "java/lang/invoke/VarHandle" ∧ (parseMethodDescriptor y.desc).map (fun d => d.parameters.length) = some n) (hh : h' + 1 ≤ h) (hm' : m' ≤ 41) (hc : c < N) (he : cf (gV G) c (σ c) = .inr (ci, fs)) (hcl : vwCl[ci]? = some (C0, T, nf)) (hn : as.length = n) (hr : (st.map fun v => v.category).sum ≤ 8) (hdg : decode cc pc = .ok (.invokevirtual i, 3)) : ∀ (H : Heap) (locs : List Loc) (la : Array Slot), va_P (vD (gV G)) vwCl (wd cf N (gV G) σ) H → va_S (gA G) (gs G).heap H locs → lv_has la (gn G) ls → va_Run (gp G) (vl (gV G)) (ge G) (gR G) (gs G) (gm G) (ga G) (gb G) (gh G) (gc G) H locs 0 0 0 0 (F0 (gm G) pc la (as.reverse ++ .ref (vad (gV G) c) :: st)) st (jpost cf N (gV G) ret (va_A (wd cf N (gV G) σ) H.size) r (.ref (vad (gV G) c) :: as).toArray) (va_A (wd cf N (gV G) σ) H.size) := by
  intro H locs la hP hS hL
  have hg : GoodIn jT (wsV own i C0 y (Cond.code y bytes m' ret :: jT)) := by
    intro w hw
    rcases List.mem_append.mp hw with hw | hw
    · have hw2 : w ∈ jT := by
        simp only [List.mem_cons, List.not_mem_nil, or_false] at hw
        rcases hw with rfl | rfl | rfl | rfl
        · exact w1
        · exact w2
        · exact w3
        · exact w4
      exact ⟨hw2, jT_good hw2⟩
    · exact jwords (own := own) w5 w hw
  exact va_runV (nL := gn G) ⟨C.1, C.2.1, C.2.2.1, C.2.2.2.1, C.2.2.2.2.1⟩ (hM H.size) (cwV n C.2.2.2.2.1 hg rfl rfl rfl hd (by rw [C.2.2.2.2.2.2.2.2.2.2.2.2.2.2]; exact jroom hh hm')) ⟨jpre_blind, va_recv (ci := ci) (q0 := c) C.2.2.2.2.2.2.2.2.2.1 hP hcl (by rw [wd_at hc, he]), jpre_at C hP hS⟩ rfl hn hL.1 rfl (lv_room hr) hdg ⟨Nat.zero_le _, Nat.zero_le _⟩
theorem jrunS (C : jc cf N G cc own mL rt h) {y : MethodName} {bytes : ByteArray} {m' h' n i : Nat} {ret : Option FieldType} {as : List Value} {r : Int32 × jS} (hM : Ct cf N (gV G) y bytes m' ret h' as σ r) (w1 : Cond.methodLink own i y ∈ jT) (w2 : Cond.static y ∈ jT) (w4 : Cond.initialized y.cls ∈ jT) (w5 : Cond.code y bytes m' ret ∈ jT) (hd : y.cls ≠ "java/lang/invoke/MethodHandle" ∧ y.cls ≠ "java/lang/invoke/VarHandle" ∧ (parseMethodDescriptor y.desc).map (fun d => d.parameters.length) = some n) (hh : h' + 1 ≤ h) (hm' : m' ≤ 41) (hn : as.length = n) (hr : (st.map fun v => v.category).sum ≤ 8) (hdg : decode cc pc = .ok (.invokestatic i, 3)) : ∀ (H : Heap) (locs : List Loc) (la : Array Slot), va_P (vD (gV G)) vwCl (wd cf N (gV G) σ) H → va_S (gA G) (gs G).heap H locs → lv_has la (gn G) ls → va_Run (gp G) (vl (gV G)) (ge G) (gR G) (gs G) (gm G) (ga G) (gb G) (gh G) (gc G) H locs 0 0 0 0 (F0 (gm G) pc la (as.reverse ++ st)) st (jpost cf N (gV G) ret (va_A (wd cf N (gV G) σ) H.size) r as.toArray) (va_A (wd cf N (gV G) σ) H.size) := by
  intro H locs la hP hS hL
  exact va_runS (nL := gn G) (Ts := jT) ⟨C.1, C.2.1, C.2.2.1, C.2.2.2.1, C.2.2.2.2.1⟩ (hM H.size) ⟨callB_of n C.2.2.2.2.1 (jwords (own := own) w5) rfl rfl rfl (C.2.2.2.2.1 _ w4) (C.2.2.2.2.1 _ w1) hd (by rw [C.2.2.2.2.2.2.2.2.2.2.2.2.2.2]; exact jroom hh hm'), C.2.2.2.2.1 _ w2⟩ ⟨jpre_blind, jpre_at C hP hS⟩ rfl hn hL.1 rfl (lv_room hr) hdg ⟨Nat.zero_le _, Nat.zero_le _⟩
end JROWS
