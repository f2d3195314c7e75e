def imin (x y : Int32) : Int32 := if y < x then y else x
def imax (x y : Int32) : Int32 := if x < y then y else x
def irm (x y : Int32) : Int32 := x - x / y * y
def jcp (σ : jS) (a b n : Nat) : jS := va_up σ b (va_cpy (σ a) (σ b) 0 0 n)
section JROWS2
variable {cf : jF} {N : Nat} {G : jG} {cc : ByteArray} {own : String} {mL : Nat} {rt : Option FieldType} {h : Nat} {pc : Nat} {ls : jL} {st : List Value} {σ : jS} {res : Int32 × jS} {α : Type} {v : α}
theorem j_lti {x : Int32} {Mo : Int32 → Option α} (hm : lt x Mo = some v) (kk : ∀ y, Mo y = some v → J cf N G pc ls (.int y :: st) σ res) : J cf N G pc ls (.int x :: st) σ res := kk x hm
theorem j_ltn {x : Nat} {Mo : Nat → Option α} (hm : lt x Mo = some v) (kk : ∀ y, Mo y = some v → J cf N G pc ls (.ref (vad (gV G) y) :: st) σ res) : J cf N G pc ls (.ref (vad (gV G) x) :: st) σ res := kk x hm
theorem j_sw {A B : Option α} {x b : Int32} (hm : (if x = b then A else B) = some v) (kt : x = b → A = some v → J cf N G pc ls (.int x :: st) σ res) (kf : ¬ x = b → B = some v → J cf N G pc ls (.int x :: st) σ res) : J cf N G pc ls (.int x :: st) σ res := by
  by_cases c : x = b
  · rw [if_pos c] at hm; exact kt c hm
  · rw [if_neg c] at hm; exact kf c hm
theorem jsw_out {x : Int32} {lo : Int} {n : Nat} (h1 : -2147483648 ≤ lo) (h2 : lo + n ≤ 2147483648) (hne : ∀ i : Nat, i < n → ¬ x = Int32.ofInt (lo + i)) : x.toInt < lo ∨ (lo + n - 1) < x.toInt := by
  by_cases c : x.toInt < lo
  · exact Or.inl c
  · by_cases d : (lo + n - 1) < x.toInt
    · exact Or.inr d
    · have e : x = Int32.ofInt (lo + ((x.toInt - lo).toNat : Nat)) := by
        have e2 : (lo + ((x.toInt - lo).toNat : Nat) : Int) = x.toInt := by omega
        rw [e2]
        exact (Int32.ofInt_toInt x).symm
      exact absurd e (hne _ (by omega))

theorem j_swOut (C : jc cf N G cc own mL rt h) {dflt lo hi : Int} {offs : Array Int} {len : Nat} {x : Int32} {tgt : Nat} (hdg : decode cc pc = .ok (.tableswitch dflt lo hi offs, len)) (hx : x.toInt < lo ∨ hi < x.toInt) (ht : (pc : Int) + dflt = (tgt : Int)) (kk : J cf N G tgt ls st σ res) : J cf N G pc ls (.int x :: st) σ res := fun H locs la hP hS hL => lv_tableOut C.1 C.2.1 hdg hx ht (kk H locs la hP hS hL)
theorem j_swIn (C : jc cf N G cc own mL rt h) {dflt lo hi : Int} {offs : Array Int} {len : Nat} {x b : Int32} {off : Int} {tgt : Nat} (hdg : decode cc pc = .ok (.tableswitch dflt lo hi offs, len)) (hx : x = b) (h1 : ¬ b.toInt < lo) (h2 : ¬ hi < b.toInt) (ho : offs[(b.toInt - lo).toNat]? = some off) (ht : (pc : Int) + off = (tgt : Int)) (kk : J cf N G tgt ls st σ res) : J cf N G pc ls (.int x :: st) σ res := by
  subst hx
  exact fun H locs la hP hS hL => lv_tableIn C.1 C.2.1 hdg h1 h2 ho ht (kk H locs la hP hS hL)
theorem j_mmaxD (C : jc cf N G cc own mL rt h) {i : Nat} {x y : Int32} (hw : Cond.methodLink own i Lib.Math.max.name ∈ jT) (w2 : Cond.static Lib.Math.max.name ∈ jT) (w3 : Cond.initialized RJ9 ∈ jT) (w4 : Cond.code Lib.Math.max.name Lib.Math.max.code 2 (some .int) ∈ jT) (hh : 1 ≤ h) (hr : (st.map fun v => v.category).sum ≤ 8) (hdg : decode cc pc = .ok (.invokestatic i, 3)) (kk : J cf N G (pc + 3) ls (.int (imax x y) :: st) σ res) : J cf N G pc ls (.int y :: .int x :: st) σ res := j_mmax C hw w2 w3 w4 hh hr hdg kk
theorem j_mminD (C : jc cf N G cc own mL rt h) {i : Nat} {x y : Int32} (hw : Cond.methodLink own i Lib.Math.min.name ∈ jT) (w2 : Cond.static Lib.Math.min.name ∈ jT) (w3 : Cond.initialized RJ9 ∈ jT) (w4 : Cond.code Lib.Math.min.name Lib.Math.min.code 2 (some .int) ∈ jT) (hh : 1 ≤ h) (hr : (st.map fun v => v.category).sum ≤ 8) (hdg : decode cc pc = .ok (.invokestatic i, 3)) (kk : J cf N G (pc + 3) ls (.int (imin x y) :: st) σ res) : J cf N G pc ls (.int y :: .int x :: st) σ res := j_mmin C hw w2 w3 w4 hh hr hdg kk
theorem j_ialdK (C : jc cf N G cc own mL rt h) {c n k : Nat} {i : Int32} (hc : c < N) (he : cf (gV G) c (σ c) = .inl (vcI (gV G), n, .inl (σ c))) (hin : jin i n = true) (hi : i.toNatClampNeg = k) (hdg : decode cc pc = .ok (.iaload, 1)) (kk : J cf N G (pc + 1) ls (.int (σ c k) :: st) σ res) : J cf N G pc ls (.int i :: .ref (vad (gV G) c) :: st) σ res := by
  subst hi
  exact j_iald C hc he hin hdg kk
theorem j_iastL (C : jc cf N G cc own mL rt h) {Mo : jS → Option α} {c n : Nat} {i x : Int32} (hc : c < N) (he : ∀ row, cf (gV G) c row = .inl (vcI (gV G), n, .inl row)) (hin : jin i n = true) (hdg : decode cc pc = .ok (.iastore, 1)) (hm : lt (js σ c i.toNatClampNeg x) Mo = some v) (kk : ∀ σ1, Mo σ1 = some v → J cf N G (pc + 1) ls st σ1 res) : J cf N G pc ls (.int x :: .int i :: .ref (vad (gV G) c) :: st) σ res := j_iast C hc he hin hdg (kk _ hm)
theorem j_iastK (C : jc cf N G cc own mL rt h) {Mo : jS → Option α} {c n k : Nat} {i x : Int32} (hc : c < N) (he : ∀ row, cf (gV G) c row = .inl (vcI (gV G), n, .inl row)) (hin : jin i n = true) (hi : i.toNatClampNeg = k) (hdg : decode cc pc = .ok (.iastore, 1)) (hm : lt (js σ c k x) Mo = some v) (kk : ∀ σ1, Mo σ1 = some v → J cf N G (pc + 1) ls st σ1 res) : J cf N G pc ls (.int x :: .int i :: .ref (vad (gV G) c) :: st) σ res := by
  subst hi
  exact j_iast C hc he hin hdg (kk _ hm)
theorem j_baldK (C : jc cf N G cc own mL rt h) {c n k : Nat} {i : Int32} (hc : c < N) (he : cf (gV G) c (σ c) = .inl (vcB (gV G), n, .inl (σ c))) (hin : jin i n = true) (hi : i.toNatClampNeg = k) (hdg : decode cc pc = .ok (.baload, 1)) (kk : J cf N G (pc + 1) ls (.int (σ c k) :: st) σ res) : J cf N G pc ls (.int i :: .ref (vad (gV G) c) :: st) σ res := by
  subst hi
  exact j_bald C hc he hin hdg kk
theorem j_bastL (C : jc cf N G cc own mL rt h) {Mo : jS → Option α} {c n : Nat} {i x : Int32} (hc : c < N) (he : ∀ row, cf (gV G) c row = .inl (vcB (gV G), n, .inl row)) (hin : jin i n = true) (hdg : decode cc pc = .ok (.bastore, 1)) (hm : lt (js σ c i.toNatClampNeg (vp_nar .byte x)) Mo = some v) (kk : ∀ σ1, Mo σ1 = some v → J cf N G (pc + 1) ls st σ1 res) : J cf N G pc ls (.int x :: .int i :: .ref (vad (gV G) c) :: st) σ res := j_bast C hc he hin hdg (kk _ hm)
theorem j_bastK (C : jc cf N G cc own mL rt h) {Mo : jS → Option α} {c n k : Nat} {i x : Int32} (hc : c < N) (he : ∀ row, cf (gV G) c row = .inl (vcB (gV G), n, .inl row)) (hin : jin i n = true) (hi : i.toNatClampNeg = k) (hdg : decode cc pc = .ok (.bastore, 1)) (hm : lt (js σ c k (vp_nar .byte x)) Mo = some v) (kk : ∀ σ1, Mo σ1 = some v → J cf N G (pc + 1) ls st σ1 res) : J cf N G pc ls (.int x :: .int i :: .ref (vad (gV G) c) :: st) σ res := by
  subst hi
  exact j_bast C hc he hin hdg (kk _ hm)
theorem j_acopy (C : jc cf N G cc own mL rt h) {Mo : jS → Option α} {i c0 c1 n0 n1 k : Nat} {n : Int32} (w1 : Cond.methodLink own i arraycopyName ∈ jT) (w2 : Cond.native arraycopyName ∈ jT) (w3 : Cond.static arraycopyName ∈ jT) (w4 : Cond.initialized RJ10 ∈ jT) (h0 : c0 < N) (h1 : c1 < N) (e0 : ∀ row, cf (gV G) c0 row = .inl (vcI (gV G), n0, .inl row)) (e1 : ∀ row, cf (gV G) c1 row = .inl (vcI (gV G), n1, .inl row)) (hn0 : ¬ n < 0) (hk : n.toNatClampNeg = k) (hk0 : k ≤ n0) (hk1 : k ≤ n1) (hh : 1 ≤ h) (hr : (st.map fun v => v.category).sum ≤ 8) (hdg : decode cc pc = .ok (.invokestatic i, 3)) (hm : lt (jcp σ c0 c1 k) Mo = some v) (kk : ∀ σ1, Mo σ1 = some v → J cf N G (pc + 3) ls st σ1 res) : J cf N G pc ls (.int n :: .int 0 :: .ref (vad (gV G) c1) :: .int 0 :: .ref (vad (gV G) c0) :: st) σ res := by
  subst hk
  intro H locs la hP hS hL
  refine va_copyi (ty := .int) (n0 := n0) (n1 := n1) (f := σ c0) (g := σ c1) C.1 C.2.1 (by rw [C.2.2.1]; exact hL.1.symm) C.2.2.2.1 (C.2.2.2.2.1 _ w1) (C.2.2.2.2.1 _ w2) (C.2.2.2.2.1 _ w3) (C.2.2.2.2.1 _ w4) C.2.2.2.2.2.2.2.2.2.1 hP (C.2.2.2.2.2.2.2.2.2.2.1 σ) hS c0 c1 0 0 (by rw [wd_at h0, e0]) (by rw [wd_at h1, e1]) rfl rfl rfl (by decide) (by decide) hn0 (by show 0 + _ ≤ n0; omega) (by show 0 + _ ≤ n1; omega) (fun _ _ => rfl) (by rw [C.2.2.2.2.2.2.2.2.2.2.2.2.2.2]; exact hh) (by rw [C.2.2.2.2.2.2.2.2.2.2.2.2.2.2]; show _ ≤ 60 * h; have e : nativeFrameWords "java/lang/System" "arraycopy" 5 ≤ 30 := (by decide +kernel); omega) hdg (fun H locs hP _ hS => ?_)
  refine kk _ hm H locs la ?_ hS hL
  rw [← e1, wd_set _ h1] at hP
  exact hP
end JROWS2
