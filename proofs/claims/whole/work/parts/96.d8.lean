theorem CODEP_at {e L0 L1 : Nat} {pd : Nat → Nat} {z1 : Nat × Bool} {σ τ : jS} (h : CODEP e L0 L1 pd z1 σ τ) {q op : Nat} (hq : L0 ≤ q ∧ q < L1) (ho : pd q = op) (h34 : op = 3 ∨ op = 4) : (∃ a, a < 100000 ∧ σ (e + 1) q = nI (16 * a + op)) ∧ τ 7 q = nI (1048576 * opM op) := by
  obtain ⟨cd, ty, h2, h3, h4, h5⟩ := h
  rcases h5 q hq.1 hq.2 with ⟨q0, _⟩ | ⟨_, q1, q2, _⟩
  · omega
  · rw [ho] at q1 q2
    exact ⟨q1, q2⟩
/-- the jump if false is aimed, in both -/
theorem s_landF (F : Nat) {e : Nat} (he : eL e) {L0 L h : Nat} {jt jf : Option Nat} {σ τ : jS} (h5 : σ e 5 = nI L) (h12 : τ 0 12 = nI L) (hL : L ≤ 240) (hh : h + cn jt < 250) (hp : pJ h jt jf τ) (hC : CODEP e L0 L (pdJ jt jf) (0, true) σ τ) (hjt : ∀ j, jt = some j → L0 ≤ j ∧ j < L) (hjf : ∀ j, jf = some j → L0 ≤ j ∧ j < L) (hne : ∀ q, jt = some q → jf = some q → False) :
    ∃ σ1 τ1, mX3_aim F e (xO jf) σ = some σ1 ∧ (∀ N x, lp_X12_lands_0 F (N + cn jf) x τ = lp_X12_lands_0 F N x τ1) ∧ pJ h jt none τ1 ∧ CODEP e L0 L (pdJ jt none) (0, true) σ1 τ1 ∧ cdP e L0 σ σ1 τ τ1 ∧ τ1 8 = τ 8 ∧ (∀ k, k ≠ 13 → τ1 0 k = τ 0 k) ∧ frS τ τ1 ∧ σ1 e = σ e ∧ frC e σ σ1 ∧ σ1 1 = σ 1 := by
  have hpd : ∀ j, jf = some j → pdJ jt jf j = 4 := fun j ej => by
    unfold pdJ
    rw [if_neg (fun et => hne j et ej), if_pos ej]
  obtain ⟨σ1, a1, a2, a3, a4, a5, a6⟩ := x_aimO F he h5 (jo := jf) (op := 4) (fun j ej => by have := hjf j ej; omega) (by omega) (fun j ej => (CODEP_at hC (hjf j ej) (hpd j ej) (Or.inr rfl)).1)
  cases hf : jf with
  | none =>
    subst hf
    refine ⟨σ1, τ, a1, fun N x => rfl, hp, CODEP_keep hC (fun j _ _ => ⟨a3 j (fun e => by cases e), rfl⟩) (fun _ _ _ => rfl), fun j _ => ⟨a3 j (fun e => by cases e), rfl⟩, rfl, fun _ _ => rfl, frS_rf τ, a4, a5, a6⟩
  | some q =>
    subst hf
    have hq := hjf q rfl
    have hy := (CODEP_at hC hq (hpd q rfl) (Or.inr rfl)).2
    have e13 : τ 0 13 = nI (h + cn jt + 1) := hp.1
    refine ⟨σ1, ld1 τ q 11 L (h + cn jt), a1, fun N x => ?_, ⟨ld1_h _ _ _ _ _, fun j ej => by rw [ld1_8]; exact hp.2.1 j ej, fun j ej => (by cases ej)⟩, ?_, fun j hj => ⟨a3 j (fun e => by cases e; omega), ld1_7n _ _ _ _ _ (by omega)⟩, ld1_8 _ _ _ _ _, fun k hk => ld1_0 _ _ _ _ _ hk, ld1_f _ _ _ _ _, a4, a5, a6⟩
    · exact ld_pop F N (w := 11) (ow := 11) e13 (by omega) (by omega) (hp.2.2 q rfl) hy (by omega) h12 (by omega) x (Or.inl rfl)
    · refine CODEP_keep (CODEP_land hC hq (hpd q rfl) (Or.inr rfl) (by omega) (a2 q rfl) (ld1_7 _ _ _ _ _) (fun j hj => ⟨a3 j (fun e => by cases e; exact hj rfl), ld1_7n _ _ _ _ _ hj⟩)) (fun _ _ _ => ⟨rfl, rfl⟩) (fun j _ _ => ?_)
      by_cases c : j = q
      · rw [c, updN_s]
        unfold pdJ
        rw [if_neg (fun et => hne q et rfl), if_neg (fun e => by cases e)]
      · rw [updN_n _ _ c]
        unfold pdJ
        rw [if_neg (show ¬ (none : Option Nat) = some j from fun e => by cases e), if_neg (show ¬ some q = some j from fun e => by cases e; exact c rfl)]
/-- the jump if true is aimed, in both -/
theorem s_landT (F : Nat) {e : Nat} (he : eL e) {L0 L h : Nat} {jt : Option Nat} {σ τ : jS} (h5 : σ e 5 = nI L) (h12 : τ 0 12 = nI L) (hL : L ≤ 240) (hh : h < 250) (hp : pJ h jt none τ) (hC : CODEP e L0 L (pdJ jt none) (0, true) σ τ) (hjt : ∀ j, jt = some j → L0 ≤ j ∧ j < L) :
    ∃ σ1 τ1, mX3_aim F e (xO jt) σ = some σ1 ∧ (∀ N, lp_X12_lands_0 F (N + cn jt) 1 τ = lp_X12_lands_0 F N 1 τ1) ∧ τ1 0 13 = nI h ∧ CODE e L0 L (0, false) (0, true) σ1 τ1 ∧ cdP e L0 σ σ1 τ τ1 ∧ τ1 8 = τ 8 ∧ (∀ k, k ≠ 13 → τ1 0 k = τ 0 k) ∧ frS τ τ1 ∧ σ1 e = σ e ∧ frC e σ σ1 ∧ σ1 1 = σ 1 := by
  have hpd : ∀ j, jt = some j → pdJ jt none j = 3 := fun j ej => by
    unfold pdJ
    rw [if_pos ej]
  obtain ⟨σ1, a1, a2, a3, a4, a5, a6⟩ := x_aimO F he h5 (jo := jt) (op := 3) (fun j ej => by have := hjt j ej; omega) (by omega) (fun j ej => (CODEP_at hC (hjt j ej) (hpd j ej) (Or.inl rfl)).1)
  cases hf : jt with
  | none =>
    subst hf
    refine ⟨σ1, τ, a1, fun N => rfl, hp.1, CODEP_done (CODEP_keep hC (fun j _ _ => ⟨a3 j (fun e => by cases e), rfl⟩) (fun _ _ _ => rfl)) (fun j => ?_), fun j _ => ⟨a3 j (fun e => by cases e), rfl⟩, rfl, fun _ _ => rfl, frS_rf τ, a4, a5, a6⟩
    unfold pdJ
    rw [if_neg (fun e => by cases e), if_neg (fun e => by cases e)]
  | some q =>
    subst hf
    have hq := hjt q rfl
    have hy := (CODEP_at hC hq (hpd q rfl) (Or.inl rfl)).2
    have e13 : τ 0 13 = nI (h + 1) := hp.1
    refine ⟨σ1, ld1 τ q 12 L h, a1, fun N => ?_, ld1_h _ _ _ _ _, ?_, fun j hj => ⟨a3 j (fun e => by cases e; omega), ld1_7n _ _ _ _ _ (by omega)⟩, ld1_8 _ _ _ _ _, fun k hk => ld1_0 _ _ _ _ _ hk, ld1_f _ _ _ _ _, a4, a5, a6⟩
    · exact ld_pop F N (w := 12) (ow := 12) e13 (by omega) (by omega) (hp.2.1 q rfl) hy (by omega) h12 (by omega) 1 (Or.inr ⟨rfl, by decide⟩)
    · refine CODEP_done (CODEP_land hC hq (hpd q rfl) (Or.inl rfl) (by omega) (a2 q rfl) (ld1_7 _ _ _ _ _) (fun j hj => ⟨a3 j (fun e => by cases e; exact hj rfl), ld1_7n _ _ _ _ _ hj⟩)) (fun j => ?_)
      by_cases c : j = q
      · rw [c, updN_s]
      · rw [updN_n _ _ c]
        unfold pdJ
        rw [if_neg (show ¬ some q = some j from fun e => by cases e; exact c rfl), if_neg (fun e => by cases e)]
/-! ### tests and cases -/
def A0 (F N : Nat) (τ : jS) : Option (Int32 × jS) := lp_X12_readsCondition_40 F N τ
def kcL (F N : Nat) : jS → Option (Int32 × jS) := fun σ17 => (Option.bind (mX12_here F σ17) fun q18 => (if q18 = (38 : Int32) then (jn_X12_readsCondition_180 F (lp_X12_readsCondition_40 F N) σ17) else (Option.bind (mX12_here F σ17) fun q24 => (if q24 = (124 : Int32) then (jn_X12_readsCondition_180 F (lp_X12_readsCondition_40 F N) σ17) else (Option.bind (mX12_wrongAt F (1 : Int32) ((σ17 0 7)) σ17) fun q25 => (if jbo q25.1 = true then some (q25.1, q25.2) else none))))))
def C0 (F n1 N : Nat) (τ : jS) : Option (Int32 × jS) := lp_X12_readsCondition_92 F (kcL F N) n1 τ
def E0 (F m n1 N : Nat) (τ : jS) : Option (Int32 × jS) := Option.bind (lp_X12_endsPiece_0 F m τ) fun q => C0 F n1 N q
theorem A0_comp (F N : Nat) {B : Nat → Nat} (hB : ∀ j, B j < 256) {n i : Nat} {τ : jS} (hM : tpM B n i τ) (h1 : ¬ (i < n ∧ B i = 33)) (h2 : ¬ (i < n ∧ B i = 40)) : A0 F (N + 1) τ = Option.bind (mX12_readsCompared F τ) fun q10 => (if q10.1 = 0 then some ((0 : Int32), q10.2) else C0 F F N q10.2) := by
  unfold A0
  rw [lp_X12_readsCondition_40, m_here F hM]
  simp only [Option.bind_some, if_neg (show ¬ sg B n i = (33 : Int32) from fun e => h1 ((sg_eq hB n i (c := 33) (by omega)).mp e)), if_neg (show ¬ sg B n i = (40 : Int32) from fun e => h2 ((sg_eq hB n i (c := 40) (by omega)).mp e))]
  rfl
theorem A0_open (F N : Nat) {B : Nat → Nat} (hB : ∀ j, B j < 256) {n i : Nat} {τ : jS} (hM : tpM B n i τ) {c w : Nat} (hc : (c = 33 ∧ w = 10) ∨ (c = 40 ∧ w = 13)) (h1 : i < n ∧ B i = c) : A0 F (N + 1) τ = Option.bind (mX12_opens F (nI w) τ) fun q7 => (if q7.1 = 0 then some ((0 : Int32), q7.2) else A0 F N q7.2) := by
  unfold A0
  rw [lp_X12_readsCondition_40, m_here F hM]
  unfold jn_X12_readsCondition_58
  rw [m_here F hM]
  simp only [Option.bind_some]
  rcases hc with ⟨rfl, rfl⟩ | ⟨rfl, rfl⟩
  · simp only [if_pos (show sg B n i = (33 : Int32) from (sg_eq hB n i (c := 33) (by omega)).mpr h1)]
    rfl
  · have n33 : ¬ sg B n i = (33 : Int32) := fun e => by have := ((sg_eq hB n i (c := 33) (by omega)).mp e).2; omega
    rw [if_neg n33, if_pos (show sg B n i = (40 : Int32) from (sg_eq hB n i (c := 40) (by omega)).mpr h1), if_neg n33]
    rfl
/-- the top of the stack is no NOT: nothing ends -/
theorem E0_out (F m n1 N : Nat) {τ : jS} {h w a : Nat} (e13 : τ 0 13 = nI (h + 1)) (hh : h < 260) (hw : w < 16) (ha : a < 100000) (e8 : τ 8 h = nI (1048576 * w + a)) (hne : w ≠ 10) : E0 F (m + 1) n1 N τ = C0 F n1 N τ := by
  unfold E0
  rw [lp_X12_endsPiece_0, m_top F e13 hh hw ha e8]
  simp only [Option.bind_some]
  rw [if_neg (show ¬ nI w = (10 : Int32) from fun e => hne (nI_inj (b := 10) (by omega) (by omega) e))]
  rfl
def oT (F e : Nat) (B : Nat → Nat) (n i L h o N : Nat) (σ τ : jS) (rx : Option jS) (E : Option (Int32 × jS)) : Prop :=
  ∃ σ', rx = some σ' ∧ ((∃ f, f ≠ 0 ∧ dW B n f e σ σ' ∧ ∃ τ', E = some (0, τ') ∧ τ' 0 9 = f ∧ frS τ τ') ∨
    (∃ i' L' m n1 N' τ', E = E0 F m n1 N' τ' ∧ i < i' ∧ L ≤ L' ∧ L' + i ≤ L + i' ∧ N + i ≤ N' + i' ∧ F ≤ n1 + i' ∧ F + o ≤ m + 6 ∧ lwR e B n i' L' h o σ' τ' ∧ CODE e L L' (0, false) (0, true) σ' τ' ∧ stW h τ τ' ∧ cdP e L σ σ' τ τ' ∧ frC e σ σ' ∧ frS τ τ'))
def oC (F e : Nat) (B : Nat → Nat) (n i L h o N : Nat) (σ τ : jS) (rx : Option jS) (E : Option (Int32 × jS)) : Prop :=
  ∃ σ', rx = some σ' ∧ ((∃ f, f ≠ 0 ∧ dW B n f e σ σ' ∧ ∃ τ', E = some (0, τ') ∧ τ' 0 9 = f ∧ frS τ τ') ∨
    (∃ i' L' n1 N' τ' τc, E = C0 F n1 N' τ' ∧ i < i' ∧ L ≤ L' ∧ L' + i ≤ L + i' ∧ N + i ≤ N' + i' ∧ F ≤ n1 + i' ∧ ¬ (i' < n ∧ (B i' = 38 ∨ B i' = 124)) ∧ tpM B n i' τ' ∧ frS τ τ' ∧ mX12_lands F 1 τ' = some τc ∧ lwR e B n i' L' h o σ' τc ∧ CODE e L L' (0, false) (0, true) σ' τc ∧ stW h τ τc ∧ cdP e L σ σ' τ τc ∧ frC e σ σ' ∧ frS τ τc))
def testOK (F e : Nat) (B : Nat → Nat) (n D o : Nat) : Prop := ∀ i L h N σ τ, lwR e B n i L h o σ τ → n + 2 ≤ N + i → 1 ≤ h → bel h τ → oT F e B n i L h o N σ τ (rX4_readTest F D e (nI o) σ) (A0 F N τ)
def caseOK (F e : Nat) (B : Nat → Nat) (n D o : Nat) : Prop := ∀ i L h N σ τ, lwR e B n i L h o σ τ → n + 2 ≤ N + i → topO h τ → oC F e B n i L h o N σ τ (bX4_readCase F e (rX4_readTest F D) (nI o) σ) (A0 F N τ)
theorem test_of (F : Nat) (hF : 300 ≤ F) {e : Nat} (he : eL e) {B : Nat → Nat} {n D o : Nat} (ho : o ≤ 6) (hD : o < 6 → 1 ≤ D) (ht : o < 6 → testOK F e B n D (o + 1)) (hc : o < 6 → caseOK F e B n D (o + 1)) : testOK F e B n (D + 1) o := by
  intro i L h N σ τ hR hN h1h hbel
  obtain ⟨hX, hM, h5, h12, h13, h11, hLi, hhi, hn, ho'⟩ := id hR
  have hin := hX.2.2.2.2.2.2.1
  have hB := hX.1
  have e2n : e ≠ 1 ∧ e ≠ 2 ∧ e + 1 ≠ 1 ∧ e + 1 ≠ 2 := by unfold eL at he; omega
  obtain ⟨N, rfl⟩ : ∃ q, N = q + 1 := ⟨N - 1, by omega⟩
  show oT F e B n i L h o (N + 1) σ τ (bX4_readTest F e (fun e1 x2 σ => bX4_readCase F e1 (rX4_readTest F D) x2 σ) (rX4_readTest F D) (nI o) σ) (A0 F (N + 1) τ)
  unfold bX4_readTest
  by_cases c33 : i < n ∧ B i = 33
  · have hs : mX10_stands F (33 : Int32) σ = some 1 := x_stand1 F hX (c := 33) (by omega) c33
    rw [hs, A0_open F N hB hM (Or.inl ⟨rfl, rfl⟩) c33]
    simp only [Option.bind_some, if_neg (show ¬ (1 : Int32) = 0 by decide)]
    rcases s_opens F he hR c33.1 10 (by omega) with ⟨ho6, σ1, τ1, a1, a2, a3, a4, a5, a6, a7, a8⟩ | ⟨ho6, σ1, τ1, f, a1, a2, a3, a4, a5, a6⟩
    · rw [a1, a2]
      simp only [Option.bind_some, if_neg (show ¬ (1 : Int32) = 0 by decide), nI1]
      obtain ⟨σ2, b1', b2⟩ := ht ho6 (i + 1) L (h + 1) N σ1 τ1 a3 (by omega) (by omega) (Or.inr ⟨h, 10, 0, rfl, by omega, by omega, a4, by omega⟩)
      rw [b1']
      simp only [Option.bind_some]
      rcases b2 with ⟨f, f0, fd, τ2, f1, f2, f3⟩ | ⟨i', L', m, n1, N', τ2, q1, q2, q3, q4, q5, q6, q7, q8, q9, q10, q11, q12, q13⟩
      · obtain ⟨σ3, s1, s2⟩ := xD_put F he (dW_self fd) 2 0
        rw [s1]
        exact ⟨σ3, rfl, Or.inl ⟨f, f0, dW_tr a7 (dW_tr2 fd s2), τ2, f1, f2, frS_tr a8 f3⟩⟩
      · obtain ⟨cX, cM, c5, c12, c13, c11, cLi, chi, cn', co⟩ := id q8
        have hi'n := cX.2.2.2.2.2.2.1
        obtain ⟨σ3, τ3, u1, u2, u3, u4, u5, u6, u7, u8, u9⟩ := s_note F he q8 (by omega) 2 0 (by omega) (by omega)
        have u1' : mX3_put F e (2 : Int32) (0 : Int32) σ2 = some σ3 := u1
        have u2' : mX12_notes F (10 : Int32) (0 : Int32) τ2 = some τ3 := u2
        rw [u1', q1]
        simp only [Option.bind_some]
        obtain ⟨m, rfl⟩ : ∃ q, m = q + 1 := ⟨m - 1, by omega⟩
        have etop : mX12_waitTop F τ2 = some (nI 10) := m_top F (a := 0) c13 (by omega) (by omega) (by omega) (by rw [q10 h (by omega)]; exact a4)
        have eE : E0 F (m + 1) n1 N' τ2 = E0 F m n1 N' (js (js τ3 0 13 (nI h)) 0 11 (nI o)) := by
          unfold E0
          rw [lp_X12_endsPiece_0, etop]
          simp only [Option.bind_some, if_pos (show nI 10 = (10 : Int32) from rfl), u2', ltE]
          rw [u3.2.2.2.2.1, js_k _ _ (show (11 : Nat) ≠ 13 by omega), u3.2.2.2.2.2.1, show nI (h + 1) - (1 : Int32) = nI h by rw [show (1 : Int32) = nI 1 from rfl, pk_sub (a := h + 1) (b := 1) (by omega)]; rfl, show nI (o + 1) - (1 : Int32) = nI o by rw [show (1 : Int32) = nI 1 from rfl, pk_sub (a := o + 1) (b := 1) (by omega)]; rfl]
        rw [eE]
        have k7 : ∀ j, js (js τ3 0 13 (nI h)) 0 11 (nI o) 7 j = τ3 7 j := fun j => by rw [js_c _ _ _ (by omega), js_c _ _ _ (by omega)]
        have k8 : ∀ j, js (js τ3 0 13 (nI h)) 0 11 (nI o) 8 j = τ3 8 j := fun j => by rw [js_c _ _ _ (by omega), js_c _ _ _ (by omega)]
        refine ⟨σ3, rfl, Or.inr ⟨i', L' + 1, m, n1, N', _, rfl, by omega, by omega, by omega, by omega, q6, by omega, ⟨u3.1, tpM_js (tpM_js u3.2.1 _ (by omega) (by omega)) _ (by omega) (by omega), u3.2.2.1, by rw [js_k _ _ (by omega), js_k _ _ (by omega)]; exact u3.2.2.2.1, by rw [js_k _ _ (by omega), js_at], js_at _ _ _ _, by omega, by omega, hn, ho⟩, ?_, fun j hj => by rw [k8, u9, q10 j (by omega), a5 j hj], fun j hj => ⟨by rw [(u6 j (by omega)).1, (q11 j hj).1, (a6 j hj).1], by rw [k7, (u6 j (by omega)).2, (q11 j hj).2, (a6 j hj).2]⟩, frC_tr a7 (frC_tr q12 u7), frS_tr a8 (frS_tr q13 (frS_tr u8 (frS_tr (frS_js _ _ (Or.inr ⟨by omega, by omega⟩)) (frS_js _ _ (Or.inr ⟨by omega, by omega⟩)))))⟩⟩
        have k1 : CODE e L L' (0, false) (0, true) σ3 (js (js τ3 0 13 (nI h)) 0 11 (nI o)) := CODE_keep q9 (fun j _ hj => ⟨(u6 j hj).1, by rw [k7]; exact (u6 j hj).2⟩)
        exact CODE_cat (by omega) (by omega) k1 (CODE_one (o := 2) (a := 0) (by omega) (by omega) u4 (by rw [k7]; exact u5) (by decide) (by decide) (fun ty t0 t1 => Or.inr (Or.inl ⟨rfl, by rw [t0], by rw [t1, t0]⟩))) (fun _ _ _ => ⟨rfl, rfl⟩)
    · rw [a1, a2]
      exact ⟨σ1, rfl, Or.inl ⟨f, a3, a4, τ1, rfl, a5, a6⟩⟩
  · have hs : mX10_stands F (33 : Int32) σ = some 0 := x_stand0 F hX (c := 33) (by omega) c33
    rw [hs]
    simp only [Option.bind_some, if_true]
    by_cases c40 : i < n ∧ B i = 40
    · have hs2 : mX10_stands F (40 : Int32) σ = some 1 := x_stand1 F hX (c := 40) (by omega) c40
      rw [hs2, A0_open F N hB hM (Or.inr ⟨rfl, rfl⟩) c40]
      simp only [Option.bind_some, if_neg (show ¬ (1 : Int32) = 0 by decide)]
      rcases s_opens F he hR c40.1 13 (by omega) with ⟨ho6, σ1, τ1, a1, a2, a3, a4, a5, a6, a7, a8⟩ | ⟨ho6, σ1, τ1, f, a1, a2, a3, a4, a5, a6⟩
      · rw [a1, a2]
        simp only [Option.bind_some, if_neg (show ¬ (1 : Int32) = 0 by decide), nI1]
        obtain ⟨σ2, b1', b2⟩ := hc ho6 (i + 1) L (h + 1) N σ1 τ1 a3 (by omega) ⟨h, 0, rfl, by omega, a4⟩
        rw [b1']
        simp only [Option.bind_some]
        rcases b2 with ⟨f, f0, fd, τ2, f1, f2, f3⟩ | ⟨i', L', n1, N', τ2, τc, q1, q2, q3, q4, q5, q6, q7, q8, q9, q10, q11, q12, q13, q14, q15, q16⟩
        · obtain ⟨σ3, s1, s2⟩ := xD_take' F he f0 (dW_self fd) (c := 41) (by omega)
          have s1' : mX10_take F (41 : Int32) σ2 = some σ3 := s1
          rw [s1']
          exact ⟨σ3, rfl, Or.inl ⟨f, f0, dW_tr a7 (dW_tr2 fd s2), τ2, f1, f2, frS_tr a8 f3⟩⟩
        · obtain ⟨cX, cM, c5, c12, c13, c11, cLi, chi, cn', co⟩ := id q11
          have hi'n := cX.2.2.2.2.2.2.1
          obtain ⟨σ3, d1, d2, d3⟩ := x_take F cX (c := 41) (by omega)
          have d1' : mX10_take F (41 : Int32) σ2 = some σ3 := d1
          rw [d1', q1]
          simp only [Option.bind_some]
          obtain ⟨n1, rfl⟩ : ∃ q, n1 = q + 1 := ⟨n1 - 1, by omega⟩
          by_cases g : i' < n ∧ B i' = 41
          · rw [if_pos g] at d2
            have hh2 : sg B n i' = (41 : Int32) := by
              unfold sg
              rw [if_pos g.1, g.2]
              rfl
            -- at the outermost bracket the case would end: here one stands below
            have eC : C0 F (n1 + 1) N' τ2 = E0 F F n1 N' (js (js (js τc 0 13 (nI h)) 0 11 (nI o)) 0 7 (nI (i' + 1))) := by
              unfold C0
              rw [lp_X12_readsCondition_92, m_here F q8]
              simp only [Option.bind_some, if_pos hh2, q10, ltE]
              rw [c13, js_k _ _ (show (11 : Nat) ≠ 13 by omega), c11, js_k _ _ (show (7 : Nat) ≠ 11 by omega), js_k _ _ (show (7 : Nat) ≠ 13 by omega), cM.1, nI1, show nI (h + 1) - (1 : Int32) = nI h by rw [show (1 : Int32) = nI 1 from rfl, pk_sub (a := h + 1) (b := 1) (by omega)]; rfl, show nI (o + 1) - (1 : Int32) = nI o by rw [show (1 : Int32) = nI 1 from rfl, pk_sub (a := o + 1) (b := 1) (by omega)]; rfl, js_k _ _ (show (13 : Nat) ≠ 7 by omega), js_k _ _ (show (13 : Nat) ≠ 11 by omega), js_at, if_neg (nI_ne0 (by omega) (by omega))]
              rfl
            rw [eC]
            have k7 : ∀ j, js (js (js τc 0 13 (nI h)) 0 11 (nI o)) 0 7 (nI (i' + 1)) 7 j = τc 7 j := fun j => by rw [js_c _ _ _ (by omega), js_c _ _ _ (by omega), js_c _ _ _ (by omega)]
            have k8 : ∀ j, js (js (js τc 0 13 (nI h)) 0 11 (nI o)) 0 7 (nI (i' + 1)) 8 j = τc 8 j := fun j => by rw [js_c _ _ _ (by omega), js_c _ _ _ (by omega), js_c _ _ _ (by omega)]
            refine ⟨σ3, rfl, Or.inr ⟨i' + 1, L', F, n1, N', _, rfl, by omega, q3, by omega, by omega, by omega, by omega, ⟨d2, ?_, by rw [d3 e (by omega)]; exact c5, ?_, ?_, ?_, by omega, by omega, hn, ho⟩, CODE_keep q12 (fun j _ _ => ⟨by rw [d3 (e + 1) (by omega)], k7 j⟩), fun j hj => by rw [k8, q13 j (by omega), a5 j hj], fun j hj => ⟨by rw [d3 (e + 1) (by omega), (q14 j hj).1, (a6 j hj).1], by rw [k7, (q14 j hj).2, (a6 j hj).2]⟩, frC_tr a7 (frC_tr q15 (frC_of he d3)), frS_tr a8 (frS_tr q16 (frS_tr (frS_tr (frS_js _ _ (Or.inr ⟨by omega, by omega⟩)) (frS_js _ _ (Or.inr ⟨by omega, by omega⟩))) (frS_js _ _ (Or.inl rfl))))⟩⟩
            · have := tpM_step (tpM_js (tpM_js cM (k := 13) (nI h) (by omega) (by omega)) (k := 11) (nI o) (by omega) (by omega)) g.1
              rw [js_k _ _ (show (7 : Nat) ≠ 11 by omega), js_k _ _ (show (7 : Nat) ≠ 13 by omega), cM.1, nI1] at this
              exact this
            · rw [js_k _ _ (by omega), js_k _ _ (by omega), js_k _ _ (by omega)]; exact c12
            · rw [js_k _ _ (by omega), js_k _ _ (by omega), js_at]
            · rw [js_k _ _ (by omega), js_at]
          · rw [if_neg g, if_pos rfl] at d2
            have hf : flt 1 i' ≠ 0 := flt_ne (by omega) (by omega) (by omega)
            have n41 : ¬ sg B n i' = (41 : Int32) := fun e9 => g ((sg_eq hB n i' (c := 41) (by omega)).mp e9)
            have n38 : ¬ sg B n i' = (38 : Int32) := fun e9 => q7 ⟨((sg_eq hB n i' (c := 38) (by omega)).mp e9).1, Or.inl ((sg_eq hB n i' (c := 38) (by omega)).mp e9).2⟩
            have n124 : ¬ sg B n i' = (124 : Int32) := fun e9 => q7 ⟨((sg_eq hB n i' (c := 124) (by omega)).mp e9).1, Or.inr ((sg_eq hB n i' (c := 124) (by omega)).mp e9).2⟩
            have eC : C0 F (n1 + 1) N' τ2 = some (0, js τ2 0 9 (flt 1 i')) := by
              unfold C0
              rw [lp_X12_readsCondition_92, m_here F q8]
              simp only [Option.bind_some, if_neg n41]
              unfold kcL
              rw [m_here F q8]
              simp only [Option.bind_some, if_neg n38, if_neg n124, q8.1]
              rfl
            rw [eC]
            exact ⟨σ3, rfl, Or.inl ⟨_, hf, dW_tr a7 (dW_tr q15 (dW_fm he d2 (show L' ≤ 240 by omega) c5 d3)), _, rfl, js_at _ _ _ _, frS_tr a8 (frS_tr q9 (frS_js _ _ (Or.inr ⟨by omega, by omega⟩)))⟩⟩
      · rw [a1, a2]
        exact ⟨σ1, rfl, Or.inl ⟨f, a3, a4, τ1, rfl, a5, a6⟩⟩
    · have hs2 : mX10_stands F (40 : Int32) σ = some 0 := x_stand0 F hX (c := 40) (by omega) c40
      rw [hs2, A0_comp F N hB hM c33 c40]
      simp only [Option.bind_some, if_true]
      obtain ⟨σ1, p1, p2⟩ := s_comp F hF he hR hbel
      rw [p1]
      refine ⟨σ1, rfl, ?_⟩
      rcases p2 with ⟨f, f0, fd, τ2, f1, f2, f3⟩ | ⟨i', L', τ2, q0, q1, q2, q3, q4, q5, q6, q7, q8, q9⟩
      · left
        rw [f1]
        exact ⟨f, f0, fd, τ2, rfl, f2, f3⟩
      · right
        refine ⟨i', L', F, F, N, τ2, ?_, q1, q2, q3, by omega, by omega, by omega, q4, q5, q6, q7, q8, q9⟩
        rw [q0]
        unfold ender E0 mX12_endsPiece
        cases lp_X12_endsPiece_0 F F τ2 with
        | none => rfl
        | some q => rfl
