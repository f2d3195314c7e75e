/-- a jump is written and the sign passed, in both -/
theorem s_jump (F : Nat) {e : Nat} (he : eL e) {B : Nat → Nat} {n i L h o : Nat} {σ τ : jS} (hR : lwR e B n i L h o σ τ) (hi : i < n) {op : Nat} (hop : op = 3 ∨ op = 4) :
    ∃ σ1 σ2 τ2, mX3_put F e (nI op) (nI L + 1) σ = some σ1 ∧ σ1 e 5 - 1 = nI L ∧ mX10_step F σ1 = some σ2 ∧ mX12_jumps F (nI (opM op)) τ = some τ2 ∧ lwR e B n (i + 1) (L + 1) (h + 1) o σ2 τ2 ∧ σ2 (e + 1) L = nI (16 * (L + 1) + op) ∧ τ2 7 L = nI (1048576 * opM op) ∧ τ2 8 h = nI (1048576 * opM op + L) ∧ (∀ j, j < L → σ2 (e + 1) j = σ (e + 1) j ∧ τ2 7 j = τ 7 j) ∧ stW h τ τ2 ∧ frC e σ σ2 ∧ frS τ τ2 := by
  obtain ⟨hX, hM, h5, h12, h13, h11, hLi, hhi, hn, ho⟩ := id hR
  have e2n : e ≠ 1 ∧ e ≠ 2 ∧ e + 1 ≠ 1 ∧ e + 1 ≠ 2 := by unfold eL at he; omega
  obtain ⟨σ1, a1, a2, a3, a4, a5, a6⟩ := x_lput F he h5 (by omega) (nI op) (nI L + 1)
  have hX1 : tpX B n i 0 σ1 := tpX_fr hX a6 (a5.1 2 (by omega) (by omega) (by omega))
  obtain ⟨σ2, b1', b2, b3⟩ := x_step1 F hX1 hi
  have em : (1048576 : Int32) * nI (opM op) + nI L = nI (1048576 * opM op + L) := by rw [show (1048576 : Int32) = nI 1048576 from rfl, pk_mul, nI_add]
  have hn12 : js (js τ 8 h (nI (1048576 * opM op + L))) 0 13 (nI (h + 1)) 0 12 = nI L := by rw [js_k _ _ (by omega), js_c _ _ _ (by omega)]; exact h12
  have eJ : mX12_jumps F (nI (opM op)) τ = some (js (js (js (js (js τ 8 h (nI (1048576 * opM op + L))) 0 13 (nI (h + 1))) 7 L (1048576 * nI (opM op) + 0)) 0 12 (nI (L + 1))) 0 7 (nI (i + 1))) := by
    unfold mX12_jumps
    rw [h13, jin_nI (show h < 260 by omega) (by omega), if_pos rfl, nI_clamp (by omega), h12, em]
    simp only [ltE, js_c _ _ _ (show (0 : Nat) ≠ 8 by omega), h13, nI1]
    rw [m_notes F hn12 (by omega)]
    simp only [Option.bind_some, js_k _ _ (show (7 : Nat) ≠ 12 by omega), js_c _ _ _ (show (0 : Nat) ≠ 7 by omega), js_k _ _ (show (7 : Nat) ≠ 13 by omega), js_c _ _ _ (show (0 : Nat) ≠ 8 by omega), hM.1, nI1]
  refine ⟨σ1, σ2, _, a1, ?_, b1', eJ, ⟨b2, ?_, by rw [b3 e (by omega)]; exact a2, ?_, ?_, ?_, by omega, by omega, hn, ho⟩, ?_, ?_, ?_, fun j hj => ⟨by rw [b3 (e + 1) (by omega), a4 j (by omega)], ?_⟩, fun j hj => ?_, frC_tr a5 (frC_of he b3), ?_⟩
  · rw [a2, show (1 : Int32) = nI 1 from rfl, pk_sub (a := L + 1) (b := 1) (by omega)]; rfl
  · have t1 : tpM B n i (js (js (js (js τ 8 h (nI (1048576 * opM op + L))) 0 13 (nI (h + 1))) 7 L (1048576 * nI (opM op) + 0)) 0 12 (nI (L + 1))) := tpM_js (tpM_cell (tpM_js (tpM_cell hM _ _ (by omega) (by omega)) _ (by omega) (by omega)) _ _ (by omega) (by omega)) _ (by omega) (by omega)
    have := tpM_step t1 hi
    rw [t1.1, nI1] at this
    exact this
  · rw [js_k _ _ (by omega), js_at]
  · rw [js_k _ _ (by omega), js_k _ _ (by omega), js_c _ _ _ (by omega), js_at]
  · rw [js_k _ _ (by omega), js_k _ _ (by omega), js_c _ _ _ (by omega), js_k _ _ (by omega), js_c _ _ _ (by omega)]; exact h11
  · rw [b3 (e + 1) (by omega), a3, nI1, show (16 : Int32) = nI 16 from rfl, pk_mul, nI_add, Nat.mul_comm (L + 1) 16]
  · rw [js_c _ _ _ (by omega), js_c _ _ _ (by omega), js_at, show (1048576 : Int32) = nI 1048576 from rfl, pk_mul]; simp
  · rw [js_c _ _ _ (by omega), js_c _ _ _ (by omega), js_c _ _ _ (by omega), js_c _ _ _ (by omega), js_at]
  · rw [js_c _ _ _ (by omega), js_c _ _ _ (by omega), js_k _ _ (by omega), js_c _ _ _ (by omega), js_c _ _ _ (by omega)]
  · rw [js_c _ _ _ (by omega), js_c _ _ _ (by omega), js_c _ _ _ (by omega), js_c _ _ _ (by omega), js_k _ _ (by omega)]
  · exact frS_tr (frS_tr (frS_tr (frS_tr (frS_c _ _ _ (Or.inr rfl)) (frS_js _ _ (Or.inr ⟨by omega, by omega⟩))) (frS_c _ _ _ (Or.inl rfl))) (frS_js _ _ (Or.inr ⟨by omega, by omega⟩))) (frS_js _ _ (Or.inl rfl))
def kkC (F e : Nat) : Int32 → Int32 → jS → Option jS := fun x3_12 x4_12 σ12 => (Option.bind (mX3_aim F e x4_12 σ12) fun q13 => (Option.bind (mX3_aim F e x3_12 q13) fun q14 => some q14))
theorem tpM_fr {B : Nat → Nat} {n i : Nat} {τ τ' : jS} (h : tpM B n i τ) (e7 : τ' 0 7 = τ 0 7) (e8 : τ' 0 8 = τ 0 8) (e6 : τ' 6 = τ 6) : tpM B n i τ' := by
  unfold tpM at h ⊢
  rw [e7, e8, e6]
  exact h
theorem case_loop (F : Nat) (hF : 300 ≤ F) {e : Nat} (he : eL e) {B : Nat → Nat} {n D o : Nat} (htest : testOK F e B n D o) {i0 L0 h N0 : Nat} {σ0 τ0 : jS} (ho : o ≤ 6) (hn : n ≤ 240) (hL0 : L0 ≤ i0) (hN0 : n + 2 ≤ N0 + i0) (htop : topO h τ0) :
    ∀ (k c i L m n1 N Nc : Nat) (jt jf : Option Nat) (σ τ : jS), n - i < k → k < Nc → c ≤ i → tpX B n i 0 σ → tpM B n i τ → σ e 5 = nI L → τ 0 12 = nI L → pJ h jt jf τ → τ 0 11 = nI o → L ≤ i → h + cn jt + cn jf ≤ i → CODEP e L0 L (pdJ jt jf) (0, true) σ τ → (∀ j, jt = some j → L0 ≤ j ∧ j < L) → (∀ j, jf = some j → L0 ≤ j ∧ j < L) → (∀ q, jt = some q → jf = some q → False) → L0 ≤ L → L + i0 ≤ L0 + i → i0 < i → N0 + i0 ≤ N + i → F ≤ n1 + i → F + o ≤ m + 6 → stW h τ0 τ → cdP e L0 σ0 σ τ0 τ → frC e σ0 σ → frS τ0 τ →
      oC F e B n i0 L0 h o N0 σ0 τ0 (lp_X4_readCase_14 F e (rX4_readTest F D) (kkC F e) Nc (nI o) (xO jt) (xO jf) (nI c) σ) (E0 F m n1 N τ) := by
  intro k
  induction k with
  | zero => intro c i L m n1 N Nc jt jf σ τ h1; omega
  | succ k ih =>
    intro c i L m n1 N Nc jt jf σ τ hk hNc hci hX hM h5 h12 hp h11 hLi hhi hC hjt hjf hne hLL hgr hi0 hNN hn1 hm hst hcd hfC hfS
    obtain ⟨Nc, rfl⟩ : ∃ q, Nc = q + 1 := ⟨Nc - 1, by omega⟩
    have hin := hX.2.2.2.2.2.2.1
    have hB := hX.1
    have hct := cn_le jt
    have hcf := cn_le jf
    have e2n : e ≠ 1 ∧ e ≠ 2 ∧ e + 1 ≠ 1 ∧ e + 1 ≠ 2 := by unfold eL at he; omega
    obtain ⟨h', at', eh', hat, etop⟩ := htop
    obtain ⟨m, rfl⟩ : ∃ q, m = q + 1 := ⟨m - 1, by omega⟩
    obtain ⟨n1, rfl⟩ : ∃ q, n1 = q + 1 := ⟨n1 - 1, by omega⟩
    have eE : E0 F (m + 1) (n1 + 1) N τ = C0 F (n1 + 1) N τ := by
      cases hjF : jf with
      | some q =>
        subst hjF
        exact E0_out F m (n1 + 1) N (h := h + cn jt) (w := 11) (a := q) hp.1 (by omega) (by omega) (by have := hjf q rfl; omega) (hp.2.2 q rfl) (by omega)
      | none =>
        subst hjF
        cases hjT : jt with
        | some q =>
          subst hjT
          exact E0_out F m (n1 + 1) N (h := h) (w := 12) (a := q) hp.1 (by omega) (by omega) (by have := hjt q rfl; omega) (hp.2.1 q rfl) (by omega)
        | none =>
          subst hjT
          exact E0_out F m (n1 + 1) N (h := h') (w := 13) (a := at') (by have e13 := hp.1; rw [eh'] at e13; exact e13) (by omega) (by omega) hat (by rw [hst h' (by omega)]; exact etop) (by omega)
    rw [eE]
    -- the jumps that wait, landed
    obtain ⟨σ1, τ1, a1, a2, a3, a4, a5, a6, a7, a8, a9, a10, a11⟩ := s_landF F he h5 h12 (by omega) (by omega) hp hC hjt hjf hne
    obtain ⟨σ2, τ2, b1', b2, b3, b4, b5, b6, b7, b8, b9, b10, b11⟩ := s_landT F he (by rw [a9]; exact h5) (by rw [a7 12 (by omega)]; exact h12) (by omega) (by omega) a3 a4 hjt
    have lands0 : mX12_lands F 0 τ = some τ1 := by
      unfold mX12_lands
      obtain ⟨K, hK⟩ : ∃ K, F = K + 1 + cn jf := ⟨F - 1 - cn jf, by omega⟩
      have := a2 (K + 1) 0
      rw [← hK] at this
      rw [this]
      cases hjT : jt with
      | some q =>
        subst hjT
        exact ld_stop F K (h := h) (w := 12) (a := q) a3.1 (by omega) (by have := hjt q rfl; omega) (by omega) (a3.2.1 q rfl) 0 ⟨by omega, fun _ => rfl⟩
      | none =>
        subst hjT
        exact ld_stop F K (h := h') (w := 13) (a := at') (by have e13 := a3.1; rw [eh'] at e13; exact e13) (by omega) hat (by omega) (by rw [a6, hst h' (by omega)]; exact etop) 0 ⟨by omega, fun hh => by omega⟩
    have lands1 : mX12_lands F 1 τ = some τ2 := by
      unfold mX12_lands
      obtain ⟨K, hK⟩ : ∃ K, F = K + 1 + cn jt + cn jf := ⟨F - 1 - cn jf - cn jt, by omega⟩
      have := a2 (K + 1 + cn jt) 1
      rw [← hK] at this
      rw [this, b2 (K + 1)]
      exact ld_stop F K (h := h') (w := 13) (a := at') (by rw [b3, eh']) (by omega) hat (by omega) (by rw [b6, a6, hst h' (by omega)]; exact etop) 1 ⟨by omega, fun hh => by omega⟩
    have hX1 : tpX B n i 0 σ1 := tpX_fr hX a11 (a10.1 2 (by omega) (by omega) (by omega))
    have hX2 : tpX B n i 0 σ2 := tpX_fr hX1 b11 (b10.1 2 (by omega) (by omega) (by omega))
    have hM1 : tpM B n i τ1 := tpM_fr hM (a7 7 (by omega)) (a7 8 (by omega)) (a8.1 6 (by omega) (by omega) (by omega))
    have hM2 : tpM B n i τ2 := tpM_fr hM1 (b7 7 (by omega)) (b7 8 (by omega)) (b8.1 6 (by omega) (by omega) (by omega))
    have hR1 : lwR e B n i L (h + cn jt) o σ1 τ1 := ⟨hX1, hM1, by rw [a9]; exact h5, by rw [a7 12 (by omega)]; exact h12, a3.1, by rw [a7 11 (by omega)]; exact h11, hLi, by omega, hn, ho⟩
    have hR2 : lwR e B n i L h o σ2 τ2 := ⟨hX2, hM2, by rw [b9, a9]; exact h5, by rw [b7 12 (by omega), a7 12 (by omega)]; exact h12, b3, by rw [b7 11 (by omega), a7 11 (by omega)]; exact h11, hLi, by omega, hn, ho⟩
    have hcd1 : cdP e L0 σ0 σ1 τ0 τ1 := cdP_tr hcd a5 (Nat.le_refl _)
    have hcd2 : cdP e L0 σ0 σ2 τ0 τ2 := cdP_tr hcd1 b5 (Nat.le_refl _)
    have hst1 : stW h τ0 τ1 := fun j hj => by rw [a6]; exact hst j hj
    have hst2 : stW h τ0 τ2 := fun j hj => by rw [b6]; exact hst1 j hj
    by_cases c38 : i < n ∧ B i = 38
    · -- an and
      have hs38 : mX10_stands F (38 : Int32) σ = some 1 := x_stand1 F hX (c := 38) (by omega) c38
      obtain ⟨σ3, σ4, τ4, p1, p2, p3, p4, p5, p6, p7, p8, p9, p10, p11, p12⟩ := s_jump F he hR1 c38.1 (op := 4) (Or.inr rfl)
      have p1' : mX3_put F e (4 : Int32) (nI (L + 1)) σ1 = some σ3 := by rw [← nI1]; exact p1
      have p4' : mX12_jumps F (11 : Int32) τ1 = some τ4 := p4
      have e5 : σ1 e 5 = nI L := hR1.2.2.1
      have eX : lp_X4_readCase_14 F e (rX4_readTest F D) (kkC F e) (Nc + 1) (nI o) (xO jt) (xO jf) (nI c) σ = (Option.bind (rX4_readTest F D e (nI o) σ4) fun q11 => lp_X4_readCase_14 F e (rX4_readTest F D) (kkC F e) Nc (nI o) (xO jt) (nI L) (nI (c + 1)) q11) := by
        rw [lp_X4_readCase_14, if_pos (show nI c < (240 : Int32) from nI_lt (b := 240) (by omega) (by omega)), hs38]
        unfold jn_X4_readCase_46 mX3_putJump
        rw [hs38, a1]
        simp only [Option.bind_some, if_neg (show ¬ (1 : Int32) = 0 by decide), e5, p1', p2, p3, nI1]
      have eM : C0 F (n1 + 1) N τ = A0 F N τ4 := by
        unfold C0 A0
        have h38 : sg B n i = (38 : Int32) := (sg_eq hB n i (c := 38) (by omega)).mpr c38
        rw [lp_X12_readsCondition_92, m_here F hM]
        simp only [Option.bind_some, h38, if_neg (show ¬ (38 : Int32) = 41 by decide)]
        unfold kcL
        rw [m_here F hM]
        simp only [Option.bind_some, h38, if_true]
        unfold jn_X12_readsCondition_180
        rw [m_here F hM]
        simp only [Option.bind_some, h38, if_neg (show ¬ (38 : Int32) = 124 by decide)]
        unfold jn_X12_readsCondition_195
        rw [lands0]
        simp only [Option.bind_some]
        rw [m_here F hM1]
        simp only [Option.bind_some, h38, if_true, p4']
      rw [eX, eM]
      have hC2 : CODEP e L0 (L + 1) (pdJ jt (some L)) (0, false) σ4 τ4 := CODEP_keep (CODEP_jump a4 hLL (Or.inr rfl) (show L + 1 < 100000 by omega) p6 p7 (fun j hj => p9 j hj)) (fun _ _ _ => ⟨rfl, rfl⟩) (fun j _ _ => by
        unfold pdJ
        by_cases cc : j = L
        · rw [cc, updN_s, if_neg (fun et => by have := hjt L et; omega), if_pos rfl]
        · rw [updN_n _ _ cc, if_neg (show ¬ some L = some j from fun e => by cases e; exact cc rfl), if_neg (show ¬ (none : Option Nat) = some j from fun e => by cases e)])
      obtain ⟨σ5, q1, q2⟩ := htest (i + 1) (L + 1) (h + cn jt + 1) N σ4 τ4 p5 (by omega) (by omega) (Or.inr ⟨h + cn jt, 11, L, rfl, by omega, by omega, p8, by omega⟩)
      rw [q1]
      simp only [Option.bind_some]
      have fC4 : frC e σ0 σ4 := frC_tr hfC (frC_tr a10 p11)
      have fS4 : frS τ0 τ4 := frS_tr hfS (frS_tr a8 p12)
      have cd4 : cdP e L0 σ0 σ4 τ0 τ4 := fun j hj => ⟨by rw [(p9 j (by omega)).1]; exact (hcd1 j hj).1, by rw [(p9 j (by omega)).2]; exact (hcd1 j hj).2⟩
      rcases q2 with ⟨f, f0, fd, τ5, f1, f2, f3⟩ | ⟨i', L', m', n1', N', τ5, r1, r2, r3, r4, r5, r6, r7, r8, r9, r10, r11, r12, r13⟩
      · obtain ⟨Nc, rfl⟩ : ∃ q, Nc = q + 1 := ⟨Nc - 1, by omega⟩
        obtain ⟨σ6, s1, s2⟩ := xD_caseLoop F he f0 (dW_self fd) (rX4_readTest F D) Nc (nI o) (xO jt) (nI L) (nI (c + 1))
        have s1' : lp_X4_readCase_14 F e (rX4_readTest F D) (kkC F e) (Nc + 1) (nI o) (xO jt) (nI L) (nI (c + 1)) σ5 = some σ6 := s1
        rw [s1']
        exact ⟨σ6, rfl, Or.inl ⟨f, f0, dW_tr fC4 (dW_tr2 fd s2), τ5, f1, f2, frS_tr fS4 f3⟩⟩
      · rw [r1]
        obtain ⟨t1, t2, t3, t4, t5, t6, t7, t8, t9, t10⟩ := id r8
        refine ih (c + 1) i' L' m' n1' N' Nc jt (some L) σ5 τ5 (by omega) (by omega) (by omega) t1 t2 t3 t4 ⟨t5, fun j ej => by
          have e1 : cn jt = 1 := by rw [ej]; rfl
          rw [r10 h (by omega), p10 h (by omega)]
          exact a3.2.1 j ej, fun j ej => by cases ej; rw [r10 (h + cn jt) (by omega)]; exact p8⟩ t6 t7 (by show h + cn jt + 1 ≤ i'; omega) ?_ (fun j ej => by have := hjt j ej; omega) (fun j ej => by cases ej; omega) (fun q eq1 eq2 => by cases eq2; have := hjt L eq1; omega) (by omega) (by omega) (by omega) (by omega) r6 r7 (stW_tr (fun j hj => by rw [p10 j (by omega)]; exact hst1 j hj) r10 (by omega)) (cdP_tr cd4 r11 (by omega)) (frC_tr fC4 r12) (frS_tr fS4 r13)
        exact CODEP_cat hC2 r9 (by omega) r3 (fun j hj => by
          unfold pdJ
          rw [if_neg (fun et => by have := hjt j et; omega), if_neg (fun e => by cases e; omega)]) (fun j _ hj => r11 j hj)
    · have hs38 : mX10_stands F (38 : Int32) σ = some 0 := x_stand0 F hX (c := 38) (by omega) c38
      have n38 : ¬ sg B n i = (38 : Int32) := fun e9 => c38 ((sg_eq hB n i (c := 38) (by omega)).mp e9)
      by_cases c124 : i < n ∧ B i = 124
      · -- an or
        have hs124 : mX10_stands F (124 : Int32) σ = some 1 := x_stand1 F hX (c := 124) (by omega) c124
        obtain ⟨σ3, σ4, τ4, p1, p2, p3, p4, p5, p6, p7, p8, p9, p10, p11, p12⟩ := s_jump F he hR2 c124.1 (op := 3) (Or.inl rfl)
        have p1' : mX3_put F e (3 : Int32) (nI (L + 1)) σ2 = some σ3 := by rw [← nI1]; exact p1
        have p4' : mX12_jumps F (12 : Int32) τ2 = some τ4 := p4
        have e5 : σ2 e 5 = nI L := hR2.2.2.1
        have eX : lp_X4_readCase_14 F e (rX4_readTest F D) (kkC F e) (Nc + 1) (nI o) (xO jt) (xO jf) (nI c) σ = (Option.bind (rX4_readTest F D e (nI o) σ4) fun q11 => lp_X4_readCase_14 F e (rX4_readTest F D) (kkC F e) Nc (nI o) (nI L) (-1) (nI (c + 1)) q11) := by
          rw [lp_X4_readCase_14, if_pos (show nI c < (240 : Int32) from nI_lt (b := 240) (by omega) (by omega)), hs38, hs124]
          unfold jn_X4_readCase_46 mX3_putJump
          rw [hs38, a1]
          simp only [Option.bind_some, if_true, if_neg (show ¬ (1 : Int32) = 0 by decide), b1', e5, p1', p2, p3, nI1]
        have eM : C0 F (n1 + 1) N τ = A0 F N τ4 := by
          unfold C0 A0
          have h124 : sg B n i = (124 : Int32) := (sg_eq hB n i (c := 124) (by omega)).mpr c124
          rw [lp_X12_readsCondition_92, m_here F hM]
          simp only [Option.bind_some, h124, if_neg (show ¬ (124 : Int32) = 41 by decide)]
          unfold kcL
          rw [m_here F hM]
          simp only [Option.bind_some, h124, if_neg (show ¬ (124 : Int32) = 38 by decide), if_true]
          unfold jn_X12_readsCondition_180
          rw [m_here F hM]
          simp only [Option.bind_some, h124, if_true]
          unfold jn_X12_readsCondition_195
          rw [lands1]
          simp only [Option.bind_some]
          rw [m_here F hM2]
          simp only [Option.bind_some, h124, if_neg (show ¬ (124 : Int32) = 38 by decide), p4']
        rw [eX, eM]
        have hC2 : CODEP e L0 (L + 1) (pdJ (some L) none) (0, false) σ4 τ4 := CODEP_keep (CODEP_jump (CODEP_of b4) hLL (Or.inl rfl) (show L + 1 < 100000 by omega) p6 p7 (fun j hj => p9 j hj)) (fun _ _ _ => ⟨rfl, rfl⟩) (fun j _ _ => by
          unfold pdJ
          by_cases cc : j = L
          · rw [cc, updN_s, if_pos rfl]
          · rw [updN_n _ _ cc, if_neg (show ¬ some L = some j from fun e => by cases e; exact cc rfl), if_neg (show ¬ (none : Option Nat) = some j from fun e => by cases e)])
        obtain ⟨σ5, q1, q2⟩ := htest (i + 1) (L + 1) (h + 1) N σ4 τ4 p5 (by omega) (by omega) (Or.inr ⟨h, 12, L, rfl, by omega, by omega, p8, by omega⟩)
        rw [q1]
        simp only [Option.bind_some]
        have fC4 : frC e σ0 σ4 := frC_tr hfC (frC_tr a10 (frC_tr b10 p11))
        have fS4 : frS τ0 τ4 := frS_tr hfS (frS_tr a8 (frS_tr b8 p12))
        have cd4 : cdP e L0 σ0 σ4 τ0 τ4 := fun j hj => ⟨by rw [(p9 j (by omega)).1]; exact (hcd2 j hj).1, by rw [(p9 j (by omega)).2]; exact (hcd2 j hj).2⟩
        rcases q2 with ⟨f, f0, fd, τ5, f1, f2, f3⟩ | ⟨i', L', m', n1', N', τ5, r1, r2, r3, r4, r5, r6, r7, r8, r9, r10, r11, r12, r13⟩
        · obtain ⟨Nc, rfl⟩ : ∃ q, Nc = q + 1 := ⟨Nc - 1, by omega⟩
          obtain ⟨σ6, s1, s2⟩ := xD_caseLoop F he f0 (dW_self fd) (rX4_readTest F D) Nc (nI o) (nI L) (-1) (nI (c + 1))
          have s1' : lp_X4_readCase_14 F e (rX4_readTest F D) (kkC F e) (Nc + 1) (nI o) (nI L) (-1) (nI (c + 1)) σ5 = some σ6 := s1
          rw [s1']
          exact ⟨σ6, rfl, Or.inl ⟨f, f0, dW_tr fC4 (dW_tr2 fd s2), τ5, f1, f2, frS_tr fS4 f3⟩⟩
        · rw [r1]
          obtain ⟨t1, t2, t3, t4, t5, t6, t7, t8, t9, t10⟩ := id r8
          refine ih (c + 1) i' L' m' n1' N' Nc (some L) none σ5 τ5 (by omega) (by omega) (by omega) t1 t2 t3 t4 ⟨t5, fun j ej => by cases ej; rw [r10 h (by omega)]; exact p8, fun j ej => (by cases ej)⟩ t6 t7 (by show h + 1 + 0 ≤ i'; omega) ?_ (fun j ej => by cases ej; omega) (fun j ej => (by cases ej)) (fun q eq1 eq2 => (by cases eq2)) (by omega) (by omega) (by omega) (by omega) r6 r7 (stW_tr (fun j hj => by rw [p10 j (by omega)]; exact hst2 j hj) r10 (by omega)) (cdP_tr cd4 r11 (by omega)) (frC_tr fC4 r12) (frS_tr fS4 r13)
          exact CODEP_cat hC2 r9 (by omega) r3 (fun j hj => by
            unfold pdJ
            rw [if_neg (fun e => by cases e; omega), if_neg (fun e => by cases e)]) (fun j _ hj => r11 j hj)
      · -- the end of the case
        have hs124 : mX10_stands F (124 : Int32) σ = some 0 := x_stand0 F hX (c := 124) (by omega) c124
        have eX : lp_X4_readCase_14 F e (rX4_readTest F D) (kkC F e) (Nc + 1) (nI o) (xO jt) (xO jf) (nI c) σ = some σ2 := by
          have ek : kkC F e (xO jt) (xO jf) σ = some σ2 := by
            unfold kkC
            rw [a1]
            simp only [Option.bind_some, b1']
          rw [lp_X4_readCase_14, hs38, hs124]
          simp only [Option.bind_some, if_true, ek, ite_self]
        rw [eX]
        exact ⟨σ2, rfl, Or.inr ⟨i, L, n1 + 1, N, τ, τ2, rfl, hi0, hLL, hgr, hNN, hn1, fun g => g.2.elim (fun g2 => c38 ⟨g.1, g2⟩) (fun g2 => c124 ⟨g.1, g2⟩), hM, hfS, lands1, hR2, b4, hst2, hcd2, frC_tr hfC (frC_tr a10 b10), frS_tr hfS (frS_tr a8 b8)⟩⟩
theorem case_of (F : Nat) (hF : 300 ≤ F) {e : Nat} (he : eL e) {B : Nat → Nat} {n D o : Nat} (ho : o ≤ 6) (htest : testOK F e B n (D + 1) o) : caseOK F e B n (D + 1) o := by
  intro i L h N σ τ hR hN htop
  obtain ⟨hX, hM, h5, h12, h13, h11, hLi, hhi, hn, ho'⟩ := id hR
  obtain ⟨h', at', eh', hat, etop⟩ := id htop
  have hbel : bel h τ := Or.inr ⟨h', 13, at', eh', by omega, hat, etop, by omega⟩
  show oC F e B n i L h o N σ τ (Option.bind (rX4_readTest F (D + 1) e (nI o) σ) fun q1 => lp_X4_readCase_14 F e (rX4_readTest F (D + 1)) (kkC F e) F (nI o) (-1 : Int32) (-1 : Int32) (1 : Int32) q1) (A0 F N τ)
  obtain ⟨σ1, q1, q2⟩ := htest i L h N σ τ hR hN (by omega) hbel
  rw [q1]
  simp only [Option.bind_some]
  rcases q2 with ⟨f, f0, fd, τ5, f1, f2, f3⟩ | ⟨i', L', m', n1', N', τ5, r1, r2, r3, r4, r5, r6, r7, r8, r9, r10, r11, r12, r13⟩
  · obtain ⟨Nc, hNc⟩ : ∃ q, F = q + 1 := ⟨F - 1, by omega⟩
    obtain ⟨σ6, s1, s2⟩ := xD_caseLoop F he f0 (dW_self fd) (rX4_readTest F (D + 1)) Nc (nI o) (-1) (-1) 1
    rw [← hNc] at s1
    have s1' : lp_X4_readCase_14 F e (rX4_readTest F (D + 1)) (kkC F e) F (nI o) (-1) (-1) 1 σ1 = some σ6 := s1
    rw [s1']
    exact ⟨σ6, rfl, Or.inl ⟨f, f0, dW_tr2 fd s2, τ5, f1, f2, f3⟩⟩
  · rw [r1]
    obtain ⟨t1, t2, t3, t4, t5, t6, t7, t8, t9, t10⟩ := id r8
    exact case_loop F hF he htest (σ0 := σ) (τ0 := τ) (N0 := N) ho hn hLi hN htop 250 1 i' L' m' n1' N' F none none σ1 τ5 (by omega) (by omega) (by omega) t1 t2 t3 t4 ⟨t5, fun j ej => (by cases ej), fun j ej => (by cases ej)⟩ t6 t7 t8 (CODEP_keep (CODEP_of r9) (fun _ _ _ => ⟨rfl, rfl⟩) (fun j _ _ => by
      unfold pdJ
      rw [if_neg (fun e => by cases e), if_neg (fun e => by cases e)])) (fun j ej => (by cases ej)) (fun j ej => (by cases ej)) (fun q eq1 eq2 => (by cases eq2)) r3 r4 r2 r5 r6 r7 r10 r11 r12 r13
theorem test_all (F : Nat) (hF : 300 ≤ F) {e : Nat} (he : eL e) (B : Nat → Nat) (n : Nat) : ∀ (D o : Nat), o ≤ 6 → 7 ≤ D + o → testOK F e B n D o
  | 0, o, ho, h => by omega
  | D + 1, o, ho, h => test_of F hF he ho (fun h6 => by omega) (fun h6 => test_all F hF he B n D (o + 1) (by omega) (by omega)) (fun h6 => by
    obtain ⟨D', rfl⟩ : ∃ q, D = q + 1 := ⟨D - 1, by omega⟩
    exact case_of F hF he (by omega) (test_all F hF he B n (D' + 1) (o + 1) (by omega) (by omega)))
