theorem stepW_bin {m a L t p : Nat} {ty : Nat → Nat × Bool} (hm : 5 ≤ m ∧ m ≤ 9) (h0 : ty L = (p + 2, false)) (h1 : ty (L + 1) = (p + 1, false)) : stepW m a L t ty := by
  refine Or.inr (Or.inr (Or.inr (Or.inl ⟨hm.1, hm.2, by rw [h0], by rw [h0]; show 2 ≤ p + 2; omega, by rw [h1, h0]; rfl⟩)))
theorem CODE_opt {e L0 L p : Nat} {z0 : Nat × Bool} {σ τ : jS} {X : Option Nat} (h01 : L0 ≤ L) (hp : p + 2 < 32) (hX : ∀ m, X = some m → (5 ≤ m ∧ m ≤ 9) ∧ σ (e + 1) L = nI m ∧ τ 7 L = nI (1048576 * opM m)) (h : CODE e L0 L z0 (p + 1 + cn X, false) σ τ) : CODE e L0 (L + cn X) z0 (p + 1, false) σ τ := by
  cases X with
  | none => exact h
  | some m =>
    obtain ⟨h1, h2, h3⟩ := hX m rfl
    have h2' : σ (e + 1) L = nI (16 * 0 + m) := by rw [h2]; congr 1; omega
    have h3' : τ 7 L = nI (1048576 * opM m + 0) := h3
    refine CODE_cat h01 (Nat.le_succ L) h (CODE_one (o := m) (a := 0) (by omega) (by omega) h2' h3' (by show p + 1 + 1 < 32; omega) (by show p + 1 < 32; omega) (fun ty t0 t1 => stepW_bin h1 t0 t1)) (fun _ _ _ => ⟨rfl, rfl⟩)
theorem cn_le (X : Option Nat) : cn X ≤ 1 := by cases X <;> simp [cn]
def xO (A : Option Nat) : Int32 := match A with | none => -1 | some a => nI a
/-- what waits is written, in the class -/
theorem x_waits (F : Nat) {e : Nat} (he : eL e) {σ : jS} {L : Nat} {A : Option Nat} (hA : ∀ a, A = some a → a = 5 ∨ a = 6) (h5 : σ e 5 = nI L) (hL : L + cn A ≤ 240) : ∃ σ', mX4_putWaiting F e (xO A) σ = some σ' ∧ σ' e 5 = nI (L + cn A) ∧ (∀ a, A = some a → σ' (e + 1) L = nI a) ∧ (∀ j, j < L → σ' (e + 1) j = σ (e + 1) j) ∧ frC e σ σ' ∧ σ' 1 = σ 1 := by
  unfold mX4_putWaiting xO
  cases A with
  | none => exact ⟨σ, by simp, h5, fun a e => (by cases e), fun _ _ => rfl, frC_rf e σ, rfl⟩
  | some a =>
    have ha := hA a rfl
    have hL1 : L + 1 ≤ 240 := hL
    obtain ⟨σ', a1, a2, a3, a4, a5, a6⟩ := x_lput F he h5 (by omega) (nI a) 0
    simp only [if_neg (m1_ne a (by omega)), a1, Option.bind_some]
    refine ⟨σ', rfl, a2, fun a' e => ?_, fun j hj => a4 j (by omega), a5, a6⟩
    cases e
    rw [a3]
    show (0 : Int32) * 16 + nI a = nI a
    rw [show (0 : Int32) * 16 = nI 0 from rfl, nI_add, Nat.zero_add]
theorem sum_loop (F : Nat) (hF : 300 ≤ F) {e : Nat} (he : eL e) {bs : Nat} {B : Nat → Nat} {n d o : Nat} (hfact : factOK F bs e B n d o) {i0 L0 h b N0 : Nat} {σ0 τ0 : jS} (hbs : bs ≤ h) (hb : b ≤ 13 + 2 * o) (ho : o ≤ 6) (hn : n ≤ 240) (hL0 : L0 ≤ i0) (hN0 : n + 2 ≤ N0 + i0) (hbel : bel h τ0) :
    ∀ (k c i Lr N Nc : Nat) (A M : Option Nat) (σ τ : jS), n - i < k → k < Nc → c ≤ i → tpX B n i 0 σ → tpM B n i τ → pend h A M τ → τ 0 12 = nI Lr → σ e 5 = nI (Lr + cn M) → τ 0 11 = nI o → (∀ m, M = some m → σ (e + 1) Lr = nI m) → CODE e L0 Lr (b, false) (b + 1 + cn A + cn M, false) σ τ → L0 ≤ Lr → Lr + cn A + cn M + i0 ≤ L0 + i → i0 < i → N0 + i0 ≤ N + i → h + cn A + cn M ≤ i → stW h τ0 τ → cdP e L0 σ0 σ τ0 τ → frC e σ0 σ → frS τ0 τ →
      oS F bs e B n i0 L0 h o b N0 σ0 τ0 (lp_X4_readSum_20 F e (fcF F d) Nc (nI o) (xO A) (match opAt B n i with | none => -1 | some s => nI s) (nI c) σ) (Yl F bs N τ) := by
  intro k
  induction k with
  | zero => intro c i Lr N Nc A M σ τ h1; omega
  | succ k ih =>
    intro c i Lr N Nc A M σ τ hk hNc hci hX hM hp h12 h5 h11 hMc hC hLL hgr hi0 hNN hhi hst hcd hfC hfS
    obtain ⟨Nc, rfl⟩ : ∃ q, Nc = q + 1 := ⟨Nc - 1, by omega⟩
    have hin := hX.2.2.2.2.2.2.1
    have hB := hX.1
    have hcA := cn_le A
    have hcM := cn_le M
    have hAop : ∀ a, A = some a → a = 5 ∨ a = 6 := fun a ea => (hp.2.1 a ea).1
    have hnoS : ∀ ρ : jS, ρ 8 = τ 8 → ρ 0 13 = nI h → noS h ρ := fun ρ e8 e13 => bel_noS hbel (fun j hj => by rw [e8]; exact hst j hj) e13
    have e2n : e ≠ 1 ∧ e ≠ 2 ∧ e + 1 ≠ 1 ∧ e + 1 ≠ 2 := by unfold eL at he; omega
    cases hop : opAt B n i with
    | none =>
      obtain ⟨σ1, a1, a2, a3, a4, a5, a6⟩ := x_waits F he hAop h5 (by omega)
      obtain ⟨τc, c1, c2, c3, c4, c5, c6, c7, c8, c9⟩ := m_close1 F hF hp h12 (by omega) (by omega) hnoS
      have eC : lp_X4_readSum_20 F e (fcF F d) (Nc + 1) (nI o) (xO A) (-1) (nI c) σ = some σ1 := by
        rw [lp_X4_readSum_20, if_pos rfl, a1]
        simp only [Option.bind_some, ite_self]
      simp only [eC]
      refine ⟨σ1, rfl, Or.inr ⟨i, Lr + cn M + cn A, N, τ, τc, h + cn A + cn M, hi0, by omega, by omega, hNN, rfl, hop, hM, hp.1, by omega, hhi, fun j hj1 hj2 => ?_, hfS, hst, c1, ⟨tpX_fr hX a6 (a5.1 2 (by omega) (by omega) (by omega)), ?_, a2, c3, c2, by rw [c8 11 (by omega) (by omega)]; exact h11, by omega, by omega, hn, ho⟩, ?_, fun j hj => by rw [c7]; exact hst j hj, fun j hj => ⟨by rw [a4 j (by omega)]; exact (hcd j hj).1, by rw [c4 j (by omega)]; exact (hcd j hj).2⟩, frC_tr hfC a5, frS_tr hfS c9⟩⟩
      · by_cases ej : j = h + cn A
        · cases M with
          | none =>
            have e0 : cn (none : Option Nat) = 0 := rfl
            rw [e0] at hj2
            omega
          | some m =>
            obtain ⟨q1, q2⟩ := hp.2.2 m rfl
            exact ⟨opM m, by rw [opM_mul q1]; omega, by rw [ej]; exact q2⟩
        · cases A with
          | none =>
            have e0 : cn (none : Option Nat) = 0 := rfl
            rw [e0] at hj2 ej
            omega
          | some a =>
            obtain ⟨q1, q2⟩ := hp.2.1 a rfl
            have ej2 : j = h := by
              have e1 : cn (some a) = 1 := rfl
              rw [e1] at hj2 ej
              omega
            exact ⟨opM a, by rw [opM_add q1]; omega, by rw [ej2]; exact q2⟩
      · obtain ⟨m1, m2, m3, m4, m5⟩ := hM
        exact ⟨by rw [c8 7 (by omega) (by omega)]; exact m1, by rw [c8 8 (by omega) (by omega)]; exact m2, m3, m4, by rw [c9.1 6 (by omega) (by omega) (by omega)]; exact m5⟩
      · have hC1 : CODE e L0 Lr (b, false) (b + cn A + 1 + cn M, false) σ1 τc := by
          rw [show b + cn A + 1 + cn M = b + 1 + cn A + cn M by omega]
          exact CODE_keep hC (fun j _ hj => ⟨a4 j (by omega), c4 j hj⟩)
        have hC2 := CODE_opt (X := M) hLL (by omega) (fun m em => ⟨by have := (hp.2.2 m em).1; omega, by
          rw [a4 Lr (by rw [em]; show Lr < Lr + 1; omega)]
          exact hMc m em, c5 m em⟩) hC1
        rw [show b + cn A + 1 = b + 1 + cn A by omega] at hC2
        exact CODE_opt (X := A) (by omega) (by omega) (fun a ea => ⟨by have := hAop a ea; omega, a3 a ea, c6 a ea⟩) hC2
    | some s =>
      obtain ⟨hin2, hs5, hs9⟩ := opAt_r hB hop
      obtain ⟨N, rfl⟩ : ∃ q, N = q + 1 := ⟨N - 1, by omega⟩
      obtain ⟨σ1, a1, a2, a3⟩ := x_step1 F hX hin2
      have h51 : σ1 e 5 = nI (Lr + cn M) := by rw [a3 e (by omega)]; exact h5
      have hsg : (Option.bind (mX12_here F τ) fun q3 => mX12_sumSign F q3 τ) = some (nI (s - 3)) := by
        have := m_opAt F hB hM
        rw [hop] at this
        exact this
      rw [m_here F hM] at hsg
      have hsg' : mX12_sumSign F (sg B n i) τ = some (nI (s - 3)) := hsg
      have eY : Yl F bs (N + 1) τ = jn_X12_readsSum_38 F (lp_X12_readsSum_14 F (Yk F) N) (nI bs) (nI (s - 3)) (if s < 7 then 1 else 0) τ := by
        unfold Yl
        rw [lp_X12_readsSum_14, m_here F hM]
        simp only [Option.bind_some, hsg', if_neg (m1_ne (s - 3) (by omega))]
        by_cases c7 : s < 7
        · rw [if_pos (show nI (s - 3) < (4 : Int32) from nI_lt (b := 4) (by omega) (by omega)), if_pos c7]
        · rw [if_neg (show ¬ nI (s - 3) < (4 : Int32) from nI_nlt (b := 4) (by omega) (by omega)), if_neg c7]
      have hcl : nI c < (240 : Int32) := nI_lt (b := 240) (by omega) (by omega)
      by_cases c7 : s < 7
      · -- a + or a -
        have h56 : s = 5 ∨ s = 6 := by omega
        obtain ⟨σ2, w1, w2, w3, w4, w5, w6⟩ := x_waits F he hAop h51 (by omega)
        obtain ⟨τc, c1, c2, c3, c4, c5, c6, c8, c9, c10⟩ := m_close1 F hF hp h12 (by omega) (by omega) hnoS
        have eC : lp_X4_readSum_20 F e (fcF F d) (Nc + 1) (nI o) (xO A) (nI s) (nI c) σ = (Option.bind (fcF F d e (nI o) σ2) fun q5 => (Option.bind (mX4_stepOf F 3 (5 : Int32) q5) fun q8 => (lp_X4_readSum_20 F e (fcF F d) Nc (nI o) (nI s) q8 (nI (c + 1)) q5))) := by
          rw [lp_X4_readSum_20, if_pos hcl, if_neg (m1_ne s (by omega)), a1]
          simp only [Option.bind_some]
          have e54 : jn_X4_readSum_54 F e (fcF F d) (lp_X4_readSum_20 F e (fcF F d) Nc) (nI o) (xO A) (nI s) (nI c) σ1 = (Option.bind (fcF F d e (nI o) σ2) fun q5 => (Option.bind (mX4_stepOf F 3 (5 : Int32) q5) fun q8 => (lp_X4_readSum_20 F e (fcF F d) Nc (nI o) (nI s) q8 (nI (c + 1)) q5))) := by
            unfold jn_X4_readSum_54 jn_X4_readSum_59
            rw [if_neg (show ¬ (1 : Int32) = 0 by decide), w1]
            simp only [Option.bind_some]
            unfold jn_X4_readSum_74
            simp only [if_neg (show ¬ (1 : Int32) = 0 by decide), nI1]
          rcases h56 with rfl | rfl
          · rw [if_pos (show nI 5 = (5 : Int32) from rfl)]; exact e54
          · rw [if_neg (show ¬ nI 6 = (5 : Int32) by decide), if_pos (show nI 6 = (6 : Int32) from rfl)]; exact e54
        rw [eY, if_pos c7]
        simp only [eC]
        have eJ : jn_X12_readsSum_38 F (lp_X12_readsSum_14 F (Yk F) N) (nI bs) (nI (s - 3)) 1 τ = Xl F bs F N (js (js (js τc 8 h (nI (1048576 * (s - 3)))) 0 13 (nI (h + 1))) 0 7 (nI (i + 1))) := by
          unfold jn_X12_readsSum_38
          rw [c1]
          simp only [Option.bind_some]
          rw [c2, jin_nI (show h < 260 by omega) (by omega), if_pos rfl, nI_clamp (by omega), show (1048576 : Int32) = nI 1048576 from rfl, pk_mul]
          simp only [ltE, js_c _ _ _ (show (0 : Nat) ≠ 8 by omega), c2, nI1, js_k _ _ (show (7 : Nat) ≠ 13 by omega), c9 7 (by omega) (by omega), hM.1]
          rfl
        rw [eJ]
        generalize hρ : js (js (js τc 8 h (nI (1048576 * (s - 3)))) 0 13 (nI (h + 1))) 0 7 (nI (i + 1)) = ρ
        have ρ7 : ∀ j, ρ 7 j = τc 7 j := fun j => by rw [← hρ, js_c _ _ _ (by omega), js_c _ _ _ (by omega), js_c _ _ _ (by omega)]
        have ρ8 : ∀ j, j ≠ h → ρ 8 j = τc 8 j := fun j hj => by rw [← hρ, js_c _ _ _ (by omega), js_c _ _ _ (by omega), js_k _ _ hj]
        have ρ8h : ρ 8 h = nI (1048576 * (s - 3)) := by rw [← hρ, js_c _ _ _ (by omega), js_c _ _ _ (by omega), js_at]
        have ρ0 : ∀ q, q ≠ 7 → q ≠ 13 → ρ 0 q = τc 0 q := fun q q1 q2 => by rw [← hρ, js_k _ _ q1, js_k _ _ q2, js_c _ _ _ (by omega)]
        have fρ : frS τ ρ := by rw [← hρ]; exact frS_tr c10 (frS_tr (frS_tr (frS_c _ _ _ (Or.inr rfl)) (frS_js _ _ (Or.inr ⟨by omega, by omega⟩))) (frS_js _ _ (Or.inl rfl)))
        have stρ : stW h τ0 ρ := fun j hj => by rw [ρ8 j (by omega), c8]; exact hst j hj
        have hRρ : lwR e B n (i + 1) (Lr + cn M + cn A) (h + 1) o σ2 ρ := by
          obtain ⟨m1, m2, m3, m4, m5⟩ := hM
          refine ⟨tpX_fr a2 w6 (w5.1 2 (by omega) (by omega) (by omega)), ⟨by rw [← hρ, js_at], by rw [ρ0 8 (by omega) (by omega), c9 8 (by omega) (by omega)]; exact m2, by omega, m4, by rw [fρ.1 6 (by omega) (by omega) (by omega)]; exact m5⟩, w2, by rw [ρ0 12 (by omega) (by omega)]; exact c3, by rw [← hρ, js_k _ _ (by omega), js_at], by rw [ρ0 11 (by omega) (by omega), c9 11 (by omega) (by omega)]; exact h11, by omega, by omega, hn, ho⟩
        have hC3 : CODE e L0 (Lr + cn M + cn A) (b, false) (b + 1, false) σ2 ρ := by
          have hC1 : CODE e L0 Lr (b, false) (b + cn A + 1 + cn M, false) σ2 ρ := by
            rw [show b + cn A + 1 + cn M = b + 1 + cn A + cn M by omega]
            exact CODE_keep hC (fun j _ hj => ⟨by rw [w4 j (by omega), a3 (e + 1) (by omega)], by rw [ρ7, c4 j hj]⟩)
          have hC2 := CODE_opt (X := M) hLL (by omega) (fun m em => ⟨by have := (hp.2.2 m em).1; omega, by
            rw [w4 Lr (by rw [em]; show Lr < Lr + 1; omega), a3 (e + 1) (by omega)]
            exact hMc m em, by rw [ρ7]; exact c5 m em⟩) hC1
          rw [show b + cn A + 1 = b + 1 + cn A by omega] at hC2
          exact CODE_opt (X := A) (by omega) (by omega) (fun a ea => ⟨by have := hAop a ea; omega, w3 a ea, by rw [ρ7]; exact c6 a ea⟩) hC2
        have hcd2 : cdP e L0 σ0 σ2 τ0 ρ := fun j hj => ⟨by rw [w4 j (by omega), a3 (e + 1) (by omega)]; exact (hcd j hj).1, by rw [ρ7, c4 j (by omega)]; exact (hcd j hj).2⟩
        have hfC2 : frC e σ0 σ2 := frC_tr hfC (frC_tr (frC_of he a3) w5)
        obtain ⟨σ3, q1, q2⟩ := hfact (i + 1) (Lr + cn M + cn A) (h + 1) (b + 1) F N σ2 ρ hRρ (by omega) (by omega) (by omega) (by omega)
        rw [q1]
        simp only [Option.bind_some]
        rcases q2 with ⟨f, f0, fd, τ2, f1, f2, f3⟩ | ⟨i', L', N', τ2, r1, r2, r3, r4, r5, r6, r7, r8, r9, r10, r11⟩
        · obtain ⟨i3, hi3⟩ := fd.1
          rw [xD_stepOf F f0 hi3]
          simp only [Option.bind_some]
          obtain ⟨Nc, rfl⟩ : ∃ q, Nc = q + 1 := ⟨Nc - 1, by omega⟩
          obtain ⟨σ4, s1, s2⟩ := xD_sumLoop F he (dW_self fd) (fcF F d) Nc (nI o) (nI s) (nI (c + 1))
          rw [s1]
          exact ⟨σ4, rfl, Or.inl ⟨f, f0, dW_tr hfC2 (dW_tr2 fd s2), τ2, f1, f2, frS_tr (frS_tr hfS fρ) f3⟩⟩
        · rw [x_opAt F hF r6.1, r5]
          simp only [Option.bind_some]
          obtain ⟨t1, t2, t3, t4, t5, t6, t7, t8, t9, t10⟩ := id r6
          have hi'n := t1.2.2.2.2.2.2.1
          refine ih (c + 1) i' L' N' Nc (some s) none σ3 τ2 (by omega) (by omega) (by omega) t1 t2 ⟨t5, fun a ea => (by cases ea; exact ⟨h56, by rw [r8 h (by omega), ρ8h, opM_add h56]⟩), fun m em => (by cases em)⟩ t4 t3 t6 (fun m em => (by cases em)) ?_ (by omega) ?_ (by omega) (by omega) ?_ (stW_tr stρ r8 (by omega)) (cdP_tr hcd2 r9 (by omega)) (frC_tr hfC2 r10) (frS_tr (frS_tr hfS fρ) r11)
          · exact CODE_cat (by omega) r2 hC3 r7 (fun j _ hj => r9 j hj)
          · show L' + 1 + 0 + i0 ≤ L0 + i'
            omega
          · show h + 1 + 0 ≤ i'
            omega
      · -- a product's sign
        have h79 : 7 ≤ s ∧ s ≤ 9 := by omega
        obtain ⟨τc, c1, c2, c3, c4, c5, c8, c9, c10⟩ := m_close0 F hF hp h12 (by omega) (by omega) hnoS
        have eC : lp_X4_readSum_20 F e (fcF F d) (Nc + 1) (nI o) (xO A) (nI s) (nI c) σ = (Option.bind (fcF F d e (nI o) σ1) fun q5 => (Option.bind (mX3_put F e (nI s) (0 : Int32) q5) fun q6 => (Option.bind (mX4_stepOf F 3 (5 : Int32) q6) fun q7 => (lp_X4_readSum_20 F e (fcF F d) Nc (nI o) (xO A) q7 (nI (c + 1)) q6)))) := by
          rw [lp_X4_readSum_20, if_pos hcl, if_neg (m1_ne s (by omega)), a1]
          simp only [Option.bind_some]
          rw [if_neg (show ¬ nI s = (5 : Int32) from fun e9 => by have := nI_inj (b := 5) (by omega) (by omega) e9; omega), if_neg (show ¬ nI s = (6 : Int32) from fun e9 => by have := nI_inj (b := 6) (by omega) (by omega) e9; omega)]
          unfold jn_X4_readSum_59 jn_X4_readSum_74
          simp only [if_true, nI1]
        rw [eY, if_neg c7]
        simp only [eC]
        have eJ : jn_X12_readsSum_38 F (lp_X12_readsSum_14 F (Yk F) N) (nI bs) (nI (s - 3)) 0 τ = Xl F bs F N (js (js (js τc 8 (h + cn A) (nI (1048576 * (s - 3)))) 0 13 (nI (h + cn A + 1))) 0 7 (nI (i + 1))) := by
          unfold jn_X12_readsSum_38
          rw [c1]
          simp only [Option.bind_some]
          have e13 : τc 0 13 = nI (h + cn A) := c2.1
          rw [e13, jin_nI (show h + cn A < 260 by omega) (by omega), if_pos rfl, nI_clamp (by omega), show (1048576 : Int32) = nI 1048576 from rfl, pk_mul]
          simp only [ltE, js_c _ _ _ (show (0 : Nat) ≠ 8 by omega), e13, nI1, js_k _ _ (show (7 : Nat) ≠ 13 by omega), c9 7 (by omega) (by omega), hM.1]
          rfl
        rw [eJ]
        generalize hρ : js (js (js τc 8 (h + cn A) (nI (1048576 * (s - 3)))) 0 13 (nI (h + cn A + 1))) 0 7 (nI (i + 1)) = ρ
        have ρ7 : ∀ j, ρ 7 j = τc 7 j := fun j => by rw [← hρ, js_c _ _ _ (by omega), js_c _ _ _ (by omega), js_c _ _ _ (by omega)]
        have ρ8 : ∀ j, j ≠ h + cn A → ρ 8 j = τc 8 j := fun j hj => by rw [← hρ, js_c _ _ _ (by omega), js_c _ _ _ (by omega), js_k _ _ hj]
        have ρ8h : ρ 8 (h + cn A) = nI (1048576 * (s - 3)) := by rw [← hρ, js_c _ _ _ (by omega), js_c _ _ _ (by omega), js_at]
        have ρ0 : ∀ q, q ≠ 7 → q ≠ 13 → ρ 0 q = τc 0 q := fun q q1 q2 => by rw [← hρ, js_k _ _ q1, js_k _ _ q2, js_c _ _ _ (by omega)]
        have fρ : frS τ ρ := by rw [← hρ]; exact frS_tr c10 (frS_tr (frS_tr (frS_c _ _ _ (Or.inr rfl)) (frS_js _ _ (Or.inr ⟨by omega, by omega⟩))) (frS_js _ _ (Or.inl rfl)))
        have stρ : stW h τ0 ρ := fun j hj => by rw [ρ8 j (by omega), c8]; exact hst j hj
        have hRρ : lwR e B n (i + 1) (Lr + cn M) (h + cn A + 1) o σ1 ρ := by
          obtain ⟨m1, m2, m3, m4, m5⟩ := hM
          refine ⟨a2, ⟨by rw [← hρ, js_at], by rw [ρ0 8 (by omega) (by omega), c9 8 (by omega) (by omega)]; exact m2, by omega, m4, by rw [fρ.1 6 (by omega) (by omega) (by omega)]; exact m5⟩, h51, by rw [ρ0 12 (by omega) (by omega)]; exact c3, by rw [← hρ, js_k _ _ (by omega), js_at], by rw [ρ0 11 (by omega) (by omega), c9 11 (by omega) (by omega)]; exact h11, by omega, by omega, hn, ho⟩
        have hC2 : CODE e L0 (Lr + cn M) (b, false) (b + cn A + 1, false) σ1 ρ := by
          refine CODE_opt (X := M) hLL (by omega) (fun m em => ⟨by have := (hp.2.2 m em).1; omega, by
            rw [a3 (e + 1) (by omega)]
            exact hMc m em, by rw [ρ7]; exact c5 m em⟩) ?_
          rw [show b + cn A + 1 + cn M = b + 1 + cn A + cn M by omega]
          exact CODE_keep hC (fun j _ hj => ⟨by rw [a3 (e + 1) (by omega)], by rw [ρ7, c4 j hj]⟩)
        have hcd2 : cdP e L0 σ0 σ1 τ0 ρ := fun j hj => ⟨by rw [a3 (e + 1) (by omega)]; exact (hcd j hj).1, by rw [ρ7, c4 j (by omega)]; exact (hcd j hj).2⟩
        have hfC2 : frC e σ0 σ1 := frC_tr hfC (frC_of he a3)
        obtain ⟨σ3, q1, q2⟩ := hfact (i + 1) (Lr + cn M) (h + cn A + 1) (b + cn A + 1) F N σ1 ρ hRρ (by omega) (by omega) (by omega) (by omega)
        rw [q1]
        simp only [Option.bind_some]
        rcases q2 with ⟨f, f0, fd, τ2, f1, f2, f3⟩ | ⟨i', L', N', τ2, r1, r2, r3, r4, r5, r6, r7, r8, r9, r10, r11⟩
        · obtain ⟨σ4, s1, s2⟩ := xD_put F he (dW_self fd) (nI s) 0
          rw [s1]
          simp only [Option.bind_some]
          obtain ⟨i3, hi3⟩ := s2.1
          rw [xD_stepOf F f0 hi3]
          simp only [Option.bind_some]
          obtain ⟨Nc, rfl⟩ : ∃ q, Nc = q + 1 := ⟨Nc - 1, by omega⟩
          obtain ⟨σ5, s3, s4⟩ := xD_sumLoop F he (dW_self s2) (fcF F d) Nc (nI o) (xO A) (nI (c + 1))
          rw [s3]
          exact ⟨σ5, rfl, Or.inl ⟨f, f0, dW_tr hfC2 (dW_tr2 fd (dW_tr2 s2 s4)), τ2, f1, f2, frS_tr (frS_tr hfS fρ) f3⟩⟩
        · obtain ⟨t1, t2, t3, t4, t5, t6, t7, t8, t9, t10⟩ := id r6
          have hi'n := t1.2.2.2.2.2.2.1
          obtain ⟨σ4, u1, u2, u3, u4, u5, u6⟩ := x_lput F he t3 (by omega) (nI s) 0
          have t1' : tpX B n i' 0 σ4 := tpX_fr t1 u6 (u5.1 2 (by omega) (by omega) (by omega))
          rw [u1]
          simp only [Option.bind_some]
          rw [x_opAt F hF t1', r5]
          simp only [Option.bind_some]
          have u3' : σ4 (e + 1) L' = nI s := by
            rw [u3]
            show (0 : Int32) * 16 + nI s = nI s
            rw [show (0 : Int32) * 16 = nI 0 from rfl, nI_add, Nat.zero_add]
          refine ih (c + 1) i' L' N' Nc A (some s) σ4 τ2 (by omega) (by omega) (by omega) t1' t2 ⟨t5, fun a ea => ⟨hAop a ea, ?_⟩, fun m em => (by cases em; exact ⟨h79, by rw [r8 (h + cn A) (by omega), ρ8h, opM_mul h79]⟩)⟩ t4 u2 t6 (fun m em => (by cases em; exact u3')) ?_ (by omega) ?_ (by omega) (by omega) ?_ (stW_tr stρ r8 (by omega)) ?_ (frC_tr hfC2 (frC_tr r10 u5)) (frS_tr (frS_tr hfS fρ) r11)
          · have e1 : cn A = 1 := by rw [ea]; rfl
            rw [r8 h (by omega), ρ8 h (by omega), c8]
            exact (hp.2.1 a ea).2
          · have hcat := CODE_cat (by omega) r2 hC2 r7 (fun j _ hj => r9 j hj)
            have ez : b + 1 + cn A + cn (some s) = b + cn A + 1 + 1 := by show b + 1 + cn A + 1 = b + cn A + 1 + 1; omega
            rw [ez]
            exact CODE_keep hcat (fun j _ hj => ⟨u4 j (by omega), rfl⟩)
          · show L' + cn A + 1 + i0 ≤ L0 + i'
            omega
          · show h + cn A + 1 ≤ i'
            omega
          · exact fun j hj => ⟨by rw [u4 j (by omega), (r9 j (by omega)).1]; exact (hcd2 j hj).1, by rw [(r9 j (by omega)).2]; exact (hcd2 j hj).2⟩
theorem sum_of (F : Nat) (hF : 300 ≤ F) {e : Nat} (he : eL e) {bs : Nat} {B : Nat → Nat} {n d o : Nat} (ho : o ≤ 6) (hfact : factOK F bs e B n d o) : sumOK F bs e B n (d + 1) o := by
  intro i L h b m N σ τ hR hbs hb hm hN hbel
  obtain ⟨hX, hM, h5, h12, h13, h11, hLi, hhi, hn, ho'⟩ := id hR
  obtain ⟨σ1, q1, q2⟩ := hfact i L h b m N σ τ hR hbs (by omega) hm hN
  rw [sum_eq, q1]
  simp only [Option.bind_some]
  rcases q2 with ⟨f, f0, fd, τ2, f1, f2, f3⟩ | ⟨i', L', N', τ2, r1, r2, r3, r4, r5, r6, r7, r8, r9, r10, r11⟩
  · obtain ⟨i3, hi3⟩ := fd.1
    rw [xD_stepOf F f0 hi3]
    simp only [Option.bind_some]
    obtain ⟨Nc, hNc⟩ : ∃ q, F = q + 1 := ⟨F - 1, by omega⟩
    obtain ⟨σ4, s1, s2⟩ := xD_sumLoop F he (dW_self fd) (fcF F d) Nc (nI o) (-1) 1
    rw [← hNc] at s1
    rw [s1]
    exact ⟨σ4, rfl, Or.inl ⟨f, f0, dW_tr2 fd s2, τ2, f1, f2, f3⟩⟩
  · obtain ⟨t1, t2, t3, t4, t5, t6, t7, t8, t9, t10⟩ := id r6
    rw [x_opAt F hF t1, r5]
    simp only [Option.bind_some]
    exact sum_loop F hF he hfact (σ0 := σ) (τ0 := τ) (N0 := N) hbs hb ho hn hLi hN hbel 250 1 i' L' N' F none none σ1 τ2 (by omega) (by omega) (by omega) t1 t2 ⟨t5, fun a ea => (by cases ea), fun m em => (by cases em)⟩ t4 t3 t6 (fun m em => (by cases em)) r7 r2 (by show L' + 0 + 0 + i ≤ L + i'; omega) r1 r4 (by show h + 0 + 0 ≤ i'; omega) r8 r9 r10 r11
theorem sum_all (F : Nat) (hF : 300 ≤ F) {e : Nat} (he : eL e) (bs : Nat) (B : Nat → Nat) (n : Nat) : ∀ (D o : Nat), o ≤ 6 → 7 ≤ D + o → sumOK F bs e B n D o
  | 0, o, ho, h => by omega
  | D + 1, o, ho, h => sum_of F hF he ho (fact_of F hF he ho (fun h6 => sum_all F hF he bs B n D (o + 1) (by omega) (by omega)))
