/-! ===== ledger ===== -/
def sN (k : Nat) : Prop := k = 7 ∨ k = 9 ∨ k = 10
theorem m_am_loop (F : Nat) {B : Nat → Nat} (hB : ∀ j, B j < 256) {n most : Nat} (hm : most ≤ 6) :
    ∀ (k N i a c : Nat) (τ : jS), k < N → c + k = most → c ≤ i → a < 10 ^ c → tpM B n i τ → τ 0 10 = nI a →
      ∃ τ', lp_X12_readsAmount_27 F N (nI most) (nI (i - c)) τ = some ((if isD B n (i + nd B n i k) then 0 else 1), τ') ∧ frM sN τ τ' ∧ (if isD B n (i + nd B n i k) then τ' 0 9 = flt 2 (i + nd B n i k) else tpM B n (i + nd B n i k) τ' ∧ τ' 0 10 = nI (nv B n i k a)) := by
  intro k
  induction k with
  | zero =>
    intro N i a c τ hN hc hci ha h h10
    obtain ⟨N, rfl⟩ : ∃ M, N = M + 1 := ⟨N - 1, by omega⟩
    have hi := h.2.2.1
    have hn := h.2.2.2.1
    show ∃ τ', lp_X12_readsAmount_27 F (N + 1) (nI most) (nI (i - c)) τ = some ((if isD B n i then 0 else 1), τ') ∧ frM sN τ τ' ∧ (if isD B n i then τ' 0 9 = flt 2 i else tpM B n i τ' ∧ τ' 0 10 = nI a)
    rw [lp_X12_readsAmount_27, m_isDigit F hB h]
    simp only [Option.bind_some]
    by_cases d : isD B n i
    · simp only [if_pos d, if_neg (show ¬ (1 : Int32) = 0 by decide)]
      rw [h.1, if_pos (show nI i = nI (i - c) + nI most by rw [nI_add]; congr 1; omega)]
      exact ⟨js τ 0 9 (flt 2 i), rfl, frM_js _ _ (Or.inr (Or.inl rfl)), js_at _ _ _ _⟩
    · simp only [if_neg d, if_true]
      exact ⟨_, rfl, frM_rf _, h, h10⟩
  | succ k ih =>
    intro N i a c τ hN hc hci ha h h10
    obtain ⟨N, rfl⟩ : ∃ M, N = M + 1 := ⟨N - 1, by omega⟩
    have hi := h.2.2.1
    have hn := h.2.2.2.1
    have ha2 : a < 10000000 := Nat.lt_of_lt_of_le ha (Nat.le_trans (Nat.pow_le_pow_right (by omega) (show c ≤ 6 by omega)) (by omega))
    rw [lp_X12_readsAmount_27, m_isDigit F hB h]
    by_cases d : isD B n i
    · have e1 : nd B n i (k + 1) = 1 + nd B n (i + 1) k := by rw [nd, if_pos d]
      have e2 : nv B n i (k + 1) a = nv B n (i + 1) k (a * 10 + (B i - 48)) := by rw [nv, if_pos d]
      simp only [Option.bind_some, if_pos d, if_neg (show ¬ (1 : Int32) = 0 by decide)]
      rw [h.1, if_neg (show ¬ nI i = nI (i - c) + nI most by
        rw [nI_add]
        intro e
        have := nI_inj (by omega) (by omega) e
        omega), m_here F h]
      simp only [Option.bind_some, ltE]
      have ex : ((10 : Int32) * τ 0 10 + sg B n i) - 48 = nI (a * 10 + (B i - 48)) := by
        rw [h10, Int32.mul_comm]
        exact x_dig hB d ha2
      rw [ex]
      have t1 : tpM B n i (js τ 0 10 (nI (a * 10 + (B i - 48)))) := tpM_js h _ (by omega) (by omega)
      have t2 := tpM_step t1 (isD_e.mp d).1
      obtain ⟨τ', g1, g2, g3⟩ := ih N (i + 1) (a * 10 + (B i - 48)) (c + 1) _ (by omega) (by omega) (by omega) (by rw [Nat.pow_succ]; have := isD_e.mp d; omega) t2 (by rw [js_k _ _ (by omega), js_at])
      rw [show i + 1 - (c + 1) = i - c by omega] at g1
      rw [show i + 1 + nd B n (i + 1) k = i + nd B n i (k + 1) by omega, ← e2] at g3
      rw [show i + 1 + nd B n (i + 1) k = i + nd B n i (k + 1) by omega] at g1
      exact ⟨τ', g1, frM_tr (frM_tr (frM_js _ _ (Or.inr (Or.inr rfl))) (frM_js _ _ (Or.inl rfl))) g2, g3⟩
    · have e1 : nd B n i (k + 1) = 0 := by rw [nd, if_neg d]
      have e2 : nv B n i (k + 1) a = a := by rw [nv, if_neg d]
      rw [e1, e2, Nat.add_zero]
      simp only [if_neg d, Option.bind_some, if_true]
      exact ⟨_, rfl, frM_rf _, h, h10⟩
theorem m_amount (F : Nat) (hF : 10 ≤ F) {B : Nat → Nat} (hB : ∀ j, B j < 256) {n i : Nat} {τ : jS} (h : tpM B n i τ) {k : Nat} (hk : k ≤ 6) (hk1 : 1 ≤ k) :
    ∃ b τ', mX12_readsAmount F (nI k) τ = some (b, τ') ∧ frM sN τ τ' ∧ ((b = 0 ∧ nd B n i k = 0 ∧ τ' 0 9 = flt 1 i) ∨ (b = 0 ∧ nd B n i k ≠ 0 ∧ isD B n (i + nd B n i k) ∧ τ' 0 9 = flt 2 (i + nd B n i k)) ∨ (b = 1 ∧ nd B n i k ≠ 0 ∧ ¬ isD B n (i + nd B n i k) ∧ tpM B n (i + nd B n i k) τ' ∧ τ' 0 10 = nI (nv B n i k 0))) := by
  unfold mX12_readsAmount
  simp only [ltE]
  rw [m_isDigit F hB h]
  obtain ⟨k, rfl⟩ : ∃ j, k = j + 1 := ⟨k - 1, by omega⟩
  by_cases d : isD B n i
  · have hnd : nd B n i (k + 1) ≠ 0 := by rw [nd, if_pos d]; omega
    simp only [Option.bind_some, if_pos d, if_neg (show ¬ (1 : Int32) = 0 by decide)]
    obtain ⟨τ', g1, g2, g3⟩ := m_am_loop F hB (n := n) (most := k + 1) hk (k + 1) F i 0 0 (js τ 0 10 0) (by omega) (by omega) (by omega) (by decide) (tpM_js h _ (by omega) (by omega)) (js_at _ _ _ _)
    rw [h.1]
    have hf := frM_tr (frM_js τ 0 (S := sN) (k := 10) (Or.inr (Or.inr rfl))) g2
    by_cases d2 : isD B n (i + nd B n i (k + 1))
    · rw [if_pos d2] at g1 g3
      exact ⟨_, τ', g1, hf, Or.inr (Or.inl ⟨rfl, hnd, d2, g3⟩)⟩
    · rw [if_neg d2] at g1 g3
      exact ⟨_, τ', g1, hf, Or.inr (Or.inr ⟨rfl, hnd, d2, g3⟩)⟩
  · have hnd : nd B n i (k + 1) = 0 := by rw [nd, if_neg d]
    simp only [Option.bind_some, if_neg d, if_true]
    rw [h.1]
    exact ⟨0, js τ 0 9 (flt 1 i), rfl, frM_js _ _ (Or.inr (Or.inl rfl)), Or.inl ⟨rfl, hnd, js_at _ _ _ _⟩⟩
/-- a number, in both -/
theorem s_amount (F : Nat) (hF : 10 ≤ F) {B : Nat → Nat} {n i : Nat} {σ τ : jS} (hX : tpX B n i 0 σ) (h : tpM B n i τ) {k : Nat} (hk : k ≤ 6) (hk1 : 1 ≤ k) :
    ∃ v σ' b τ', mX10_number F (nI k) σ = some (nI v, σ') ∧ frm σ σ' ∧ mX12_readsAmount F (nI k) τ = some (b, τ') ∧ frM sN τ τ' ∧ v < 10 ^ k ∧ ((b = 0 ∧ ∃ i' f, f ≠ 0 ∧ tpX B n i' f σ' ∧ τ' 0 9 = f) ∨ (b = 1 ∧ ∃ i', i < i' ∧ tpX B n i' 0 σ' ∧ tpM B n i' τ' ∧ τ' 0 10 = nI v)) := by
  obtain ⟨σ', a1, a2, a3⟩ := x_number F hF hX hk
  obtain ⟨b, τ', b1, b2, b3⟩ := m_amount F hF hX.1 h hk hk1
  rw [if_pos rfl] at a2
  have hv : nv B n i k 0 < 10 ^ k := by have := nv_lt B n k i 0; omega
  have hi := h.2.2.1
  have hn := h.2.2.2.1
  refine ⟨_, σ', b, τ', a1, a3, b1, b2, hv, ?_⟩
  rcases b3 with ⟨rfl, c1, c2⟩ | ⟨rfl, c1, c2, c3⟩ | ⟨rfl, c1, c2, c3, c4⟩
  · rw [if_pos c1] at a2
    exact Or.inl ⟨rfl, _, _, flt_ne (by omega) (by omega) (by omega), a2, c2⟩
  · rw [if_neg c1, if_pos c2] at a2
    have h9 : i + nd B n i k ≤ n := a2.2.2.2.2.2.2.1
    exact Or.inl ⟨rfl, _, _, flt_ne (by omega) (by omega) (by omega), a2, c3⟩
  · rw [if_neg c1, if_neg c2] at a2
    exact Or.inr ⟨rfl, _, by omega, a2, c3, c4⟩
theorem s_part (F : Nat) (hF : 10 ≤ F) {B : Nat → Nat} {n i : Nat} {σ τ : jS} (hX : tpX B n i 0 σ) (h : tpM B n i τ) {c k : Nat} (hc : c < 2 ^ 31) (hk : k ≤ 6) (hk1 : 1 ≤ k) :
    ∃ v σ' b τ', mX5_readPart F (nI c) (nI k) σ = some (nI v, σ') ∧ frm σ σ' ∧ mX12_readsPerhaps F (nI c) (nI k) τ = some (b, τ') ∧ frM sN τ τ' ∧ v < 10 ^ k ∧ ((b = 0 ∧ ∃ i' f, f ≠ 0 ∧ tpX B n i' f σ' ∧ τ' 0 9 = f) ∨ (b = 1 ∧ ∃ i', i ≤ i' ∧ tpX B n i' 0 σ' ∧ tpM B n i' τ' ∧ τ' 0 10 = nI v)) := by
  unfold mX5_readPart mX12_readsPerhaps
  have h0 : tpM B n i (js τ 0 10 0) := tpM_js h _ (by omega) (by omega)
  rw [ltE, m_here F h0]
  have f0 := frM_js τ 0 (S := sN) (k := 10) (Or.inr (Or.inr rfl))
  by_cases g : i < n ∧ B i = c
  · rw [x_stand1 F hX hc g]
    simp only [Option.bind_some, if_neg (show ¬ (1 : Int32) = 0 by decide), if_pos ((sg_eq hX.1 n i hc).mpr g), ltE]
    obtain ⟨σ1, a1, a2, a3⟩ := x_step1 F hX g.1
    obtain ⟨v, σ2, b, τ2, b1, b2, b3, b4, b5, b6⟩ := s_amount F hF a2 (tpM_step h0 g.1) hk hk1
    simp only [a1, b1, b3, Option.bind_some]
    have f1 := frM_tr (frM_tr f0 (frM_js _ (js τ 0 10 0 0 7 + 1) (k := 7) (Or.inl rfl))) b4
    have hb : jbo b = true := by rcases b6 with ⟨rfl, -⟩ | ⟨rfl, -⟩ <;> rfl
    rw [if_pos hb]
    refine ⟨v, σ2, b, τ2, rfl, frm_tr a3 b2, rfl, f1, b5, ?_⟩
    rcases b6 with q | ⟨q1, i', q2, q3⟩
    · exact Or.inl q
    · exact Or.inr ⟨q1, i', by omega, q3⟩
  · rw [x_stand0 F hX hc g]
    simp only [Option.bind_some, if_true, if_neg (fun k => g ((sg_eq hX.1 n i hc).mp k))]
    exact ⟨0, σ, 1, _, rfl, frm_rf σ, rfl, f0, Nat.pow_pos (by omega), Or.inr ⟨rfl, i, by omega, hX, h0, js_at _ _ _ _⟩⟩
/-! ### behind a fault the class reads on, and nothing comes of it -/
theorem xD_person (F : Nat) {B : Nat → Nat} {n i : Nat} {f : Int32} {σ : jS} (h : tpX B n i f σ) (hf : f ≠ 0) (x1 x2 : Int32) : ∃ r σ' i', mX5_readPerson F x1 x2 σ = some (r, σ') ∧ tpX B n i' f σ' ∧ frm σ σ' := by
  obtain ⟨σ1, a1, a2, a3⟩ := x_step F h
  unfold mX5_readPerson
  simp only [ltE, x_failD F h hf, a1, Option.bind_some]
  split
  · exact ⟨_, _, _, rfl, h, frm_rf σ⟩
  · split
    · split
      · split
        · exact ⟨_, _, _, rfl, a2, a3⟩
        · split <;> exact ⟨_, _, _, rfl, a2, a3⟩
      · exact ⟨_, _, _, rfl, a2, a3⟩
    · exact ⟨_, _, _, rfl, h, frm_rf σ⟩
def lg3 (F : Nat) (a b : Int32) (σ : jS) : Option jS := (lt (σ 1 3) fun y4 => (Option.bind (mX10_number F (6 : Int32) σ) fun q5 => (if q5.1 = 0 then (Option.bind (mX10_fail F (3 : Int32) y4 q5.2) fun q6 => (jn_X5_readLoan_58 F a b q5.1 q6)) else (jn_X5_readLoan_58 F a b q5.1 q5.2))))
def lg2 (F : Nat) (x1 a : Int32) (σ : jS) : Option jS := Option.bind (mX5_readPerson F x1 a σ) fun q3 => lg3 F a q3.1 q3.2
def lg1 (F : Nat) (x1 a : Int32) (σ : jS) : Option jS := Option.bind (mX10_take F (62 : Int32) σ) fun q2 => lg2 F x1 a q2
theorem lg_eq (F : Nat) (x1 : Int32) (σ : jS) : mX5_readLoan F x1 σ = Option.bind (mX5_readPerson F x1 (-1 : Int32) σ) fun q1 => lg1 F x1 q1.1 q1.2 := rfl
theorem xD_tail (F : Nat) {B : Nat → Nat} {n i : Nat} {f : Int32} {σ : jS} (h : tpX B n i f σ) (hf : f ≠ 0) (a b c : Int32) : jn_X5_readLoan_58 F a b c σ = some σ := by
  unfold jn_X5_readLoan_58 mX5_readPart
  have e1 : mX10_stands F (64 : Int32) σ = some 0 := by
    rw [show (64 : Int32) = nI 64 from rfl, x_stands F h (by omega), if_neg (fun k => hf k.1)]
  have e2 : mX10_stands F (47 : Int32) σ = some 0 := by
    rw [show (47 : Int32) = nI 47 from rfl, x_stands F h (by omega), if_neg (fun k => hf k.1)]
  simp only [e1, e2, Option.bind_some, if_true, h.2.2.2.2.1, if_neg hf]
theorem xD_lg3 (F : Nat) (hF : 10 ≤ F) {B : Nat → Nat} {n i : Nat} {f : Int32} {σ : jS} (h : tpX B n i f σ) (hf : f ≠ 0) (a b : Int32) : ∃ σ' i', lg3 F a b σ = some σ' ∧ tpX B n i' f σ' ∧ frm σ σ' := by
  obtain ⟨σ1, a1, a2, a3⟩ := x_number F hF h (most := 6) (by omega)
  rw [if_neg hf] at a2
  unfold lg3
  rw [show (6 : Int32) = nI 6 from rfl, a1]
  simp only [ltE, Option.bind_some, x_failD F a2 hf, xD_tail F a2 hf, ite_self]
  exact ⟨σ1, _, rfl, a2, a3⟩
theorem xD_lg2 (F : Nat) (hF : 10 ≤ F) {B : Nat → Nat} {n i : Nat} {f : Int32} {σ : jS} (h : tpX B n i f σ) (hf : f ≠ 0) (x1 a : Int32) : ∃ σ' i', lg2 F x1 a σ = some σ' ∧ tpX B n i' f σ' ∧ frm σ σ' := by
  obtain ⟨r, σ1, i1, a1, a2, a3⟩ := xD_person F h hf x1 a
  obtain ⟨σ2, i2, b1, b2, b3⟩ := xD_lg3 F hF a2 hf a r
  unfold lg2
  rw [a1]
  exact ⟨σ2, i2, b1, b2, frm_tr a3 b3⟩
theorem xD_lg1 (F : Nat) (hF : 10 ≤ F) {B : Nat → Nat} {n i : Nat} {f : Int32} {σ : jS} (h : tpX B n i f σ) (hf : f ≠ 0) (x1 a : Int32) : ∃ σ' i', lg1 F x1 a σ = some σ' ∧ tpX B n i' f σ' ∧ frm σ σ' := by
  obtain ⟨σ1, i1, a1, a2, a3⟩ := x_takeD F h hf (c := 62) (by omega)
  obtain ⟨σ2, i2, b1, b2, b3⟩ := xD_lg2 F hF a2 hf x1 a
  unfold lg1
  rw [show (62 : Int32) = nI 62 from rfl, a1]
  exact ⟨σ2, i2, b1, b2, frm_tr a3 b3⟩
theorem xD_loan (F : Nat) (hF : 10 ≤ F) {B : Nat → Nat} {n i : Nat} {f : Int32} {σ : jS} (h : tpX B n i f σ) (hf : f ≠ 0) (x1 : Int32) : ∃ σ' i', mX5_readLoan F x1 σ = some σ' ∧ tpX B n i' f σ' ∧ frm σ σ' := by
  obtain ⟨r, σ1, i1, a1, a2, a3⟩ := xD_person F h hf x1 (-1)
  obtain ⟨σ2, i2, b1, b2, b3⟩ := xD_lg1 F hF a2 hf x1 r
  rw [lg_eq, a1]
  exact ⟨σ2, i2, b1, b2, frm_tr a3 b3⟩
