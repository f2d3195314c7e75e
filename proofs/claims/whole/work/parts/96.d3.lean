/-! ### numbers and letters of a law -/
theorem m_nu_loop (F : Nat) {B : Nat → Nat} (hB : ∀ j, B j < 256) {n : Nat} :
    ∀ (k N i a c : Nat) (τ : jS), k < N → c + k = 5 → c ≤ i → a < 10 ^ c → tpM B n i τ → τ 0 10 = nI a →
      ∃ τ', lp_X12_readsNumber_10 F N (nI (i - c)) τ = some ((if isD B n (i + nd B n i k) then 0 else 1), τ') ∧ frM sN τ τ' ∧ (if isD B n (i + nd B n i k) then τ' 0 9 = flt 2 (i + nd B n i k) else tpM B n (i + nd B n i k) τ' ∧ τ' 0 10 = nI (nv B n i k a)) := by
  intro k
  induction k with
  | zero =>
    intro N i a c τ hN hc hci ha h h10
    obtain ⟨N, rfl⟩ : ∃ M, N = M + 1 := ⟨N - 1, by omega⟩
    have hi := h.2.2.1
    have hn := h.2.2.2.1
    show ∃ τ', lp_X12_readsNumber_10 F (N + 1) (nI (i - c)) τ = some ((if isD B n i then 0 else 1), τ') ∧ frM sN τ τ' ∧ (if isD B n i then τ' 0 9 = flt 2 i else tpM B n i τ' ∧ τ' 0 10 = nI a)
    rw [lp_X12_readsNumber_10, m_isDigit F hB h]
    simp only [Option.bind_some]
    by_cases d : isD B n i
    · simp only [if_pos d, if_neg (show ¬ (1 : Int32) = 0 by decide)]
      rw [h.1, if_pos (show nI i = nI (i - c) + 5 by rw [show (5 : Int32) = nI 5 from rfl, nI_add]; congr 1; omega)]
      exact ⟨js τ 0 9 (flt 2 i), rfl, frM_js _ _ (Or.inr (Or.inl rfl)), js_at _ _ _ _⟩
    · simp only [if_neg d, if_true]
      exact ⟨_, rfl, frM_rf _, h, h10⟩
  | succ k ih =>
    intro N i a c τ hN hc hci ha h h10
    obtain ⟨N, rfl⟩ : ∃ M, N = M + 1 := ⟨N - 1, by omega⟩
    have hi := h.2.2.1
    have hn := h.2.2.2.1
    have ha2 : a < 10000000 := Nat.lt_of_lt_of_le ha (Nat.le_trans (Nat.pow_le_pow_right (by omega) (show c ≤ 6 by omega)) (by omega))
    rw [lp_X12_readsNumber_10, m_isDigit F hB h]
    by_cases d : isD B n i
    · have e1 : nd B n i (k + 1) = 1 + nd B n (i + 1) k := by rw [nd, if_pos d]
      have e2 : nv B n i (k + 1) a = nv B n (i + 1) k (a * 10 + (B i - 48)) := by rw [nv, if_pos d]
      simp only [Option.bind_some, if_pos d, if_neg (show ¬ (1 : Int32) = 0 by decide)]
      rw [h.1, if_neg (show ¬ nI i = nI (i - c) + 5 by
        rw [show (5 : Int32) = nI 5 from rfl, nI_add]
        intro e
        have := nI_inj (by omega) (by omega) e
        omega), m_here F h]
      simp only [Option.bind_some, ltE]
      have ex : ((10 : Int32) * τ 0 10 + sg B n i) - 48 = nI (a * 10 + (B i - 48)) := by
        rw [h10, Int32.mul_comm]
        exact x_dig hB d ha2
      rw [ex]
      have t1 : tpM B n i (js τ 0 10 (nI (a * 10 + (B i - 48)))) := tpM_js h _ (by omega) (by omega)
      have t2 := tpM_step t1 (isD_e.mp d).1
      obtain ⟨τ', g1, g2, g3⟩ := ih N (i + 1) (a * 10 + (B i - 48)) (c + 1) _ (by omega) (by omega) (by omega) (by rw [Nat.pow_succ]; have := isD_e.mp d; omega) t2 (by rw [js_k _ _ (by omega), js_at])
      rw [show i + 1 - (c + 1) = i - c by omega] at g1
      rw [show i + 1 + nd B n (i + 1) k = i + nd B n i (k + 1) by omega, ← e2] at g3
      rw [show i + 1 + nd B n (i + 1) k = i + nd B n i (k + 1) by omega] at g1
      exact ⟨τ', g1, frM_tr (frM_tr (frM_js _ _ (Or.inr (Or.inr rfl))) (frM_js _ _ (Or.inl rfl))) g2, g3⟩
    · have e1 : nd B n i (k + 1) = 0 := by rw [nd, if_neg d]
      have e2 : nv B n i (k + 1) a = a := by rw [nv, if_neg d]
      rw [e1, e2, Nat.add_zero]
      simp only [if_neg d, Option.bind_some, if_true]
      exact ⟨_, rfl, frM_rf _, h, h10⟩
theorem s_num5 (F : Nat) (hF : 10 ≤ F) {B : Nat → Nat} {n i : Nat} {σ τ : jS} (hX : tpX B n i 0 σ) (h : tpM B n i τ) (d : isD B n i) :
    ∃ v σ' b τ', mX10_number F (5 : Int32) σ = some (nI v, σ') ∧ frm σ σ' ∧ mX12_readsNumber F τ = some (b, τ') ∧ frM sN τ τ' ∧ v < 100000 ∧ ((b = 0 ∧ ∃ i' f, f ≠ 0 ∧ tpX B n i' f σ' ∧ τ' 0 9 = f) ∨ (b = 1 ∧ ∃ i', i < i' ∧ tpX B n i' 0 σ' ∧ tpM B n i' τ' ∧ τ' 0 10 = nI v)) := by
  obtain ⟨σ', a1, a2, a3⟩ := x_number F hF hX (most := 5) (by omega)
  have hnd : nd B n i 5 ≠ 0 := by rw [nd, if_pos d]; omega
  have hv : nv B n i 5 0 < 100000 := by have := nv_lt B n 5 i 0; omega
  have hn := h.2.2.2.1
  rw [if_pos rfl, if_neg hnd] at a2
  unfold mX12_readsNumber
  simp only [ltE]
  obtain ⟨τ', g1, g2, g3⟩ := m_nu_loop F hX.1 (n := n) 5 F i 0 0 (js τ 0 10 0) (by omega) (by omega) (by omega) (by decide) (tpM_js h _ (by omega) (by omega)) (js_at _ _ _ _)
  rw [h.1]
  have hf := frM_tr (frM_js τ 0 (S := sN) (k := 10) (Or.inr (Or.inr rfl))) g2
  by_cases d2 : isD B n (i + nd B n i 5)
  · rw [if_pos d2] at g1 g3 a2
    have h9 : i + nd B n i 5 ≤ n := a2.2.2.2.2.2.2.1
    exact ⟨_, σ', _, τ', a1, a3, g1, hf, hv, Or.inl ⟨rfl, _, _, flt_ne (by omega) (by omega) (by omega), a2, g3⟩⟩
  · rw [if_neg d2] at g1 g3 a2
    exact ⟨_, σ', _, τ', a1, a3, g1, hf, hv, Or.inr ⟨rfl, _, by omega, a2, g3⟩⟩
theorem lt_all : ∀ b, b < 256 → mX12_factOf 0 (nI b) (fun _ _ => 0) = some (ix 1 b) ∧ (ix 1 b = -1 ∨ (ix 1 b = nI (ix 1 b).toNatClampNeg ∧ (ix 1 b).toNatClampNeg < 9 ∧ ¬ (48 ≤ b ∧ b ≤ 57))) := by decide +kernel
theorem op_all : ∀ b, b < 256 → (ix 3 b = -1 ∧ mX12_sumSign 0 (nI b) (fun _ _ => 0) = some (-1)) ∨ (ix 3 b = nI (ix 3 b).toNatClampNeg ∧ (ix 3 b).toNatClampNeg < 5 ∧ mX12_sumSign 0 (nI b) (fun _ _ => 0) = some (nI ((ix 3 b).toNatClampNeg + 2))) := by decide +kernel
theorem cp_all : ∀ b, b < 256 → (ix 2 b = -1 ∧ b ≠ 60 ∧ b ≠ 62 ∧ b ≠ 61) ∨ (ix 2 b = nI 0 ∧ b = 60) ∨ (ix 2 b = nI 1 ∧ b = 62) ∨ (ix 2 b = nI 2 ∧ b = 61) := by decide +kernel
/-- the operator at a place: 5 to 9, as the class counts -/
def opAt (B : Nat → Nat) (n i : Nat) : Option Nat := if i < n then (if ix 3 (B i) = -1 then none else some (5 + (ix 3 (B i)).toNatClampNeg)) else none
theorem x_opAt (F : Nat) (hF : 300 ≤ F) {B : Nat → Nat} {n i : Nat} {σ : jS} (h : tpX B n i 0 σ) : mX4_stepOf F 3 (5 : Int32) σ = some (match opAt B n i with | none => -1 | some s => nI s) := by
  unfold mX4_stepOf opAt
  by_cases c : i < n
  · have hb := h.1 i
    have es : sg B n i = nI (B i) := by unfold sg; rw [if_pos c]
    rw [x_on1 F h c, h.2.2.2.1, es]
    simp only [Option.bind_some, if_neg (show ¬ (1 : Int32) = 0 by decide)]
    rw [x_index F (e := 3) σ hb (by decide) (by decide) (by omega)]
    simp only [Option.bind_some, if_pos c]
    rcases op_all (B i) hb with ⟨e, _⟩ | ⟨e, hk, _⟩
    · rw [e, if_pos (show (-1 : Int32) < 0 by decide)]
      simp
    · generalize (ix 3 (B i)).toNatClampNeg = k at e hk ⊢
      rw [e, if_neg (nI_pos (by omega)), if_neg (m1_ne k (by omega))]
      show some ((5 : Int32) + nI k) = some (nI (5 + k))
      rw [show (5 : Int32) = nI 5 from rfl, nI_add]
  · rw [x_on0 F h c]
    simp only [Option.bind_some, if_true, if_pos (show (-1 : Int32) < 0 by decide), if_neg c]
theorem opAt_r {B : Nat → Nat} (hB : ∀ j, B j < 256) {n i s : Nat} (h : opAt B n i = some s) : i < n ∧ 5 ≤ s ∧ s ≤ 9 := by
  unfold opAt at h
  by_cases c : i < n
  · rw [if_pos c] at h
    rcases op_all (B i) (hB i) with ⟨e, _⟩ | ⟨e, hk, _⟩
    · rw [if_pos e] at h; cases h
    · rw [if_neg (fun e2 => by rw [e2] at e; exact absurd e (by decide))] at h
      cases h
      omega
  · rw [if_neg c] at h; cases h
theorem m_opAt (F : Nat) {B : Nat → Nat} (hB : ∀ j, B j < 256) {n i : Nat} {τ : jS} (h : tpM B n i τ) : (Option.bind (mX12_here F τ) fun q3 => mX12_sumSign F q3 τ) = some (match opAt B n i with | none => -1 | some s => nI (s - 3)) := by
  rw [m_here F h]
  simp only [Option.bind_some]
  unfold opAt sg
  by_cases c : i < n
  · rw [if_pos c, if_pos c]
    rcases op_all (B i) (hB i) with ⟨e, e2⟩ | ⟨e, hk, e2⟩
    · have e2' : mX12_sumSign F (nI (B i)) τ = some (-1) := e2
      rw [e2', if_pos e]
    · have e2' : mX12_sumSign F (nI (B i)) τ = some (nI ((ix 3 (B i)).toNatClampNeg + 2)) := e2
      rw [e2', if_neg (fun e3 => by rw [e3] at e; exact absurd e (by decide))]
      show some (nI ((ix 3 (B i)).toNatClampNeg + 2)) = some (nI (5 + (ix 3 (B i)).toNatClampNeg - 3))
      congr 2
      omega
  · rw [if_neg c, if_neg c]
    exact (by decide +kernel : mX12_sumSign 0 (-1) (fun _ _ => 0) = some (-1))
/-! ### states side by side -/
def lwR (e : Nat) (B : Nat → Nat) (n i L h o : Nat) (σ τ : jS) : Prop := tpX B n i 0 σ ∧ tpM B n i τ ∧ σ e 5 = nI L ∧ τ 0 12 = nI L ∧ τ 0 13 = nI h ∧ τ 0 11 = nI o ∧ L ≤ i ∧ h ≤ i ∧ n ≤ 240 ∧ o ≤ 6
def cdP (e L : Nat) (σ σ' τ τ' : jS) : Prop := ∀ j, j < L → σ' (e + 1) j = σ (e + 1) j ∧ τ' 7 j = τ 7 j
theorem cdP_rf (e L : Nat) (σ τ : jS) : cdP e L σ σ τ τ := fun _ _ => ⟨rfl, rfl⟩
theorem cdP_tr {e L L' : Nat} {a b c x y z : jS} (h : cdP e L a b x y) (g : cdP e L' b c y z) (hL : L ≤ L') : cdP e L a c x z := fun j hj => ⟨(g j (by omega)).1.trans (h j hj).1, (g j (by omega)).2.trans (h j hj).2⟩
def stW (h : Nat) (τ τ' : jS) : Prop := ∀ j, j < h → τ' 8 j = τ 8 j
theorem stW_rf (h : Nat) (τ : jS) : stW h τ τ := fun _ _ => rfl
theorem stW_tr {h h' : Nat} {a b c : jS} (p : stW h a b) (q : stW h' b c) (hh : h ≤ h') : stW h a c := fun j hj => (q j (by omega)).trans (p j hj)
def Yk (F : Nat) : Int32 → jS → Option (Int32 × jS) := fun x1_17 σ17 => (jn_X12_readsSum_138 F x1_17 σ17)
def Yl (F bs N : Nat) (τ : jS) : Option (Int32 × jS) := lp_X12_readsSum_14 F (Yk F) N (nI bs) τ
def kf (F : Nat) : jS → Option (Int32 × jS) := fun σ3 => (Option.bind (mX12_isDigit F σ3) fun q4 => (if q4 = 0 then (Option.bind (mX12_here F σ3) fun q5 => (Option.bind (mX12_factOf F q5 σ3) fun q6 => (if q6 = (-1 : Int32) then (Option.bind (mX12_wrongAt F (1 : Int32) ((σ3 0 7)) σ3) fun q7 => (if jbo q7.1 = true then some (q7.1, q7.2) else none)) else (Option.bind (mX12_notes F (1 : Int32) q6 σ3) fun q9 => (lt (js q9 0 7 ((q9 0 7) + (1 : Int32))) fun σ10 => some ((1 : Int32), σ10)))))) else (Option.bind (mX12_readsNumber F σ3) fun q11 => (if q11.1 = 0 then some ((0 : Int32), q11.2) else (Option.bind (mX12_notes F (0 : Int32) ((q11.2 0 10)) q11.2) fun q12 => some ((1 : Int32), q12))))))
def Xl (F bs m N : Nat) (τ : jS) : Option (Int32 × jS) := Option.bind (lp_X12_readsFactor_0 F (kf F) m τ) fun q => if q.1 = 0 then some ((0 : Int32), q.2) else Yl F bs N q.2
theorem Xl_sum (F : Nat) (τ : jS) {h : Nat} (e : τ 0 13 = nI h) : mX12_readsSum F τ = Xl F h F F τ := by
  unfold mX12_readsSum Xl Yl
  rw [e]
  rfl
/-- the outcome of a factor -/
def oF (F bs e : Nat) (B : Nat → Nat) (n i L h o b N : Nat) (σ τ : jS) (rx : Option jS) (E : Option (Int32 × jS)) : Prop :=
  ∃ σ', rx = some σ' ∧ ((∃ f, f ≠ 0 ∧ dW B n f e σ σ' ∧ ∃ τ', E = some (0, τ') ∧ τ' 0 9 = f ∧ frS τ τ') ∨
    (∃ i' L' N' τ', i < i' ∧ L ≤ L' ∧ L' + i ≤ L + i' ∧ N + i ≤ N' + i' ∧ E = Yl F bs N' τ' ∧ lwR e B n i' L' h o σ' τ' ∧ CODE e L L' (b, false) (b + 1, false) σ' τ' ∧ stW h τ τ' ∧ cdP e L σ σ' τ τ' ∧ frC e σ σ' ∧ frS τ τ'))
/-- the outcome of a sum: what still waits is written by what comes next -/
def oS (F bs e : Nat) (B : Nat → Nat) (n i L h o b N : Nat) (σ τ : jS) (rx : Option jS) (E : Option (Int32 × jS)) : Prop :=
  ∃ σ', rx = some σ' ∧ ((∃ f, f ≠ 0 ∧ dW B n f e σ σ' ∧ ∃ τ', E = some (0, τ') ∧ τ' 0 9 = f ∧ frS τ τ') ∨
    (∃ i' L' N' τ' τc h2, i < i' ∧ L ≤ L' ∧ L' + i ≤ L + i' ∧ N + i ≤ N' + i' ∧ E = Yl F bs N' τ' ∧ opAt B n i' = none ∧ tpM B n i' τ' ∧ τ' 0 13 = nI h2 ∧ h ≤ h2 ∧ h2 ≤ i' ∧ (∀ j, h ≤ j → j < h2 → ∃ w, w < 14 ∧ τ' 8 j = nI (1048576 * w)) ∧ frS τ τ' ∧ stW h τ τ' ∧
      mX12_closesSums F 1 τ' = some τc ∧ lwR e B n i' L' h o σ' τc ∧ CODE e L L' (b, false) (b + 1, false) σ' τc ∧ stW h τ τc ∧ cdP e L σ σ' τ τc ∧ frC e σ σ' ∧ frS τ τc))
/-- what stands below a sum is no part of one -/
def bel (h : Nat) (τ : jS) : Prop := h = 0 ∨ ∃ h' w a, h = h' + 1 ∧ w < 16 ∧ a < 100000 ∧ τ 8 h' = nI (1048576 * w + a) ∧ ¬ (2 ≤ w ∧ w ≤ 6)
theorem bel_noS {h : Nat} {τ ρ : jS} (hb : bel h τ) (e8 : stW h τ ρ) (e13 : ρ 0 13 = nI h) : noS h ρ := by
  rcases hb with rfl | ⟨h', w, a, rfl, hw, ha, et, hne⟩
  · exact Or.inl ⟨rfl, e13⟩
  · exact Or.inr ⟨h', w, a, rfl, e13, hw, ha, by rw [e8 h' (by omega)]; exact et, hne⟩
theorem bel_st {h : Nat} {τ ρ : jS} (hb : bel h τ) (e8 : stW h τ ρ) : bel h ρ := by
  rcases hb with rfl | ⟨h', w, a, rfl, hw, ha, et, hne⟩
  · exact Or.inl rfl
  · exact Or.inr ⟨h', w, a, rfl, hw, ha, by rw [e8 h' (by omega)]; exact et, hne⟩
def factOK (F bs e : Nat) (B : Nat → Nat) (n d o : Nat) : Prop := ∀ i L h b m N σ τ, lwR e B n i L h o σ τ → bs ≤ h → b ≤ 15 + 2 * o → 8 ≤ m + o → n + 2 ≤ N + i → oF F bs e B n i L h o b N σ τ (fcF F d e (nI o) σ) (Xl F bs m N τ)
def sumOK (F bs e : Nat) (B : Nat → Nat) (n D o : Nat) : Prop := ∀ i L h b m N σ τ, lwR e B n i L h o σ τ → bs ≤ h → b ≤ 13 + 2 * o → 8 ≤ m + o → n + 2 ≤ N + i → bel h τ → oS F bs e B n i L h o b N σ τ (rX4_readSum F D e (nI o) σ) (Xl F bs m N τ)
