theorem x_more (F : Nat) {B : Nat → Nat} {n i o : Nat} {σ : jS} (h : tpX B n i 0 σ) (ho : o ≤ 2) : mX8_isMore F (nI o) σ = some (if (o = 0 ∧ ¬ i < n) ∨ (o ≠ 0 ∧ i < n ∧ B i = 41) then 0 else 1) := by
  unfold mX8_isMore
  by_cases c : o = 0
  · subst c
    rw [if_pos (show nI 0 = 0 from rfl)]
    by_cases g : i < n
    · rw [x_on1 F h g, if_neg (by omega)]
      rfl
    · rw [x_on0 F h g, if_pos (by omega)]
      rfl
  · rw [if_neg (nI_ne0 (by omega) (by omega)), h.2.2.2.2.1, if_pos rfl, h.2.2.2.1]
    by_cases g : i < n ∧ B i = 41
    · rw [if_pos (show sg B n i = (41 : Int32) from (sg_eq h.1 n i (c := 41) (by omega)).mpr g), if_pos (Or.inr ⟨c, g⟩)]
    · rw [if_neg (show ¬ sg B n i = (41 : Int32) from fun e => g ((sg_eq h.1 n i (c := 41) (by omega)).mp e)), if_neg (fun k => k.elim (fun k => c k.1) (fun k => g k.2))]
theorem x_moreD (F : Nat) {B : Nat → Nat} {n i : Nat} {f : Int32} {σ : jS} (h : tpX B n i f σ) (hf : f ≠ 0) (x : Int32) : mX8_isMore F x σ = some 0 := by
  unfold mX8_isMore
  rw [x_onD F h hf, h.2.2.2.2.1, if_neg hf]
  simp
  intro _
  rfl
theorem Z2_out (F : Nat) (p : Int32) {B : Nat → Nat} {n i L o : Nat} {σ τ : jS} (h : rtR B n i L o σ τ) (ho : o ≤ 2) (hc : o = 0 ∨ ¬ (i < n ∧ B i = 41)) (M m : Nat) : Z2 F p M (m + 1) τ = Z0 F p M 1 τ := by
  unfold Z2
  rw [lp_X12_readsHour_196, m_here F h.2.1]
  simp only [Option.bind_some]
  by_cases c : i < n ∧ B i = 41
  · have ho0 : o = 0 := hc.resolve_right (fun k => k c)
    subst ho0
    rw [if_pos (show sg B n i = (41 : Int32) from (sg_eq h.1.1 n i (c := 41) (by omega)).mpr c), h.2.2.2, if_neg (show ¬ (0 : Int32) < nI 0 by decide)]
    rfl
  · rw [if_neg (show ¬ sg B n i = (41 : Int32) from fun e => c ((sg_eq h.1.1 n i (c := 41) (by omega)).mp e))]
    rfl
theorem hours_loop (F : Nat) (hF : 100 ≤ F) (p : Int32) {B : Nat → Nat} {n o d : Nat} (hn : n ≤ 60) (ho : o ≤ 2) (hP : pieceOK F p B n o d) {i0 L0 M0 : Nat} {σ0 τ0 : jS} (hM0 : n + 2 ≤ M0 + i0) :
    ∀ (k c i L M m N : Nat) (σ τ : jS), n - i < k → k < N → c + o ≤ i → i0 < i → L0 < L → M0 + i0 + 1 ≤ M + i → F ≤ m + (2 - o) → rtR B n i L o σ τ → frH σ0 σ → frR τ0 τ → stk o τ0 τ →
      oR F p B n i0 L0 o M0 (hGood B n o) σ0 τ0 (lp_X8_readHours_7 F (pcF F d) N (nI o) (nI c) σ) (Z2 F p M m τ) := by
  intro k
  induction k with
  | zero => intro c i L M m N σ τ h; omega
  | succ k ih =>
    intro c i L M m N σ τ hk hN hc hi hL hM hm hR fX fM fS
    obtain ⟨N, rfl⟩ : ∃ N', N = N' + 1 := ⟨N - 1, by omega⟩
    have hin := hR.1.2.2.2.2.2.2.1
    have out : hGood B n o i → oR F p B n i0 L0 o M0 (hGood B n o) σ0 τ0 (some σ) (Z2 F p M m τ) := fun hg => ⟨σ, rfl, fX, Or.inr ⟨i, L, M, m, τ, hi, hL, hg, hM, hm, rfl, hR, fM, fS⟩⟩
    rw [lp_X8_readHours_7, x_more F hR.1 ho]
    by_cases g : (o = 0 ∧ ¬ i < n) ∨ (o ≠ 0 ∧ i < n ∧ B i = 41)
    · rw [if_pos g]
      simp only [Option.bind_some, if_true, ite_self]
      exact out (by
        rcases g with ⟨g1, g2⟩ | ⟨g1, g2⟩
        · exact Or.inl ⟨g1, by omega⟩
        · exact Or.inr ⟨g1, g2⟩)
    · rw [if_neg g, if_pos (show nI c < (60 : Int32) from nI_lt (b := 60) (by omega) (by omega))]
      simp only [Option.bind_some, if_neg (show ¬ (1 : Int32) = 0 by decide)]
      obtain ⟨m, rfl⟩ : ∃ k, m = k + 1 := ⟨m - 1, by omega⟩
      obtain ⟨M, rfl⟩ : ∃ k, M = k + 1 := ⟨M - 1, by omega⟩
      have eZ : Z2 F p (M + 1) (m + 1) τ = Zw F p M F τ := by
        rw [Z2_out F p hR ho (by omega)]
        refine Z0_hour F p M τ ?_
        rw [hR.2.1.1, hR.2.1.2.1, hR.2.2.2]
        by_cases q : o = 0
        · exact Or.inl (nI_lt (by omega) (by omega))
        · exact Or.inr (nI_lt (a := 0) (by omega) (by omega))
      rw [eZ]
      obtain ⟨σ1, a1, a2, a3⟩ := hP i L M F σ τ hR (by omega) (by omega) (by omega)
      rw [a1]
      simp only [Option.bind_some, nI1]
      rcases a3 with ⟨i', f, τ', q1, q2, q3, q4, q5⟩ | ⟨i', L', M', m', τ', q1, q2, q3, q4, q5, q6, q7, q8, q9⟩
      · obtain ⟨N, rfl⟩ : ∃ N', N = N' + 1 := ⟨N - 1, by omega⟩
        rw [lp_X8_readHours_7, x_moreD F q2 q1]
        simp only [Option.bind_some, if_true, ite_self]
        exact ⟨σ1, rfl, frH_tr fX a2, Or.inl ⟨i', f, τ', q1, q2, q3, q4, frR_tr fM q5⟩⟩
      · have hin' := q7.1.2.2.2.2.2.2.1
        rw [q6]
        exact ih (c + 1) i' L' M' m' N σ1 τ' (by omega) (by omega) (by omega) (by omega) (by omega) (by omega) q5 q7 (frH_tr fX a2) (frR_tr fM q8) (stk_tr fS q9)
theorem hours_of (F : Nat) (hF : 100 ≤ F) (p : Int32) {B : Nat → Nat} {n o d : Nat} (hn : n ≤ 60) (ho : o ≤ 2) (hP : pieceOK F p B n o d) : hoursOK F p B n o (d + 1) := by
  intro i L M m σ τ h hoi hM hm
  have hin := h.1.2.2.2.2.2.2.1
  show oR F p B n i L o M (hGood B n o) σ τ (Option.bind (pcF F d (nI o) σ) fun q1 => lp_X8_readHours_7 F (pcF F d) F (nI o) (1 : Int32) q1) (Zw F p M m τ)
  obtain ⟨σ1, a1, a2, a3⟩ := hP i L M m σ τ h hoi hM hm
  rw [a1]
  simp only [Option.bind_some]
  rcases a3 with ⟨i', f, τ', q1, q2, q3, q4, q5⟩ | ⟨i', L', M', m', τ', q1, q2, q3, q4, q5, q6, q7, q8, q9⟩
  · obtain ⟨N, hN⟩ : ∃ N', F = N' + 1 := ⟨F - 1, by omega⟩
    have : lp_X8_readHours_7 F (pcF F d) (N + 1) (nI o) (1 : Int32) σ1 = some σ1 := by
      rw [lp_X8_readHours_7, x_moreD F q2 q1]
      simp only [Option.bind_some, if_true, ite_self]
    rw [← hN] at this
    rw [this]
    exact ⟨σ1, rfl, a2, Or.inl ⟨i', f, τ', q1, q2, q3, q4, q5⟩⟩
  · rw [q6]
    exact hours_loop F hF p hn ho hP hM 61 1 i' L' M' m' F σ1 τ' (by omega) (by omega) (by omega) (by omega) (by omega) (by omega) q5 q7 a2 q8 q9
theorem hours_0 (F : Nat) (hF : 100 ≤ F) (p : Int32) (B : Nat → Nat) {n : Nat} (hn : n ≤ 60) : hoursOK F p B n 0 4 := by
  have p2 : pieceOK F p B n 2 1 := piece_of F hF p (by omega) (Or.inl rfl)
  have h2 : hoursOK F p B n 2 2 := hours_of F hF p hn (by omega) p2
  have p1 : pieceOK F p B n 1 2 := piece_of F hF p (by omega) (Or.inr h2)
  have h1 : hoursOK F p B n 1 3 := hours_of F hF p hn (by omega) p1
  have p0 : pieceOK F p B n 0 3 := piece_of F hF p (by omega) (Or.inr h1)
  exact hours_of F hF p hn (by omega) p0
/-! ### the day is kept -/
theorem x_day (F : Nat) (hF : 30 ≤ F) {σ : jS} {p L : Nat} (hp : p < 16) (h33 : σ 33 4 = nI L) (hL : L ≤ 24) :
    ∃ σ', lp_X8_read_40 F F (nI p) 0 σ = some (nI L, σ') ∧ (∀ d, d ≠ 34 → d ≠ 35 → σ' d = σ d) ∧ (∀ j, σ' 34 j = if 24 * p ≤ j ∧ j < 24 * p + 24 then (if j - 24 * p < L then σ 36 (j - 24 * p) else 0) else σ 34 j) ∧ ∀ j, σ' 35 j = if j = p then nI L else σ 35 j := by
  refine loop_p (fun N x (ρ : jS) => lp_X8_read_40 F N (nI p) x ρ) 24 (fun x ρ => (∀ d, d ≠ 34 → ρ d = σ d) ∧ ∀ j, ρ 34 j = if 24 * p ≤ j ∧ j < 24 * p + x then (if j - 24 * p < L then σ 36 (j - 24 * p) else 0) else σ 34 j) (fun r => ∃ σ', r = some (nI L, σ') ∧ (∀ d, d ≠ 34 → d ≠ 35 → σ' d = σ d) ∧ (∀ j, σ' 34 j = if 24 * p ≤ j ∧ j < 24 * p + 24 then (if j - 24 * p < L then σ 36 (j - 24 * p) else 0) else σ 34 j) ∧ ∀ j, σ' 35 j = if j = p then nI L else σ 35 j) ?_ ?_ F 0 σ (by omega) (by omega) ⟨fun _ _ => rfl, fun j => by rw [if_neg (by omega)]⟩
  · intro N x ρ hx ⟨g1, g2⟩
    right
    show ∃ a', _ ∧ lp_X8_read_40 F (N + 1) (nI p) (nI x) ρ = lp_X8_read_40 F N (nI p) (nI (x + 1)) a'
    have e1 : nI p * (24 : Int32) + nI x = nI (p * 24 + x) := by rw [show (24 : Int32) = nI 24 from rfl, pk_mul, nI_add]
    rw [lp_X8_read_40, if_pos (show nI x < (24 : Int32) from nI_lt (b := 24) hx (by omega)), show ρ 33 4 = nI L by rw [g1 33 (by omega)]; exact h33, e1, jin_nI (show p * 24 + x < 384 by omega) (by omega), jin_nI (show x < 24 by omega) (by omega), if_pos rfl, if_pos rfl, if_pos rfl, nI_clamp (by omega), nI_clamp (by omega), nI1]
    simp only [ltE]
    by_cases c : x < L
    · rw [if_pos (nI_lt c (by omega))]
      refine ⟨_, ⟨fun d hd => ?_, fun j => ?_⟩, rfl⟩
      · rw [js_c _ _ _ hd]; exact g1 d hd
      · by_cases e : j = p * 24 + x
        · rw [e, js_at, g1 36 (by omega), if_pos (by omega), if_pos (by omega)]
          congr 1
          omega
        · rw [js_k _ _ e, g2 j]
          by_cases q : 24 * p ≤ j ∧ j < 24 * p + x
          · rw [if_pos q, if_pos (show 24 * p ≤ j ∧ j < 24 * p + (x + 1) by omega)]
          · rw [if_neg q, if_neg (show ¬ (24 * p ≤ j ∧ j < 24 * p + (x + 1)) by omega)]
    · rw [if_neg (nI_nlt (by omega) (by omega))]
      refine ⟨_, ⟨fun d hd => ?_, fun j => ?_⟩, rfl⟩
      · rw [js_c _ _ _ hd]; exact g1 d hd
      · by_cases e : j = p * 24 + x
        · rw [e, js_at, if_pos (by omega), if_neg (by omega)]
        · rw [js_k _ _ e, g2 j]
          by_cases q : 24 * p ≤ j ∧ j < 24 * p + x
          · rw [if_pos q, if_pos (show 24 * p ≤ j ∧ j < 24 * p + (x + 1) by omega)]
          · rw [if_neg q, if_neg (show ¬ (24 * p ≤ j ∧ j < 24 * p + (x + 1)) by omega)]
  · intro N ρ ⟨g1, g2⟩
    show ∃ σ', lp_X8_read_40 F (N + 1) (nI p) (nI 24) ρ = some (nI L, σ') ∧ _
    have e33 : ρ 33 4 = nI L := by rw [g1 33 (by omega)]; exact h33
    rw [lp_X8_read_40, if_neg (show ¬ nI 24 < (24 : Int32) by decide), jin_nI (show p < 16 by omega) (by omega), if_pos rfl, nI_clamp (by omega), e33]
    simp only [ltE, js_c _ _ _ (show (33 : Nat) ≠ 35 by omega), e33]
    refine ⟨_, rfl, fun d h1 h2 => ?_, fun j => ?_, fun j => ?_⟩
    · rw [js_c _ _ _ h2]; exact g1 d h1
    · rw [js_c _ _ _ (by omega)]; exact g2 j
    · by_cases e : j = p
      · rw [e, js_at, if_pos rfl]
      · rw [js_k _ _ e, if_neg e, g1 35 (by omega)]
theorem m_day (F : Nat) (hF : 30 ≤ F) {τ : jS} {p L : Nat} (hp : p < 16) (h33 : τ 0 33 = nI L) (hL : L ≤ 24) :
    ∃ τ', lp_X12_routine_107 F F (nI p) 0 τ = some (nI L, τ') ∧ (∀ d, d ≠ 4 → τ' d = τ d) ∧ ∀ j, τ' 4 j = if 24 * p ≤ j ∧ j < 24 * p + 24 then (if j - 24 * p < L then τ 20 (j - 24 * p) else 0) else τ 4 j := by
  refine loop_p (fun N x (ρ : jS) => lp_X12_routine_107 F N (nI p) x ρ) 24 (fun x ρ => (∀ d, d ≠ 4 → ρ d = τ d) ∧ ∀ j, ρ 4 j = if 24 * p ≤ j ∧ j < 24 * p + x then (if j - 24 * p < L then τ 20 (j - 24 * p) else 0) else τ 4 j) (fun r => ∃ τ', r = some (nI L, τ') ∧ (∀ d, d ≠ 4 → τ' d = τ d) ∧ ∀ j, τ' 4 j = if 24 * p ≤ j ∧ j < 24 * p + 24 then (if j - 24 * p < L then τ 20 (j - 24 * p) else 0) else τ 4 j) ?_ ?_ F 0 τ (by omega) (by omega) ⟨fun _ _ => rfl, fun j => by rw [if_neg (by omega)]⟩
  · intro N x ρ hx ⟨g1, g2⟩
    right
    show ∃ a', _ ∧ lp_X12_routine_107 F (N + 1) (nI p) (nI x) ρ = lp_X12_routine_107 F N (nI p) (nI (x + 1)) a'
    have e1 : (24 : Int32) * nI p + nI x = nI (24 * p + x) := by rw [show (24 : Int32) = nI 24 from rfl, pk_mul, nI_add]
    rw [lp_X12_routine_107, if_pos (show nI x < (24 : Int32) from nI_lt (b := 24) hx (by omega)), show ρ 0 33 = nI L by rw [g1 0 (by omega)]; exact h33, e1, jin_nI (show 24 * p + x < 384 by omega) (by omega), jin_nI (show x < 24 by omega) (by omega), if_pos rfl, if_pos rfl, if_pos rfl, nI_clamp (by omega), nI_clamp (by omega), nI1]
    simp only [ltE]
    by_cases c : x < L
    · rw [if_pos (nI_lt c (by omega))]
      refine ⟨_, ⟨fun d hd => ?_, fun j => ?_⟩, rfl⟩
      · rw [js_c _ _ _ hd]; exact g1 d hd
      · by_cases e : j = 24 * p + x
        · rw [e, js_at, g1 20 (by omega), if_pos (by omega), if_pos (by omega)]
          congr 1
          omega
        · rw [js_k _ _ e, g2 j]
          by_cases q : 24 * p ≤ j ∧ j < 24 * p + x
          · rw [if_pos q, if_pos (show 24 * p ≤ j ∧ j < 24 * p + (x + 1) by omega)]
          · rw [if_neg q, if_neg (show ¬ (24 * p ≤ j ∧ j < 24 * p + (x + 1)) by omega)]
    · rw [if_neg (nI_nlt (by omega) (by omega))]
      refine ⟨_, ⟨fun d hd => ?_, fun j => ?_⟩, rfl⟩
      · rw [js_c _ _ _ hd]; exact g1 d hd
      · by_cases e : j = 24 * p + x
        · rw [e, js_at, if_pos (by omega), if_neg (by omega)]
        · rw [js_k _ _ e, g2 j]
          by_cases q : 24 * p ≤ j ∧ j < 24 * p + x
          · rw [if_pos q, if_pos (show 24 * p ≤ j ∧ j < 24 * p + (x + 1) by omega)]
          · rw [if_neg q, if_neg (show ¬ (24 * p ≤ j ∧ j < 24 * p + (x + 1)) by omega)]
  · intro N ρ ⟨g1, g2⟩
    show ∃ τ', lp_X12_routine_107 F (N + 1) (nI p) (nI 24) ρ = some (nI L, τ') ∧ _
    have e33 : ρ 0 33 = nI L := by rw [g1 0 (by omega)]; exact h33
    rw [lp_X12_routine_107, if_neg (show ¬ nI 24 < (24 : Int32) by decide), e33]
    exact ⟨ρ, rfl, g1, g2⟩
