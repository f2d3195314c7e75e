/-! ===== loops as iterations ===== -/
def itr {α : Type} (f : Nat → α → α) : Nat → Nat → α → α
  | _, 0, a => a
  | i, k + 1, a => itr f (i + 1) k (f i a)
theorem loop_f {α R : Type} (L : Nat → Int32 → α → Option R) (c : Nat) (f : Nat → α → α) (E : α → Option R)
    (hs : ∀ n i a, i < c → L (n + 1) (nI i) a = L n (nI (i + 1)) (f i a))
    (hx : ∀ n a, L (n + 1) (nI c) a = E a) : ∀ n i a, i ≤ c → c - i < n → L n (nI i) a = E (itr f i (c - i) a) := by
  intro n
  induction n with
  | zero => intro i a _ h; exact absurd h (Nat.not_lt_zero _)
  | succ n ih =>
    intro i a hi hn
    rcases Nat.lt_or_ge i c with h | h
    · rw [hs n i a h, ih (i + 1) (f i a) (by omega) (by omega), show c - i = (c - (i + 1)) + 1 by omega]
      rfl
    · have e : i = c := by omega
      subst e
      rw [hx, Nat.sub_self]
      rfl
theorem irm_n {a d : Nat} (ha : a < 2 ^ 31) (h0 : 0 < d) (hd : d < 2 ^ 31) : irm (nI a) (nI d) = nI (a % d) := pk_rem ha h0 hd
theorem lt24 {i : Nat} (h : i < 24) : nI i < (24 : Int32) := nI_lt (b := 24) h (by omega)
theorem nlt24 : ¬ nI 24 < (24 : Int32) := by decide
/-- what one does in an hour -/
def dg (τ : jS) (p h : Nat) : Int32 := τ 4 (24 * p + h)
theorem dg_n {σ τ : jS} (hT : routR σ τ) {p h : Nat} (hp : p < 16) (hh : h < 24) : ∃ d, d < 7 ∧ dg τ p h = nI d := (hT.1 (24 * p + h) (by omega)).2
theorem x8_doing {F : Nat} {σ τ : jS} (hT : routR σ τ) {p h : Nat} (hp : p < 16) (hh : h < 24) : mX8_doing F (nI p) (nI h) σ = some (dg τ p h) := by
  unfold mX8_doing jn_X8_doing_25
  rw [if_neg (nI_pos (by omega)), if_pos (lt16 hp), if_neg (nI_pos (by omega)), if_pos (lt24 hh), if_neg (show ¬ (1 : Int32) = 0 by decide)]
  have e : nI p * (24 : Int32) + nI h = nI (24 * p + h) := by
    show nI p * nI 24 + nI h = _
    rw [pk_mul, nI_add, Nat.mul_comm]
  simp only [lt, e, jin_nI (show 24 * p + h < 384 by omega) (show 384 < 2 ^ 31 by omega), if_true, nI_clamp (show 24 * p + h < 2 ^ 31 by omega), (hT.1 (24 * p + h) (by omega)).1]
  rfl
theorem m_doing {F : Nat} {τ : jS} {p h : Nat} (hp : p < 16) (hh : h < 24) : mX12_doing F (nI p) (nI h) τ = some (dg τ p h) := by
  unfold mX12_doing
  have e : (24 : Int32) * nI p + nI h = nI (24 * p + h) := by
    show nI 24 * nI p + nI h = _
    rw [pk_mul, nI_add]
  simp only [lt, e, jin_nI (show 24 * p + h < 384 by omega) (show 384 < 2 ^ 31 by omega), if_true, nI_clamp (show 24 * p + h < 2 ^ 31 by omega)]
  rfl
def alF (τ : jS) (p q later h : Nat) (a : Int32) : Int32 := if dg τ p h = dg τ q ((h + 24 - later) % 24) then a + 1 else a
def al (τ : jS) (p q later : Nat) : Int32 := itr (alF τ p q later) 0 24 0
theorem x8_same {F : Nat} (hF : 25 ≤ F) {σ τ : jS} (hT : routR σ τ) {p q later : Nat} (hp : p < 16) (hq : q < 16) (hl : later < 24) : mX8_sameHours F (nI p) (nI q) (nI later) σ = some (al τ p q later) := by
  unfold mX8_sameHours
  refine loop_f (fun n y a => lp_X8_sameHours_6 F σ n (nI p) (nI q) (nI later) a y) 24 (alF τ p q later) some ?_ ?_ F 0 0 (by omega) (by omega)
  · intro n h a hh
    show lp_X8_sameHours_6 F σ (n + 1) (nI p) (nI q) (nI later) a (nI h) = _
    have e : irm (nI h + (24 : Int32) - nI later) (24 : Int32) = nI ((h + 24 - later) % 24) := by
      rw [show nI h + (24 : Int32) = nI (h + 24) from nI_add h 24, pk_sub (by omega)]
      exact irm_n (d := 24) (by omega) (by omega) (by omega)
    rw [lp_X8_sameHours_6, if_pos (lt24 hh), x8_doing hT hp hh, e, x8_doing hT hq (Nat.mod_lt _ (by omega))]
    simp only [Option.bind_some, nI1]
    unfold alF
    split <;> rfl
  · intro n a
    show lp_X8_sameHours_6 F σ (n + 1) (nI p) (nI q) (nI later) a (nI 24) = _
    rw [lp_X8_sameHours_6, if_neg nlt24]
theorem m_alikeBy {F : Nat} (hF : 25 ≤ F) {τ : jS} {p q later : Nat} (hp : p < 16) (hq : q < 16) (hl : later < 24) : mX12_alikeBy F (nI p) (nI q) (nI later) τ = some (al τ p q later) := by
  unfold mX12_alikeBy
  refine loop_f (fun n y a => lp_X12_alikeBy_6 F τ n (nI p) (nI q) (nI later) a y) 24 (alF τ p q later) some ?_ ?_ F 0 0 (by omega) (by omega)
  · intro n h a hh
    show lp_X12_alikeBy_6 F τ (n + 1) (nI p) (nI q) (nI later) a (nI h) = _
    have e : irm (nI h - nI later + (24 : Int32)) (24 : Int32) = nI ((h + 24 - later) % 24) := by
      have e1 : nI h - nI later + (24 : Int32) = nI (h + 24 - later) := by
        have h1 : nI h + (24 : Int32) = nI (h + 24) := nI_add h 24
        rw [← pk_sub (show later ≤ h + 24 by omega), ← h1]
        rw [Int32.sub_eq_add_neg, Int32.sub_eq_add_neg, Int32.add_assoc, Int32.add_comm (-nI later), ← Int32.add_assoc]
      rw [e1]
      exact irm_n (d := 24) (by omega) (by omega) (by omega)
    rw [lp_X12_alikeBy_6, if_pos (lt24 hh), m_doing hp hh, e, m_doing hq (Nat.mod_lt _ (by omega))]
    simp only [Option.bind_some, nI1, lt]
    unfold alF
    split <;> rfl
  · intro n a
    show lp_X12_alikeBy_6 F τ (n + 1) (nI p) (nI q) (nI later) a (nI 24) = _
    rw [lp_X12_alikeBy_6, if_neg nlt24]
theorem s_alike (F : Nat) (hF : 25 ≤ F) : S_alike F Inv := by
  intro σ τ x1 x2 x3 hI
  obtain ⟨-, hW, hR, -, hT, -⟩ := id hI
  unfold mX11_alike mX12_alike
  rw [x0_told hR, m_told hW, x0_told hR, m_told hW, isW, isI]
  rcases tl_cases (τ 1) x1 with ⟨e, -⟩ | ⟨p, hp, rfl⟩
  · simp only [e, Option.bind_some, if_true]
    exact ⟨_, rfl, rfl, hI⟩
  rcases tl_cases (τ 1) x2 with ⟨e, -⟩ | ⟨q, hq, rfl⟩
  · simp only [e, Option.bind_some, if_true]
    exact same2 (by repeat' (first | rfl | split)) hI
  simp only [tl_in _ hp, tl_in _ hq, Option.bind_some]
  by_cases c1 : τ 1 p = 0
  · rw [if_pos c1, if_pos c1]; exact ⟨_, rfl, rfl, hI⟩
  rw [if_neg c1, if_neg c1]
  by_cases c2 : τ 1 q = 0
  · rw [if_pos c2, if_pos c2]; exact ⟨_, rfl, rfl, hI⟩
  rw [if_neg c2, if_neg c2]
  by_cases c3 : nI p = nI q
  · rw [if_pos c3, if_pos c3]; exact ⟨_, rfl, rfl, hI⟩
  rw [if_neg c3, if_neg c3]
  rcases inr_c x3 0 2 with e | ⟨e, -, -⟩
  · rw [e]; exact ⟨_, rfl, rfl, hI⟩
  rw [e, if_neg (show ¬ (1 : Int32) = 0 by decide), if_neg (show ¬ (1 : Int32) = 0 by decide), show (mX8_sameHours F (nI p) (nI q) 0 σ) = some (al τ p q 0) from x8_same hF hT hp hq (later := 0) (by omega), show (mX12_alikeBy F (nI p) (nI q) 0 τ) = some (al τ p q 0) from m_alikeBy hF hp hq (later := 0) (by omega)]
  simp only [Option.bind_some]
  by_cases c4 : x3 = 0
  · rw [if_pos c4, if_pos c4]; exact ⟨_, rfl, rfl, hI⟩
  rw [if_neg c4, if_neg c4]
  refine loop_q (fun n y (a : Int32 × Int32) => lp_X11_alike_63 F σ n (nI p) (nI q) x3 a.1 a.2 y) (fun n y (b : Int32) => lp_X12_alike_50 F τ (fun x1_7 x2_7 x3_7 x4_7 => (if x3_7 = (1 : Int32) then some x4_7 else (Option.bind (mX12_alikeBy F x1_7 x2_7 x4_7 τ) fun q8 => some q8))) n (nI p) (nI q) x3 b y) 24 (fun i a b => ∃ k, k < 24 ∧ b = nI k ∧ a = (al τ p q k, nI k)) (fun r s => ∃ z, r = some z ∧ s = some z ∧ Inv σ τ) ?_ ?_ F 1 (al τ p q 0, 0) 0 (by omega) (by omega) ⟨0, by omega, rfl, rfl⟩
  · intro n i a b hi hP
    obtain ⟨k, hk, rfl, rfl⟩ := hP
    right
    show ∃ (a' : Int32 × Int32) (b' : Int32), _ ∧ lp_X11_alike_63 F σ (n + 1) (nI p) (nI q) x3 (al τ p q k) (nI k) (nI i) = lp_X11_alike_63 F σ n (nI p) (nI q) x3 a'.1 a'.2 (nI (i + 1)) ∧ lp_X12_alike_50 F τ _ (n + 1) (nI p) (nI q) x3 (nI k) (nI i) = lp_X12_alike_50 F τ _ n (nI p) (nI q) x3 b' (nI (i + 1))
    rw [lp_X11_alike_63, lp_X12_alike_50, if_pos (lt24 hi), if_pos (lt24 hi), x8_same hF hT hp hq hi, m_alikeBy hF hp hq hi, m_alikeBy hF hp hq hk]
    simp only [Option.bind_some, nI1]
    by_cases c : al τ p q k < al τ p q i
    · rw [if_pos c, if_pos c]
      exact ⟨(al τ p q i, nI i), nI i, ⟨i, hi, rfl, rfl⟩, rfl, rfl⟩
    · rw [if_neg c, if_neg c]
      exact ⟨(al τ p q k, nI k), nI k, ⟨k, hk, rfl, rfl⟩, rfl, rfl⟩
  · intro n a b hP
    obtain ⟨k, hk, rfl, rfl⟩ := hP
    show ∃ z, lp_X11_alike_63 F σ (n + 1) (nI p) (nI q) x3 (al τ p q k) (nI k) (nI 24) = some z ∧ lp_X12_alike_50 F τ _ (n + 1) (nI p) (nI q) x3 (nI k) (nI 24) = some z ∧ Inv σ τ
    rw [lp_X11_alike_63, lp_X12_alike_50, if_neg nlt24, if_neg nlt24, m_alikeBy hF hp hq hk]
    exact same2 (by repeat' (first | rfl | split)) hI
