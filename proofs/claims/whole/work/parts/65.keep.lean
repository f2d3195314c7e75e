/-! ===== rows copied ===== -/
theorem jcp_c (σ : jS) (a b n : Nat) {d : Nat} (h : d ≠ b) : jcp σ a b n d = σ d := by
  funext k
  simp [jcp, va_up, h]
theorem jcp_b (σ : jS) (a b n : Nat) {k : Nat} (h : k < n) : jcp σ a b n b k = σ a k := by
  simp [jcp, va_up, va_cpy, h]
theorem jcp_o (σ : jS) (a b n : Nat) {k : Nat} (h : n ≤ k) : jcp σ a b n b k = σ b k := by
  simp [jcp, va_up, va_cpy, Nat.not_lt.mpr h]
/-- the class's copy of a city -/
theorem x0_copy (F : Nat) {c e : Nat} (σ : jS) (h : c + 10 ≤ e ∨ e + 10 ≤ c) : ∃ σ', mX0_copy F c e σ = some σ' ∧ onlyX c σ σ' ∧ ∀ t, cityR e σ t → cityR c σ' t := by
  unfold mX0_copy mX6_copy
  simp only [lt, Option.bind_some]
  refine ⟨_, rfl, ?_, ?_⟩
  · intro d hd
    rw [js_c _ _ _ (by omega), js_c _ _ _ (by omega), js_c _ _ _ (by omega), js_c _ _ _ (by omega), js_c _ _ _ (by omega), js_c _ _ _ (by omega), jcp_c _ _ _ _ (by omega), jcp_c _ _ _ _ (by omega), jcp_c _ _ _ _ (by omega), jcp_c _ _ _ _ (by omega), jcp_c _ _ _ _ (by omega), jcp_c _ _ _ _ (by omega), jcp_c _ _ _ _ (by omega), jcp_c _ _ _ _ (by omega)]
  · intro t hR
    generalize hσ : (js (jcp (jcp (jcp (jcp (jcp (jcp (jcp (jcp σ (e + 1) (c + 1) 16) (e + 2) (c + 2) 16) (e + 3 + 1) (c + 3 + 1) 24) (e + 3 + 2) (c + 3 + 2) 24) (e + 3 + 3) (c + 3 + 3) 24) (e + 3 + 4) (c + 3 + 4) 24) (e + 3 + 5) (c + 3 + 5) 24) (e + 3 + 6) (c + 3 + 6) 24) (c + 3) 6 (jcp (jcp (jcp (jcp (jcp (jcp (jcp (jcp σ (e + 1) (c + 1) 16) (e + 2) (c + 2) 16) (e + 3 + 1) (c + 3 + 1) 24) (e + 3 + 2) (c + 3 + 2) 24) (e + 3 + 3) (c + 3 + 3) 24) (e + 3 + 4) (c + 3 + 4) 24) (e + 3 + 5) (c + 3 + 5) 24) (e + 3 + 6) (c + 3 + 6) 24 (e + 3) 6)) = ρ
    have he : ρ e = σ e := by
      rw [← hσ, js_c _ _ _ (by omega), jcp_c _ _ _ _ (by omega), jcp_c _ _ _ _ (by omega), jcp_c _ _ _ _ (by omega), jcp_c _ _ _ _ (by omega), jcp_c _ _ _ _ (by omega), jcp_c _ _ _ _ (by omega), jcp_c _ _ _ _ (by omega), jcp_c _ _ _ _ (by omega)]
    have hc : ρ c = σ c := by
      rw [← hσ, js_c _ _ _ (by omega), jcp_c _ _ _ _ (by omega), jcp_c _ _ _ _ (by omega), jcp_c _ _ _ _ (by omega), jcp_c _ _ _ _ (by omega), jcp_c _ _ _ _ (by omega), jcp_c _ _ _ _ (by omega), jcp_c _ _ _ _ (by omega), jcp_c _ _ _ _ (by omega)]
    have r1 : ∀ k, k < 16 → ρ (c + 1) k = σ (e + 1) k := fun k hk => by
      rw [← hσ, js_c _ _ _ (by omega), jcp_c _ _ _ _ (by omega), jcp_c _ _ _ _ (by omega), jcp_c _ _ _ _ (by omega), jcp_c _ _ _ _ (by omega), jcp_c _ _ _ _ (by omega), jcp_c _ _ _ _ (by omega), jcp_c _ _ _ _ (by omega), jcp_b _ _ _ _ hk]
    have r2 : ∀ k, k < 16 → ρ (c + 2) k = σ (e + 2) k := fun k hk => by
      rw [← hσ, js_c _ _ _ (by omega), jcp_c _ _ _ _ (by omega), jcp_c _ _ _ _ (by omega), jcp_c _ _ _ _ (by omega), jcp_c _ _ _ _ (by omega), jcp_c _ _ _ _ (by omega), jcp_c _ _ _ _ (by omega), jcp_b _ _ _ _ hk, jcp_c _ _ _ _ (by omega)]
    have r4 : ∀ k, k < 24 → ρ (c + 4) k = σ (e + 4) k := fun k hk => by
      rw [← hσ, js_c _ _ _ (by omega), jcp_c _ _ _ _ (by omega), jcp_c _ _ _ _ (by omega), jcp_c _ _ _ _ (by omega), jcp_c _ _ _ _ (by omega), jcp_c _ _ _ _ (by omega), show c + 4 = c + 3 + 1 from rfl, jcp_b _ _ _ _ hk, jcp_c _ _ _ _ (by omega), jcp_c _ _ _ _ (by omega)]
    have r5 : ∀ k, k < 24 → ρ (c + 5) k = σ (e + 5) k := fun k hk => by
      rw [← hσ, js_c _ _ _ (by omega), jcp_c _ _ _ _ (by omega), jcp_c _ _ _ _ (by omega), jcp_c _ _ _ _ (by omega), jcp_c _ _ _ _ (by omega), show c + 5 = c + 3 + 2 from rfl, jcp_b _ _ _ _ hk, jcp_c _ _ _ _ (by omega), jcp_c _ _ _ _ (by omega), jcp_c _ _ _ _ (by omega)]
    have r6 : ∀ k, k < 24 → ρ (c + 6) k = σ (e + 6) k := fun k hk => by
      rw [← hσ, js_c _ _ _ (by omega), jcp_c _ _ _ _ (by omega), jcp_c _ _ _ _ (by omega), jcp_c _ _ _ _ (by omega), show c + 6 = c + 3 + 3 from rfl, jcp_b _ _ _ _ hk, jcp_c _ _ _ _ (by omega), jcp_c _ _ _ _ (by omega), jcp_c _ _ _ _ (by omega), jcp_c _ _ _ _ (by omega)]
    have r7 : ∀ k, k < 24 → ρ (c + 7) k = σ (e + 7) k := fun k hk => by
      rw [← hσ, js_c _ _ _ (by omega), jcp_c _ _ _ _ (by omega), jcp_c _ _ _ _ (by omega), show c + 7 = c + 3 + 4 from rfl, jcp_b _ _ _ _ hk, jcp_c _ _ _ _ (by omega), jcp_c _ _ _ _ (by omega), jcp_c _ _ _ _ (by omega), jcp_c _ _ _ _ (by omega), jcp_c _ _ _ _ (by omega)]
    have r8 : ∀ k, k < 24 → ρ (c + 8) k = σ (e + 8) k := fun k hk => by
      rw [← hσ, js_c _ _ _ (by omega), jcp_c _ _ _ _ (by omega), show c + 8 = c + 3 + 5 from rfl, jcp_b _ _ _ _ hk, jcp_c _ _ _ _ (by omega), jcp_c _ _ _ _ (by omega), jcp_c _ _ _ _ (by omega), jcp_c _ _ _ _ (by omega), jcp_c _ _ _ _ (by omega), jcp_c _ _ _ _ (by omega)]
    have r9 : ∀ k, k < 24 → ρ (c + 9) k = σ (e + 9) k := fun k hk => by
      rw [← hσ, js_c _ _ _ (by omega), show c + 9 = c + 3 + 6 from rfl, jcp_b _ _ _ _ hk, jcp_c _ _ _ _ (by omega), jcp_c _ _ _ _ (by omega), jcp_c _ _ _ _ (by omega), jcp_c _ _ _ _ (by omega), jcp_c _ _ _ _ (by omega), jcp_c _ _ _ _ (by omega), jcp_c _ _ _ _ (by omega)]
    have r3 : ρ (c + 3) 6 = σ (e + 3) 6 := by
      rw [← hσ, js_at, jcp_c _ _ _ _ (by omega), jcp_c _ _ _ _ (by omega), jcp_c _ _ _ _ (by omega), jcp_c _ _ _ _ (by omega), jcp_c _ _ _ _ (by omega), jcp_c _ _ _ _ (by omega), jcp_c _ _ _ _ (by omega), jcp_c _ _ _ _ (by omega)]
    simp only [js_c _ _ _ (show e ≠ c by omega), he]
    obtain ⟨a1, a2, a3⟩ := hR
    refine ⟨?_, ?_, fun i hi => ?_⟩
    · rw [js_k _ _ (by omega), js_k _ _ (by omega), js_k _ _ (by omega), js_k _ _ (by omega), js_at]; exact a1
    · rw [js_k _ _ (by omega), js_k _ _ (by omega), js_k _ _ (by omega), js_at]; exact a2
    · have a3 := a3 i hi
      rw [← a3]
      unfold validI at hi
      unfold cellX slotX
      by_cases h1 : i < 32
      · simp only [h1, if_true]
        rw [js_c _ _ _ (by omega), js_c _ _ _ (by omega), js_c _ _ _ (by omega), js_c _ _ _ (by omega), js_c _ _ _ (by omega), r1 _ (by omega)]
      · by_cases h2 : i < 48
        · simp only [h1, h2, if_true, if_false]
          rw [js_c _ _ _ (by omega), js_c _ _ _ (by omega), js_c _ _ _ (by omega), js_c _ _ _ (by omega), js_c _ _ _ (by omega), r2 _ (by omega)]
        · by_cases h3 : i < 208
          · simp only [h1, h2, h3, if_true, if_false]
            rw [js_c _ _ _ (by omega), js_c _ _ _ (by omega), js_c _ _ _ (by omega), js_c _ _ _ (by omega), js_c _ _ _ (by omega)]
            have hq : (i - 64) / 24 < 6 := by omega
            have hm : (i - 64) % 24 < 24 := Nat.mod_lt _ (by omega)
            match (i - 64) / 24, hq with
            | 0, _ => exact r4 _ hm
            | 1, _ => exact r5 _ hm
            | 2, _ => exact r6 _ hm
            | 3, _ => exact r7 _ hm
            | 4, _ => exact r8 _ hm
            | 5, _ => exact r9 _ hm
          · by_cases h4 : i = 208
            · subst h4
              show js (js (js (js (js ρ c 3 _) c 4 _) c 5 _) c 6 _) c 7 _ (c + 3) 6 = σ (e + 3) 6
              rw [js_c _ _ _ (by omega), js_c _ _ _ (by omega), js_c _ _ _ (by omega), js_c _ _ _ (by omega), js_c _ _ _ (by omega), r3]
            · rcases (show i = 209 ∨ i = 210 ∨ i = 211 by omega) with rfl | rfl | rfl
              · show js (js (js (js (js ρ c 3 _) c 4 _) c 5 _) c 6 _) c 7 _ c 5 = σ e 5
                rw [js_k _ _ (by omega), js_k _ _ (by omega), js_at]
              · show js (js (js (js (js ρ c 3 _) c 4 _) c 5 _) c 6 _) c 7 _ c 6 = σ e 6
                rw [js_k _ _ (by omega), js_at]
              · show js (js (js (js (js ρ c 3 _) c 4 _) c 5 _) c 6 _) c 7 _ c 7 = σ e 7
                rw [js_at]
/-- the reference's copy of a row -/
theorem m_copies {F : Nat} (hF : 213 ≤ F) {a b : Nat} (hab : a ≠ b) (τ : jS) : ∃ τ', mX12_copies F a b τ = some τ' ∧ (∀ d, d ≠ b → τ' d = τ d) ∧ ∀ i, i < 212 → τ' b i = τ a i := by
  unfold mX12_copies
  have key := loop_p (fun n x (ρ : jS) => lp_X12_copies_2 F a b n x ρ) 212 (fun i ρ => (∀ d, d ≠ b → ρ d = τ d) ∧ ∀ k, k < i → ρ b k = τ a k) (fun r => ∃ τ', r = some τ' ∧ (∀ d, d ≠ b → τ' d = τ d) ∧ ∀ i, i < 212 → τ' b i = τ a i) ?_ ?_ F 0 τ (by omega) (by omega) ⟨fun _ _ => rfl, fun k hk => absurd hk (by omega)⟩
  · exact key
  · intro n i ρ hi hP
    right
    show ∃ a', _ ∧ lp_X12_copies_2 F a b (n + 1) (nI i) ρ = lp_X12_copies_2 F a b n (nI (i + 1)) a'
    rw [lp_X12_copies_2, if_pos (show nI i < (212 : Int32) from nI_lt (b := 212) hi (by omega))]
    simp only [jin_nI hi (show 212 < 2 ^ 31 by omega), if_true, lt, nI_clamp (show i < 2 ^ 31 by omega), nI1]
    refine ⟨_, ⟨fun d hd => ?_, fun k hk => ?_⟩, rfl⟩
    · rw [js_c _ _ _ hd]; exact hP.1 d hd
    · by_cases e : k = i
      · subst e
        rw [js_at, hP.1 a hab]
      · rw [js_k _ _ e]
        exact hP.2 k (by omega)
  · intro n ρ hP
    show ∃ τ', lp_X12_copies_2 F a b (n + 1) (nI 212) ρ = some τ' ∧ _
    rw [lp_X12_copies_2, if_neg (show ¬ nI 212 < (212 : Int32) by decide)]
    exact ⟨ρ, rfl, hP.1, hP.2⟩
theorem cityW_congr {s t : Nat → Int32} (h : cityW s) (e : ∀ i, i < 212 → t i = s i) : cityW t :=
  ⟨fun i hi => by rw [e i hi]; exact h.1 i hi, fun p hp h1 => by rw [e (48 + p) (by omega)] at h1; rw [e p (by omega), e (16 + p) (by omega)]; exact h.2 p hp h1⟩
theorem cityR_congr2 {c : Nat} {σ : jS} {s t : Nat → Int32} (h : cityR c σ s) (e : ∀ i, i < 212 → t i = s i) : cityR c σ t :=
  ⟨bitsR_congr h.1 (fun p hp => e p (by omega)), bitsR_congr h.2.1 (fun p hp => e (48 + p) (by omega)), fun i hi => by
    rw [e 208 (by omega)] at hi
    rw [e i (by unfold validI at hi; omega)]
    exact h.2.2 i hi⟩
theorem s_keep (F : Nat) (hF : 213 ≤ F) : S_keep F Inv := by
  intro σ τ hI
  obtain ⟨hT, hW, hR, hK, hO, hL⟩ := id hI
  obtain ⟨σ1, e1, o1, c1⟩ := x0_copy F (c := 13) (e := 3) σ (by omega)
  obtain ⟨τ1, e2, o2, c2⟩ := m_copies hF (a := 1) (b := 3) (by omega) (js τ 0 50 1)
  unfold mX11_keep mX12_keep
  rw [e1]
  simp only [Option.bind_some, lt, e2]
  have ea : js τ 0 50 1 1 = τ 1 := js_c _ _ _ (by omega)
  have o3 : ∀ d, d ≠ 3 → d ≠ 0 → τ1 d = τ d := fun d h1 h2 => by rw [o2 d h1, js_c _ _ _ h2]
  have o4 : ∀ k, k ≠ 50 → τ1 0 k = τ 0 k := fun k hk => by rw [o2 0 (by omega), js_k _ _ hk]
  have o5 : ∀ d, (d < 13 ∨ 23 ≤ d) → d ≠ 0 → js σ1 0 13 1 d = σ d := fun d h1 h2 => by rw [js_c _ _ _ h2]; exact o1 d (by omega)
  have o6 : ∀ k, k ≠ 13 → js σ1 0 13 1 0 k = σ 0 k := fun k hk => by rw [js_k _ _ hk, o1 0 (by omega)]
  have hc3 : cityR 3 (js σ1 0 13 1) (τ 1) := cityR_congr hR (fun j hj => o5 _ (by omega) (by omega))
  refine ⟨τ1 1 210, js σ1 0 13 1, τ1, ?_, rfl, ?_⟩
  · rw [show js σ1 0 13 1 3 6 = τ1 1 210 by rw [o3 1 (by omega) (by omega)]; exact cityR_day_at hc3]
  · refine ⟨⟨?_, ?_⟩, by rw [o3 1 (by omega) (by omega)]; exact hW, by rw [o3 1 (by omega) (by omega)]; exact hc3, Or.inr ⟨js_at _ _ _ _, by rw [o2 0 (by omega), js_at], cityW_congr hW (fun i hi => by rw [c2 i hi, ea]), ?_⟩, ?_, ?_⟩
    · rw [o5 1 (by omega) (by omega), o4 6 (by omega)]; exact hT.1
    · rw [o5 2 (by omega) (by omega), o3 6 (by omega) (by omega)]; exact hT.2
    · refine cityR_congr2 (s := τ 1) (cityR_congr (c1 _ hR) (fun j hj => js_c _ _ _ (by omega))) (fun i hi => by rw [c2 i hi, ea])
    · unfold routR
      rw [o5 34 (by omega) (by omega), o5 35 (by omega) (by omega), o3 4 (by omega) (by omega), o3 5 (by omega) (by omega)]; exact hO
    · exact lawI_congr hL (o6 11 (by omega)) (o6 12 (by omega)) (fun c h1 h2 => o5 c (by omega) (by omega)) (fun c h1 h2 => o3 c (by omega) (by omega)) (o4 15 (by omega))
theorem s_undo (F : Nat) (hF : 213 ≤ F) : S_undo F Inv := by
  intro σ τ hI
  obtain ⟨hT, hW, hR, hK, hO, hL⟩ := id hI
  unfold mX11_undo mX12_undo
  rcases hK with ⟨k1, k2⟩ | ⟨k1, k2, k3, k4⟩
  · rw [if_pos k1, if_pos k2, k1]
    exact ⟨0, σ, τ, rfl, rfl, hI⟩
  · rw [if_neg (by rw [k1]; decide), if_neg (by rw [k2]; decide)]
    obtain ⟨σ1, e1, o1, c1⟩ := x0_copy F (c := 3) (e := 13) σ (by omega)
    obtain ⟨τ1, e2, o2, c2⟩ := m_copies hF (a := 3) (b := 1) (by omega) τ
    rw [e1, e2]
    simp only [Option.bind_some, lt]
    rw [o1 0 (by omega), k1]
    refine ⟨1, σ1, τ1, rfl, rfl, ?_⟩
    have o3 := offX_of o1
    refine Inv_city hI o3.1 ⟨o2 3 (by omega), o2 4 (by omega), o2 5 (by omega), o2 6 (by omega), fun c _ _ => o2 c (by omega), by rw [o2 0 (by omega)], by rw [o2 0 (by omega)]⟩ o3.2 (by rw [o2 0 (by omega)]) (cityW_congr k3 c2) (cityR_congr2 (c1 _ k4) c2)
