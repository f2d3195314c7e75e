/-! ===== the start, and all together ===== -/
theorem t0_at (i : Nat) : τ0 1 i = if i = 211 then 1 else 0 := by
  show upd (fun _ => 0) (211 : Int32).toNatClampNeg 1 i = _
  rw [show (211 : Int32).toNatClampNeg = 211 from by decide]
  by_cases c : i = 211
  · rw [c, pk_us, if_pos rfl]
  · rw [pk_un c, if_neg c]
theorem start_city : cityW (τ0 1) ∧ cityR 3 σ0 (τ0 1) := by
  have hz : ∀ i, i ≠ 211 → τ0 1 i = 0 := fun i hi => by rw [t0_at, if_neg hi]
  refine ⟨⟨fun i hi => ?_, fun p hp h => ?_⟩, ⟨fun p hp => ?_, fun p hp => b_0 p⟩, ⟨fun p hp => ?_, fun p hp => b_0 p⟩, fun i hi => ?_⟩
  · by_cases c : i = 211
    · subst c
      rw [t0_at, if_pos rfl]
      exact ⟨1, rfl, by decide⟩
    · rw [hz i c]
      exact ⟨0, rfl, Nat.zero_le _⟩
  · rw [hz _ (by omega)] at h
    exact absurd h (by decide)
  · rw [hz p (by omega)]
    exact ⟨Or.inl rfl, by rw [show σ0 3 3 = 0 from rfl, b_0]; decide⟩
  · show ((fun p => τ0 1 (48 + p)) p = 0 ∨ (fun p => τ0 1 (48 + p)) p = 1) ∧ bt (σ0 3 4) p = decide ((fun p => τ0 1 (48 + p)) p = 1)
    have e : τ0 1 (48 + p) = 0 := hz _ (by omega)
    refine ⟨Or.inl e, ?_⟩
    show bt (σ0 3 4) p = decide (τ0 1 (48 + p) = 1)
    rw [e, show σ0 3 4 = 0 from rfl, b_0]
    decide
  · rw [hz 208 (by omega)] at hi
    rcases hi with ⟨a, b⟩ | ⟨a, b, c⟩ | ⟨a, b⟩
    · rw [hz i (by omega)]
      unfold cellX
      by_cases q : i < 32
      · rw [if_pos q]; rfl
      · rw [if_neg q, if_pos b]; rfl
    · exact absurd c (nI_pos (by have := Nat.mod_lt (i - 64) (show 0 < 24 by omega); omega))
    · rcases (show i = 208 ∨ i = 209 ∨ i = 210 ∨ i = 211 by omega) with rfl | rfl | rfl | rfl
      · rw [hz _ (by omega)]; rfl
      · rw [hz _ (by omega)]; rfl
      · rw [hz _ (by omega)]; rfl
      · rw [t0_at, if_pos rfl]; rfl
theorem start_inv : Inv σ0 τ0 := by
  refine ⟨⟨⟨0, by omega, rfl, rfl⟩, fun i _ => ?_⟩, start_city.1, start_city.2, Or.inl ⟨rfl, rfl⟩, ⟨fun i _ => ⟨rfl, 0, by omega, rfl⟩, fun p _ => rfl⟩, 46, Or.inl rfl, rfl, rfl, fun _ => (0, 0), 0, by omega, rfl, rfl, fun i _ ⟨j, hj, _⟩ => absurd hj (by omega), fun j hj => absurd hj (by omega)⟩
  show (0 : Int32) = 0 &&& 255
  decide
theorem sim_all : SimAll := by
  obtain ⟨F, hF⟩ : ∃ F : Nat, 10 ^ 30 ≤ F := ⟨_, Nat.le_refl _⟩
  exact ⟨F, Inv, start_inv, s_person F, s_feed F (by omega), s_law F (by omega), s_routine F (by omega), s_ledger F (by omega), s_days F (by omega), s_tried F (by omega), s_personIs F (by omega), s_loanIs F, s_dies F (by omega), s_costs F (by omega), s_paidOff F (by omega), s_dueAfter F (by omega), s_hiccups F (by omega), s_left F (by omega), s_longest F (by omega), s_stillest F (by omega), s_alike F (by omega), s_rings F hF, s_settled F (by omega), s_joy F (by omega), s_run F (by omega), s_table F (by omega), s_atOnce F (by omega), s_pulse F (by omega), s_stairs F (by omega), s_bells F (by omega), s_seed F, s_keep F (by omega), s_undo F (by omega), s_check F (by omega), s_count F (by omega)⟩
