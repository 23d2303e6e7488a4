/-! the beginning -/
def V0 : TV := (fun _ => 2, fun _ => 0, fun _ _ => 0, fun _ => -1, 0, 0, 14, 0, 1)
theorem z_1 : ∀ c, c < 31 → zI0 2 c = 2 := by decide +kernel
theorem z_2 : ∀ c, c < 31 → zI0 3 c = 0 := by decide +kernel
theorem z_3 : ∀ k, k < 10 → zI0 5 k = -1 := by decide +kernel
theorem z_4 : zI0 1 4 = nI 0 ∧ zI0 1 5 = 0 ∧ zI0 1 6 = 14 ∧ zI0 1 7 = 0 ∧ zI0 1 8 = 1 := by decide +kernel
theorem z_5 : ∀ c, c < 31 → zI0 83 (5 + c) = 2 := by decide +kernel
theorem z_6 : ∀ c, c < 31 → zI0 83 (36 + c) = 0 := by decide +kernel
theorem z_7 : ∀ k, k < 10 → zI0 83 (157 + k) = -1 := by decide +kernel
theorem z_8 : zI0 83 1 = nI 0 ∧ zI0 83 2 = 0 ∧ zI0 83 3 = 14 ∧ zI0 83 0 = 0 ∧ zI0 83 4 = 1 := by decide +kernel
theorem z_9 : zI0 0 2 = 0 ∧ zI0 82 4 = 0 := by decide +kernel
theorem z_10 : ∀ k, k < 7 → zI0 73 k = zI0 86 k := by decide +kernel
theorem z_11 : zI0 66 1 = nI 0 ∧ zI0 82 16 = nI 0 := by decide +kernel
theorem z_12 : ∀ i, i < 4 → (zI0 (74 + 2 * i) 1 = zI0 90 i ∧ zI0 90 i = 0) ∧ (zI0 (74 + 2 * i) 2 = zI0 91 i ∧ zI0 91 i = 0) := by decide +kernel
theorem z_13 : ∀ i, i < 4 → ∀ k, k < 40 → zI0 (75 + 2 * i) k = zI0 92 (40 * i + k) := by decide +kernel
theorem inv0 : Inv zI0 := by
  obtain ⟨a1, a2, a3, a4, a5⟩ := z_4
  obtain ⟨b1, b2, b3, b4, b5⟩ := z_8
  refine ⟨⟨V0, ⟨z_1, z_2, fun t ht => absurd ht (Nat.not_lt_zero _), z_3, a1, a2, a3, a4, a5⟩, ⟨z_5, z_6, fun t ht => absurd ht (Nat.not_lt_zero _), z_7, b1, b2, b3, b4, b5⟩, ?_⟩, Or.inl z_9, z_10, ⟨0, by omega, z_11.1, z_11.2, fun k hk => absurd hk (Nat.not_lt_zero _)⟩, fun i hi => ?_⟩
  · refine ⟨by show (0 : Nat) ≤ 10; omega, fun c _ => ?_, fun c _ => ?_, fun t ht => absurd ht (Nat.not_lt_zero _), fun k _ => Or.inl rfl, ?_, ?_, ?_⟩
    · show wi (2 : Int32) (-9) 9; unfold wi; decide
    · show wi (0 : Int32) 0 4; unfold wi; decide
    · show wi (0 : Int32) 0 59; unfold wi; decide
    · show wi (14 : Int32) 0 59; unfold wi; decide
    · show wi (0 : Int32) 0 9999; unfold wi; decide
  · obtain ⟨⟨h1, h2⟩, h3, h4⟩ := z_12 i hi
    refine ⟨⟨h1, Or.inl h2⟩, ⟨h3, ?_⟩, z_13 i hi⟩
    rw [h4]
    unfold wi
    decide
theorem lawp_of (ht : LP_text Inv) : LAWP Inv := ⟨lp_fall, lp_ground, lp_gate, lp_shut, lp_thing, lp_of, lp_change, lp_told, lp_go, lp_put, lp_minutes, lp_are, lp_on, lp_ahead, lp_meet, lp_ends, lp_takes, lp_speed, lp_seen, lp_sand, lp_rollsFor, lp_matters, lp_kindFor, lp_wait, lp_behind, lp_come, lp_pack, lp_lean, lp_drums, lp_waits, lp_least, lp_order, lp_wheel, lp_odds, lp_worst, lp_seed, lp_feed, lp_wipe, ht, lp_hold, lp_as, lp_sheet, lp_write, lp_copy, lp_load, lp_judge, lp_image, lp_undo, lp_tear, lp_count, lp_status⟩
