/-! wipe, tear -/
theorem Inv.tape {im m2 : IM} (h : Inv im) (ho : ∀ a, a ≠ 66 → a ≠ 67 → a ≠ 82 → a ≠ 89 → m2 a = im a) (h4 : m2 82 4 = im 82 4) (hP : IvP m2) : Inv m2 := by
  obtain ⟨⟨V, v1, v2, v3⟩, hK, hS, -, hH⟩ := h
  refine ⟨⟨V, v1.cg (fun a h1 h2 => ho a (by omega) (by omega) (by omega) (by omega)) v3.1, v2.cg (ho 83 (by omega) (by omega) (by omega) (by omega)), v3⟩, ?_, fun j hj => by rw [ho 73 (by omega) (by omega) (by omega) (by omega), ho 86 (by omega) (by omega) (by omega) (by omega)]; exact hS j hj, hP, fun i hi => by rw [ho (74 + 2 * i) (by omega) (by omega) (by omega) (by omega), ho (75 + 2 * i) (by omega) (by omega) (by omega) (by omega), ho 90 (by omega) (by omega) (by omega) (by omega), ho 91 (by omega) (by omega) (by omega) (by omega), ho 92 (by omega) (by omega) (by omega) (by omega)]; exact hH i hi⟩
  rcases hK with ⟨k1, k2⟩ | ⟨k1, k2, W, w1, w2, w3⟩
  · exact Or.inl ⟨by rw [ho 0 (by omega) (by omega) (by omega) (by omega)]; exact k1, by rw [h4]; exact k2⟩
  · exact Or.inr ⟨by rw [ho 0 (by omega) (by omega) (by omega) (by omega)]; exact k1, by rw [h4]; exact k2, W, w1.cg (fun a h1 h2 => ho a (by omega) (by omega) (by omega) (by omega)) w3.1, w2.cg (ho 84 (by omega) (by omega) (by omega) (by omega)), w3⟩
theorem lp_wipe : LP_wipe Inv := by
  intro im hI
  obtain ⟨-, -, -, ⟨q, p1, p2, p3, p4⟩, -⟩ := id hI
  refine ⟨nI q, up im 66 1 0, up (up im 66 1 0) 82 16 0, ?_, ?_, ?_⟩
  · unfold f_X6_wipe
    simp only [bnd_eq, p2]
  · unfold f_X7_wipe
    simp only [bnd_eq, up_row (show (82 : Nat) ≠ 66 by decide), p3]
  · refine hI.tape (fun a h1 h2 h3 h4 => by rw [up_row h3, up_row h1]) (by rw [up_ne (by decide), up_row (by decide)]) ⟨0, by omega, ?_, ?_, fun k hk => by omega⟩
    · rw [up_row (by decide), up_same]; rfl
    · rw [up_same]; rfl
theorem Inv.kept {im m2 : IM} (h : Inv im) (ho : ∀ a, a ≠ 0 → ¬ (16 ≤ a ∧ a ≤ 30) → a ≠ 82 → a ≠ 84 → m2 a = im a) (h4 : m2 82 16 = im 82 16) (hK : IvK m2) : Inv m2 := by
  obtain ⟨⟨V, v1, v2, v3⟩, -, hS, ⟨q, p1, p2, p3, p4⟩, hH⟩ := h
  exact ⟨⟨V, v1.cg (fun a h1 h2 => ho a (by omega) (by omega) (by omega) (by omega)) v3.1, v2.cg (ho 83 (by omega) (by omega) (by omega) (by omega)), v3⟩, hK, fun j hj => by rw [ho 73 (by omega) (by omega) (by omega) (by omega), ho 86 (by omega) (by omega) (by omega) (by omega)]; exact hS j hj, ⟨q, p1, by rw [ho 66 (by omega) (by omega) (by omega) (by omega)]; exact p2, by rw [h4]; exact p3, fun k hk => by rw [ho 67 (by omega) (by omega) (by omega) (by omega), ho 89 (by omega) (by omega) (by omega) (by omega)]; exact p4 k hk⟩, fun i hi => by rw [ho (74 + 2 * i) (by omega) (by omega) (by omega) (by omega), ho (75 + 2 * i) (by omega) (by omega) (by omega) (by omega), ho 90 (by omega) (by omega) (by omega) (by omega), ho 91 (by omega) (by omega) (by omega) (by omega), ho 92 (by omega) (by omega) (by omega) (by omega)]; exact hH i hi⟩
theorem lp_tear : LP_tear Inv := by
  intro im hI
  obtain ⟨-, hK, -⟩ := id hI
  have fin : Inv (up (up im 0 2 0) 82 4 0) := hI.kept (fun a h1 h2 h3 h4 => by rw [up_row h3, up_row h1]) (by rw [up_ne (by decide), up_row (by decide)]) (Or.inl ⟨by rw [up_row (by decide), up_same], up_same⟩)
  rcases hK with ⟨k1, k2⟩ | ⟨k1, k2, -⟩
  · refine ⟨0, up im 0 2 0, _, ?_, ?_, fin⟩
    · unfold f_X6_tear f_X6_tear_j1
      simp only [bnd_eq, k1, if_true]
    · unfold f_X7_tear f_X7_tear_j1
      simp only [bnd_eq, up_row (show (82 : Nat) ≠ 0 by decide), k2, if_true]
  · refine ⟨1, up im 0 2 0, _, ?_, ?_, fin⟩
    · unfold f_X6_tear f_X6_tear_j1
      simp only [bnd_eq, k1, i10, if_false]
    · unfold f_X7_tear f_X7_tear_j1
      simp only [bnd_eq, up_row (show (82 : Nat) ≠ 0 by decide), k2, i10, if_false]
/-! a thing's row -/
theorem row_c {im : IM} {V : TV} {t w : Nat} (v1 : RC im 1 V) (ht : t < vN V) (hw : w < 8) : im (6 + t) w = vT V t w := v1.2.2.1 t ht w hw
theorem row_r {im : IM} {V : TV} {t w : Nat} (v2 : RR im 83 V) (ht : t < vN V) (hw : w < 8) : im 83 (67 + 9 * t + w) = vT V t w := v2.2.2.1 t ht w hw
theorem lp_go : LP_go Inv := by
  intro im hI a1
  obtain ⟨⟨V, v1, v2, v3⟩, -⟩ := id hI
  by_cases h1 : ∃ t, t < vN V ∧ a1 = nI t
  · obtain ⟨t, ht, rfl⟩ := h1
    have ht10 : t < 10 := by have := v3.1; omega
    have ok := v3.2.2.2.1 t ht
    have e6 := row_c v1 ht (w := 6) (by decide)
    have e4 := row_c v1 ht (w := 4) (by decide)
    by_cases h2 : vT V t 6 = 0 ∧ ¬ vT V t 4 = 30
    · have h30 : ¬ 30 ≤ vT V t 4 := fun q => h2.2 (Int32.le_antisymm ok.2.2.2.2.1.2 q)
      refine ⟨vT V t 4, up (up im (6 + t) 6 1) (6 + t) 5 10, up (up (up (up im (6 + t) 6 1) (6 + t) 5 10) 83 (67 + 9 * t + 6) 1) 83 (67 + 9 * t + 5) 10, ?_, ?_, ?_⟩
      · unfold f_X6_go f_X4_canBeLetGo f_X4_letGo
        simp only [thing_1 v3.1 v1.2.2.2.2.1 ht, i10, if_false, inb_nI ht10 (by decide), if_true, ix_nI (show t < 2 ^ 31 by omega), e6, e4, h2.1, h2.2, bnd_eq, up_ne (show (4 : Nat) ≠ 5 by decide), up_ne (show (4 : Nat) ≠ 6 by decide)]
      · have hm : (up (up im (6 + t) 6 1) (6 + t) 5 10) 83 = im 83 := by rw [up_row (by omega), up_row (by omega)]
        unfold f_X7_go f_X7_isReady f_X7_letsGo
        simp only [thing7_1 v3.1 (show (up (up im (6 + t) 6 1) (6 + t) 5 10) 83 1 = nI (vN V) by rw [hm]; exact v2.2.2.2.2.1) ht, i10, if_false, its_w (w := 6) 6 rfl ht10 (by decide), its_w (w := 4) 4 rfl ht10 (by decide), Option.bind_some, hm, row_r v2 ht (w := 6) (by decide), row_r v2 ht (w := 4) (by decide), h2.1, h30, if_true, at_in (w := 6) 6 rfl ht10 (by decide), at_in (w := 5) 5 rfl ht10 (by decide), at_ix (w := 6) 6 rfl ht10 (by decide), at_ix (w := 5) 5 rfl ht10 (by decide), bnd_eq, up_ne (show 67 + 9 * t + 4 ≠ 67 + 9 * t + 5 by omega), up_ne (show 67 + 9 * t + 4 ≠ 67 + 9 * t + 6 by omega)]
      · refine hI.town (fun a h3 h4 => by rw [up_row h4, up_row h4, up_row (by omega), up_row (by omega)]) ⟨setR V t (fun w => if w = 5 then 10 else if w = 6 then 1 else vT V t w), ?_, ?_, v3.R ?_⟩
        · refine RC_row v1 v3.1 _ (fun w hw => ?_) (fun a h3 h4 h5 => by rw [up_row (by omega), up_row (by omega), up_row (by omega), up_row (by omega)])
          rw [up_row (by omega), up_row (by omega)]
          have := row_c v1 ht hw
          show up (up im (6 + t) 6 1) (6 + t) 5 10 (6 + t) w = _
          by_cases c5 : w = 5
          · subst c5; rw [up_same]; simp
          · rw [up_ne c5]
            by_cases c6 : w = 6
            · subst c6; rw [up_same]; simp
            · rw [up_ne c6, this]; simp [c5, c6]
        · have hm : (up (up im (6 + t) 6 1) (6 + t) 5 10) 83 = im 83 := by rw [up_row (by omega), up_row (by omega)]
          refine RR_row v2 v3.1 ht10 _ (fun w hw => ?_) (fun k hk => by rw [up_ne (by omega), up_ne (by omega), hm])
          by_cases c5 : w = 5
          · subst c5; rw [up_same]; simp
          · rw [up_ne (by omega)]
            by_cases c6 : w = 6
            · subst c6; rw [up_same]; simp
            · rw [up_ne (by omega), hm, row_r v2 ht hw]; simp [c5, c6]
        · obtain ⟨o0, o1, o2, o3, o4, o5, o6, o7⟩ := ok
          refine ⟨o0, o1, o2, o3, o4, show wi (10 : Int32) 0 99 by unfold wi; decide, show wi (1 : Int32) 0 3 by unfold wi; decide, fun _ => ?_⟩
          show vT V t 4 ≤ 29
          have a1 := o4.2
          have a2 := h2.2
          rw [Int32.le_iff_toInt_le] at a1 ⊢
          rw [← Int32.toInt_inj] at a2
          have e1 : (30 : Int32).toInt = 30 := by decide
          have e2 : (29 : Int32).toInt = 29 := by decide
          rw [e1] at a1 a2
          rw [e2]
          omega
    · refine bref5 hI ?_ (fun m hm => ?_)
      · unfold f_X6_go f_X4_canBeLetGo f_X4_canBeLetGo_j1
        simp only [thing_1 v3.1 v1.2.2.2.2.1 ht, i10, if_false, inb_nI ht10 (by decide), if_true, ix_nI (show t < 2 ^ 31 by omega), e6, e4]
        by_cases c6 : vT V t 6 = 0
        · have c4 : vT V t 4 = 30 := Classical.not_not.mp (fun q => h2 ⟨c6, q⟩)
          simp only [c6, c4, if_true, refuse_5, Option.bind_some]
        · simp only [c6, if_false, if_true, refuse_5, Option.bind_some]
      · have hm83 : m 83 = im 83 := by rw [hm, up_row (by decide)]
        unfold f_X7_go f_X7_isReady f_X7_isReady_j1
        simp only [thing7_1 v3.1 (show m 83 1 = nI (vN V) by rw [hm83]; exact v2.2.2.2.2.1) ht, i10, if_false, its_w (w := 6) 6 rfl ht10 (by decide), its_w (w := 4) 4 rfl ht10 (by decide), Option.bind_some, hm83, row_r v2 ht (w := 6) (by decide), row_r v2 ht (w := 4) (by decide)]
        by_cases c6 : vT V t 6 = 0
        · have c4 : vT V t 4 = 30 := Classical.not_not.mp (fun q => h2 ⟨c6, q⟩)
          simp only [c6, c4, if_true, Int32.le_refl, Option.bind_some, finds_5]
        · simp only [c6, if_false, if_true, Option.bind_some, finds_5]
  · refine bref1 hI ?_ (fun m hm => ?_)
    · unfold f_X6_go
      simp only [thing_0 v3.1 v1.2.2.2.2.1 h1, if_true, refuse_1, Option.bind_some]
    · unfold f_X7_go
      simp only [thing7_0 v3.1 (show m 83 1 = nI (vN V) by rw [hm, up_row (by decide)]; exact v2.2.2.2.2.1) h1, if_true, finds_1, Option.bind_some]
