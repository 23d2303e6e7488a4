/-! the calls, one by one: the lane, a thing -/
theorem bref1 {im : IM} (hI : Inv im) {fx : Option (Int32 × IM)} {fm : IM → Option (Int32 × IM)} (h1 : fx = some (-1000001, up im 73 0 (im 73 0 + 1))) (h2 : ∀ m, m = up im 73 0 (im 73 0 + 1) → fm m = some (-1000001, up m 86 0 (m 86 0 + 1))) : ∃ (r : Int32) (m1 m2 : IM), fx = some (r, m1) ∧ fm m1 = some (r, m2) ∧ Inv m2 := both_ref (r := -1000001) hI (k := 0) (by decide) h1 h2
theorem bref2 {im : IM} (hI : Inv im) {fx : Option (Int32 × IM)} {fm : IM → Option (Int32 × IM)} (h1 : fx = some (-1000002, up im 73 1 (im 73 1 + 1))) (h2 : ∀ m, m = up im 73 1 (im 73 1 + 1) → fm m = some (-1000002, up m 86 1 (m 86 1 + 1))) : ∃ (r : Int32) (m1 m2 : IM), fx = some (r, m1) ∧ fm m1 = some (r, m2) ∧ Inv m2 := both_ref (r := -1000002) hI (k := 1) (by decide) h1 h2
theorem bref3 {im : IM} (hI : Inv im) {fx : Option (Int32 × IM)} {fm : IM → Option (Int32 × IM)} (h1 : fx = some (-1000003, up im 73 2 (im 73 2 + 1))) (h2 : ∀ m, m = up im 73 2 (im 73 2 + 1) → fm m = some (-1000003, up m 86 2 (m 86 2 + 1))) : ∃ (r : Int32) (m1 m2 : IM), fx = some (r, m1) ∧ fm m1 = some (r, m2) ∧ Inv m2 := both_ref (r := -1000003) hI (k := 2) (by decide) h1 h2
theorem bref4 {im : IM} (hI : Inv im) {fx : Option (Int32 × IM)} {fm : IM → Option (Int32 × IM)} (h1 : fx = some (-1000004, up im 73 3 (im 73 3 + 1))) (h2 : ∀ m, m = up im 73 3 (im 73 3 + 1) → fm m = some (-1000004, up m 86 3 (m 86 3 + 1))) : ∃ (r : Int32) (m1 m2 : IM), fx = some (r, m1) ∧ fm m1 = some (r, m2) ∧ Inv m2 := both_ref (r := -1000004) hI (k := 3) (by decide) h1 h2
theorem bref5 {im : IM} (hI : Inv im) {fx : Option (Int32 × IM)} {fm : IM → Option (Int32 × IM)} (h1 : fx = some (-1000005, up im 73 4 (im 73 4 + 1))) (h2 : ∀ m, m = up im 73 4 (im 73 4 + 1) → fm m = some (-1000005, up m 86 4 (m 86 4 + 1))) : ∃ (r : Int32) (m1 m2 : IM), fx = some (r, m1) ∧ fm m1 = some (r, m2) ∧ Inv m2 := both_ref (r := -1000005) hI (k := 4) (by decide) h1 h2
theorem bref6 {im : IM} (hI : Inv im) {fx : Option (Int32 × IM)} {fm : IM → Option (Int32 × IM)} (h1 : fx = some (-1000006, up im 73 5 (im 73 5 + 1))) (h2 : ∀ m, m = up im 73 5 (im 73 5 + 1) → fm m = some (-1000006, up m 86 5 (m 86 5 + 1))) : ∃ (r : Int32) (m1 m2 : IM), fx = some (r, m1) ∧ fm m1 = some (r, m2) ∧ Inv m2 := both_ref (r := -1000006) hI (k := 5) (by decide) h1 h2
theorem bref7 {im : IM} (hI : Inv im) {fx : Option (Int32 × IM)} {fm : IM → Option (Int32 × IM)} (h1 : fx = some (-1000007, up im 73 6 (im 73 6 + 1))) (h2 : ∀ m, m = up im 73 6 (im 73 6 + 1) → fm m = some (-1000007, up m 86 6 (m 86 6 + 1))) : ∃ (r : Int32) (m1 m2 : IM), fx = some (r, m1) ∧ fm m1 = some (r, m2) ∧ Inv m2 := both_ref (r := -1000007) hI (k := 6) (by decide) h1 h2
theorem lp_fall : LP_fall Inv := by
  intro im hI a1 a2
  obtain ⟨⟨V, v1, v2, v3⟩, -⟩ := id hI
  by_cases h1 : wi a1 0 30
  · by_cases h2 : wi a2 (-9) 9
    · obtain ⟨j, hj, rfl⟩ := rng_of (n := 30) 30 (by decide) h1.1 h1.2
      refine ⟨vF V j, up im 2 j a2, up (up im 2 j a2) 83 (5 + j) a2, ?_, ?_, ?_⟩
      · unfold f_X6_fall f_X6_isCell f_X6_isFall
        simp only [within_1 h1, within_1 h2, zb_1, i10, if_false, bnd_eq, inb_nI (show j < 31 by omega) (by decide), if_true, ix_nI (show j < 2 ^ 31 by omega), v1.1 j (by omega)]
      · unfold f_X7_fall f_X7_isCell
        rw [in_lit (b := 0) (c := 30) (by decide) (by decide), in_lit (b := -9) (c := 9) (by decide) (by decide)]
        simp only [within_1 h1, within_1 h2, zb_1, i10, if_false, bnd_eq, lit_add 5 (k := 5) rfl, inb_nI (show 5 + j < 167 by omega) (by decide), if_true, ix_nI (show 5 + j < 2 ^ 31 by omega), up_row (show (83 : Nat) ≠ 2 by decide), v2.1 j (by omega)]
      · refine hI.town (fun a h3 h4 => by rw [up_row h4, up_row (by omega)]) ⟨setF V j a2, (RC_F v1).cg (fun a h3 h4 => up_row (by omega)) v3.1, RR_F (v2.cg (up_row (by decide))) v3.1 (by omega), v3.F h2⟩
    · refine bref1 hI ?_ (fun m hm => ?_)
      · unfold f_X6_fall f_X6_fall_j1 f_X6_isCell f_X6_isFall
        simp only [within_1 h1, within_0 h2, zb_1, zb_0, i10, if_false, if_true, refuse_1, Option.bind_some]
      · unfold f_X7_fall f_X7_fall_j1 f_X7_isCell
        rw [in_lit (b := 0) (c := 30) (by decide) (by decide), in_lit (b := -9) (c := 9) (by decide) (by decide)]
        simp only [within_1 h1, within_0 h2, zb_1, zb_0, i10, if_false, if_true, finds_1, Option.bind_some]
  · refine bref1 hI ?_ (fun m hm => ?_)
    · unfold f_X6_fall f_X6_fall_j1 f_X6_isCell
      simp only [within_0 h1, zb_0, if_true, refuse_1, Option.bind_some]
    · unfold f_X7_fall f_X7_fall_j1 f_X7_isCell
      rw [in_lit (b := 0) (c := 30) (by decide) (by decide)]
      simp only [within_0 h1, zb_0, if_true, finds_1, Option.bind_some]
theorem lp_ground : LP_ground Inv := by
  intro im hI a1 a2
  obtain ⟨⟨V, v1, v2, v3⟩, -⟩ := id hI
  by_cases h1 : wi a1 0 30
  · by_cases h2 : wi a2 0 4
    · obtain ⟨j, hj, rfl⟩ := rng_of (n := 30) 30 (by decide) h1.1 h1.2
      refine ⟨vG V j, up im 3 j a2, up (up im 3 j a2) 83 (36 + j) a2, ?_, ?_, ?_⟩
      · unfold f_X6_ground f_X6_isCell
        simp only [within_1 h1, within_1 h2, zb_1, i10, if_false, bnd_eq, inb_nI (show j < 31 by omega) (by decide), if_true, ix_nI (show j < 2 ^ 31 by omega), v1.2.1 j (by omega)]
      · unfold f_X7_ground f_X7_isCell
        rw [in_lit (b := 0) (c := 30) (by decide) (by decide), in_lit (b := 0) (c := 4) (by decide) (by decide)]
        simp only [within_1 h1, within_1 h2, zb_1, i10, if_false, bnd_eq, lit_add 36 (k := 36) rfl, inb_nI (show 36 + j < 167 by omega) (by decide), if_true, ix_nI (show 36 + j < 2 ^ 31 by omega), up_row (show (83 : Nat) ≠ 3 by decide), v2.2.1 j (by omega)]
      · refine hI.town (fun a h3 h4 => by rw [up_row h4, up_row (by omega)]) ⟨setG V j a2, (RC_G v1).cg (fun a h3 h4 => up_row (by omega)) v3.1, RR_G (v2.cg (up_row (by decide))) v3.1 (by omega), v3.G h2⟩
    · refine bref1 hI ?_ (fun m hm => ?_)
      · unfold f_X6_ground f_X6_ground_j1 f_X6_isCell
        simp only [within_1 h1, within_0 h2, zb_1, i10, if_false, if_true, refuse_1, Option.bind_some]
      · unfold f_X7_ground f_X7_ground_j1 f_X7_isCell
        rw [in_lit (b := 0) (c := 30) (by decide) (by decide), in_lit (b := 0) (c := 4) (by decide) (by decide)]
        simp only [within_1 h1, within_0 h2, zb_1, i10, if_false, if_true, finds_1, Option.bind_some]
  · refine bref1 hI ?_ (fun m hm => ?_)
    · unfold f_X6_ground f_X6_ground_j1 f_X6_isCell
      simp only [within_0 h1, zb_0, if_true, refuse_1, Option.bind_some]
    · unfold f_X7_ground f_X7_ground_j1 f_X7_isCell
      rw [in_lit (b := 0) (c := 30) (by decide) (by decide)]
      simp only [within_0 h1, zb_0, if_true, finds_1, Option.bind_some]
/-! the gate's minutes -/
def setA (V : TV) (x : Int32) : TV := (V.1, V.2.1, V.2.2.1, V.2.2.2.1, V.2.2.2.2.1, x, V.2.2.2.2.2.2)
def setB (V : TV) (x : Int32) : TV := (V.1, V.2.1, V.2.2.1, V.2.2.2.1, V.2.2.2.2.1, V.2.2.2.2.2.1, x, V.2.2.2.2.2.2.2)
def setM (V : TV) (x : Int32) : TV := (V.1, V.2.1, V.2.2.1, V.2.2.2.1, V.2.2.2.2.1, V.2.2.2.2.2.1, V.2.2.2.2.2.2.1, x, V.2.2.2.2.2.2.2.2)
def setZ (V : TV) (x : Int32) : TV := (V.1, V.2.1, V.2.2.1, V.2.2.2.1, V.2.2.2.2.1, V.2.2.2.2.2.1, V.2.2.2.2.2.2.1, V.2.2.2.2.2.2.2.1, x)
theorem RC_A {im : IM} {T : Nat} {V : TV} (h : RC im T V) {x : Int32} : RC (up im T 5 x) T (setA V x) := by
  obtain ⟨h1, h2, h3, h4, h5, h6, h7, h8, h9⟩ := h
  exact ⟨fun c hc => by rw [up_row (by omega)]; exact h1 c hc, fun c hc => by rw [up_row (by omega)]; exact h2 c hc, fun t ht w hw => by rw [up_row (by omega)]; exact h3 t ht w hw, fun k hk => by rw [up_row (by omega)]; exact h4 k hk, by rw [up_ne (by decide)]; exact h5, by rw [up_same]; rfl, by rw [up_ne (by decide)]; exact h7, by rw [up_ne (by decide)]; exact h8, by rw [up_ne (by decide)]; exact h9⟩
theorem RR_A {im : IM} {A : Nat} {V : TV} (h : RR im A V) {x : Int32} : RR (up im A 2 x) A (setA V x) := by
  obtain ⟨h1, h2, h3, h4, h5, h6, h7, h8, h9⟩ := h
  exact ⟨fun c hc => by rw [up_ne (by omega)]; exact h1 c hc, fun c hc => by rw [up_ne (by omega)]; exact h2 c hc, fun t ht w hw => by rw [up_ne (by omega)]; exact h3 t ht w hw, fun k hk => by rw [up_ne (by omega)]; exact h4 k hk, by rw [up_ne (by decide)]; exact h5, by rw [up_same]; rfl, by rw [up_ne (by decide)]; exact h7, by rw [up_ne (by decide)]; exact h8, by rw [up_ne (by decide)]; exact h9⟩
theorem RC_B {im : IM} {T : Nat} {V : TV} (h : RC im T V) {x : Int32} : RC (up im T 6 x) T (setB V x) := by
  obtain ⟨h1, h2, h3, h4, h5, h6, h7, h8, h9⟩ := h
  exact ⟨fun c hc => by rw [up_row (by omega)]; exact h1 c hc, fun c hc => by rw [up_row (by omega)]; exact h2 c hc, fun t ht w hw => by rw [up_row (by omega)]; exact h3 t ht w hw, fun k hk => by rw [up_row (by omega)]; exact h4 k hk, by rw [up_ne (by decide)]; exact h5, by rw [up_ne (by decide)]; exact h6, by rw [up_same]; rfl, by rw [up_ne (by decide)]; exact h8, by rw [up_ne (by decide)]; exact h9⟩
theorem RR_B {im : IM} {A : Nat} {V : TV} (h : RR im A V) {x : Int32} : RR (up im A 3 x) A (setB V x) := by
  obtain ⟨h1, h2, h3, h4, h5, h6, h7, h8, h9⟩ := h
  exact ⟨fun c hc => by rw [up_ne (by omega)]; exact h1 c hc, fun c hc => by rw [up_ne (by omega)]; exact h2 c hc, fun t ht w hw => by rw [up_ne (by omega)]; exact h3 t ht w hw, fun k hk => by rw [up_ne (by omega)]; exact h4 k hk, by rw [up_ne (by decide)]; exact h5, by rw [up_ne (by decide)]; exact h6, by rw [up_same]; rfl, by rw [up_ne (by decide)]; exact h8, by rw [up_ne (by decide)]; exact h9⟩
theorem RC_M {im : IM} {T : Nat} {V : TV} (h : RC im T V) {x : Int32} : RC (up im T 7 x) T (setM V x) := by
  obtain ⟨h1, h2, h3, h4, h5, h6, h7, h8, h9⟩ := h
  exact ⟨fun c hc => by rw [up_row (by omega)]; exact h1 c hc, fun c hc => by rw [up_row (by omega)]; exact h2 c hc, fun t ht w hw => by rw [up_row (by omega)]; exact h3 t ht w hw, fun k hk => by rw [up_row (by omega)]; exact h4 k hk, by rw [up_ne (by decide)]; exact h5, by rw [up_ne (by decide)]; exact h6, by rw [up_ne (by decide)]; exact h7, by rw [up_same]; rfl, by rw [up_ne (by decide)]; exact h9⟩
theorem RR_M {im : IM} {A : Nat} {V : TV} (h : RR im A V) {x : Int32} : RR (up im A 0 x) A (setM V x) := by
  obtain ⟨h1, h2, h3, h4, h5, h6, h7, h8, h9⟩ := h
  exact ⟨fun c hc => by rw [up_ne (by omega)]; exact h1 c hc, fun c hc => by rw [up_ne (by omega)]; exact h2 c hc, fun t ht w hw => by rw [up_ne (by omega)]; exact h3 t ht w hw, fun k hk => by rw [up_ne (by omega)]; exact h4 k hk, by rw [up_ne (by decide)]; exact h5, by rw [up_ne (by decide)]; exact h6, by rw [up_ne (by decide)]; exact h7, by rw [up_same]; rfl, by rw [up_ne (by decide)]; exact h9⟩
theorem RC_Z {im : IM} {T : Nat} {V : TV} (h : RC im T V) {x : Int32} : RC (up im T 8 x) T (setZ V x) := by
  obtain ⟨h1, h2, h3, h4, h5, h6, h7, h8, h9⟩ := h
  exact ⟨fun c hc => by rw [up_row (by omega)]; exact h1 c hc, fun c hc => by rw [up_row (by omega)]; exact h2 c hc, fun t ht w hw => by rw [up_row (by omega)]; exact h3 t ht w hw, fun k hk => by rw [up_row (by omega)]; exact h4 k hk, by rw [up_ne (by decide)]; exact h5, by rw [up_ne (by decide)]; exact h6, by rw [up_ne (by decide)]; exact h7, by rw [up_ne (by decide)]; exact h8, by rw [up_same]; rfl⟩
theorem RR_Z {im : IM} {A : Nat} {V : TV} (h : RR im A V) {x : Int32} : RR (up im A 4 x) A (setZ V x) := by
  obtain ⟨h1, h2, h3, h4, h5, h6, h7, h8, h9⟩ := h
  exact ⟨fun c hc => by rw [up_ne (by omega)]; exact h1 c hc, fun c hc => by rw [up_ne (by omega)]; exact h2 c hc, fun t ht w hw => by rw [up_ne (by omega)]; exact h3 t ht w hw, fun k hk => by rw [up_ne (by omega)]; exact h4 k hk, by rw [up_ne (by decide)]; exact h5, by rw [up_ne (by decide)]; exact h6, by rw [up_ne (by decide)]; exact h7, by rw [up_ne (by decide)]; exact h8, by rw [up_same]; rfl⟩
theorem OkV.A {V : TV} (h : OkV V) {x : Int32} (hx : wi x 0 59) : OkV (setA V x) := by
  obtain ⟨h1, h2, h3, h4, h5, h6, h7, h8⟩ := h
  exact ⟨h1, h2, h3, h4, h5, hx, h7, h8⟩
theorem OkV.B {V : TV} (h : OkV V) {x : Int32} (hx : wi x 0 59) : OkV (setB V x) := by
  obtain ⟨h1, h2, h3, h4, h5, h6, h7, h8⟩ := h
  exact ⟨h1, h2, h3, h4, h5, h6, hx, h8⟩
theorem OkV.M {V : TV} (h : OkV V) {x : Int32} (hx : wi x 0 9999) : OkV (setM V x) := by
  obtain ⟨h1, h2, h3, h4, h5, h6, h7, h8⟩ := h
  exact ⟨h1, h2, h3, h4, h5, h6, h7, hx⟩
theorem OkV.Z {V : TV} (h : OkV V) {x : Int32} : OkV (setZ V x) := h
theorem lp_gate : LP_gate Inv := by
  intro im hI a1 a2
  obtain ⟨⟨V, v1, v2, v3⟩, -⟩ := id hI
  by_cases h1 : wi a1 0 1
  · by_cases h2 : wi a2 0 59
    · obtain ⟨j, hj, rfl⟩ := rng_of (n := 1) 1 (by decide) h1.1 h1.2
      have hj2 : j = 0 ∨ j = 1 := by omega
      rcases hj2 with rfl | rfl
      · refine ⟨vA V, up im 1 5 a2, up (up im 1 5 a2) 83 2 a2, ?_, ?_, ?_⟩
        · unfold f_X6_gate f_X6_isMinuteOfHour f_X6_gate_j2 f_X6_gate_j3
          rw [within_1 h1, within_1 h2]
          simp only [zb_1, i10, if_false, bnd_eq, show nI 0 = 0 from rfl, if_true, v1.2.2.2.2.2.1]
        · unfold f_X7_gate
          rw [in_lit (b := 0) (c := 1) (by decide) (by decide), in_lit (b := 0) (c := 59) (by decide) (by decide)]
          simp only [within_1 h1, within_1 h2, i10, if_false, bnd_eq, lit_add 2 (k := 2) rfl, inb_nI (show 2 + 0 < 167 by omega) (by decide), if_true, ix_nI (show 2 + 0 < 2 ^ 31 by omega), up_row (show (83 : Nat) ≠ 1 by decide), v2.2.2.2.2.2.1]
        · refine hI.town (fun a h3 h4 => by rw [up_row h4, up_row (by omega)]) ⟨setA V a2, (RC_A v1).cg (fun a h3 h4 => up_row (by omega)) v3.1, RR_A (v2.cg (up_row (by decide))), v3.A h2⟩
      · refine ⟨vB V, up im 1 6 a2, up (up im 1 6 a2) 83 3 a2, ?_, ?_, ?_⟩
        · unfold f_X6_gate f_X6_isMinuteOfHour f_X6_gate_j2 f_X6_gate_j3
          rw [within_1 h1, within_1 h2]
          simp only [zb_1, i10, if_false, bnd_eq, show nI 1 = 1 from rfl, v1.2.2.2.2.2.2.1]
        · unfold f_X7_gate
          rw [in_lit (b := 0) (c := 1) (by decide) (by decide), in_lit (b := 0) (c := 59) (by decide) (by decide)]
          simp only [within_1 h1, within_1 h2, i10, if_false, bnd_eq, lit_add 2 (k := 2) rfl, inb_nI (show 2 + 1 < 167 by omega) (by decide), if_true, ix_nI (show 2 + 1 < 2 ^ 31 by omega), up_row (show (83 : Nat) ≠ 1 by decide), v2.2.2.2.2.2.2.1]
        · refine hI.town (fun a h3 h4 => by rw [up_row h4, up_row (by omega)]) ⟨setB V a2, (RC_B v1).cg (fun a h3 h4 => up_row (by omega)) v3.1, RR_B (v2.cg (up_row (by decide))), v3.B h2⟩
    · refine bref1 hI ?_ (fun m hm => ?_)
      · unfold f_X6_gate f_X6_gate_j1 f_X6_isMinuteOfHour
        simp only [within_1 h1, within_0 h2, zb_0, i10, if_false, if_true, refuse_1, Option.bind_some]
      · unfold f_X7_gate f_X7_gate_j1
        rw [in_lit (b := 0) (c := 1) (by decide) (by decide), in_lit (b := 0) (c := 59) (by decide) (by decide)]
        simp only [within_1 h1, within_0 h2, i10, if_false, if_true, finds_1, Option.bind_some]
  · refine bref1 hI ?_ (fun m hm => ?_)
    · unfold f_X6_gate f_X6_gate_j1
      simp only [within_0 h1, if_true, refuse_1, Option.bind_some]
    · unfold f_X7_gate f_X7_gate_j1
      rw [in_lit (b := 0) (c := 1) (by decide) (by decide)]
      simp only [within_0 h1, if_true, finds_1, Option.bind_some]
/-- shut or not, on both sides -/
def pSh (A B mi : Int32) : Int32 := if B < A then (if A ≤ jrem mi 60 then 1 else if B < jrem mi 60 then 0 else 1) else (if jrem mi 60 < A then 0 else if B < jrem mi 60 then 0 else 1)
theorem shut_c {im : IM} {T : Nat} {mi : Int32} : f_X5_gatesAreShut T mi im = pSh (im T 5) (im T 6) mi := by
  unfold f_X5_gatesAreShut f_X5_gatesAreShut_j1 f_X5_gatesAreShut_j2 pSh
  rfl
theorem shut_r {im : IM} {mi : Int32} : f_X7_isShut mi im = pSh (im 83 2) (im 83 3) mi := by
  unfold f_X7_isShut f_X7_isShut_j1 pSh
  simp only [bnd_eq]
  by_cases h : im 83 3 < im 83 2
  · rw [if_pos h, if_neg (Int32.not_le.mpr h)]
  · rw [if_neg h, if_pos (Int32.not_lt.mp h), in_eq]
    by_cases h1 : jrem mi 60 < im 83 2
    · rw [if_pos h1, within_0 (fun q => absurd q.1 (Int32.not_le.mpr h1)), zb_0]
    · rw [if_neg h1]
      by_cases h2 : im 83 3 < jrem mi 60
      · rw [if_pos h2, within_0 (fun q => absurd q.2 (Int32.not_le.mpr h2)), zb_0]
      · rw [if_neg h2, within_1 ⟨Int32.not_lt.mp h1, Int32.not_lt.mp h2⟩, zb_1]
theorem lp_shut : LP_shut Inv := by
  intro im hI a1
  obtain ⟨⟨V, v1, v2, v3⟩, -⟩ := id hI
  by_cases h1 : wi a1 0 9999
  · by_cases h2 : pSh (vA V) (vB V) a1 = 0
    · refine ⟨0, im, im, ?_, ?_, hI⟩
      · unfold f_X6_shut
        simp only [within_1 h1, i10, if_false, shut_c, v1.2.2.2.2.2.1, v1.2.2.2.2.2.2.1, h2, if_true]
      · unfold f_X7_shut
        rw [in_lit (b := 0) (c := 9999) (by decide) (by decide)]
        simp only [within_1 h1, i10, if_false, shut_r, v2.2.2.2.2.2.1, v2.2.2.2.2.2.2.1, h2, if_true]
    · refine ⟨1, im, im, ?_, ?_, hI⟩
      · unfold f_X6_shut
        simp only [within_1 h1, i10, if_false, shut_c, v1.2.2.2.2.2.1, v1.2.2.2.2.2.2.1, h2]
      · unfold f_X7_shut
        rw [in_lit (b := 0) (c := 9999) (by decide) (by decide)]
        simp only [within_1 h1, i10, if_false, shut_r, v2.2.2.2.2.2.1, v2.2.2.2.2.2.2.1, h2]
  · refine bref1 hI ?_ (fun m hm => ?_)
    · unfold f_X6_shut
      simp only [within_0 h1, if_true, refuse_1, Option.bind_some]
    · unfold f_X7_shut
      rw [in_lit (b := 0) (c := 9999) (by decide) (by decide)]
      simp only [within_0 h1, if_true, finds_1, Option.bind_some]
theorem lp_seed : LP_seed Inv := by
  intro im hI a1
  obtain ⟨⟨V, v1, v2, v3⟩, -⟩ := id hI
  refine ⟨vZ V, up im 1 8 a1, up (up im 1 8 a1) 83 4 a1, ?_, ?_, ?_⟩
  · unfold f_X6_seed
    simp only [bnd_eq, v1.2.2.2.2.2.2.2.2]
  · unfold f_X7_seed
    simp only [bnd_eq, up_row (show (83 : Nat) ≠ 1 by decide), v2.2.2.2.2.2.2.2.2]
  · refine hI.town (fun a h3 h4 => by rw [up_row h4, up_row (by omega)]) ⟨setZ V a1, (RC_Z v1).cg (fun a h3 h4 => up_row (by omega)) v3.1, RR_Z (v2.cg (up_row (by decide))), v3.Z⟩
