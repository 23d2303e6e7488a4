/-- a thing's row as the reference has it -/
def rw83 (im : IM) (t : Nat) : Nat → Int32 := fun w => im 83 (67 + 9 * t + w)
theorem gain_r {im : IM} {t c : Nat} (ht : t < 10) (hc : c < 31) : f_X7_gain (nI t) (nI c) im = some (pGain (rw83 im t) (im 83 (5 + c))) := by
  unfold f_X7_gain f_X7_gain_j1 f_X7_gain_j2 pGain rw83
  simp only [lit_add 5 (k := 5) rfl, inb_nI (show 5 + c < 167 by omega) (by decide), if_true, its_w (w := 2) 2 rfl ht (by decide), its_w (w := 0) 0 rfl ht (by decide), its_w (w := 1) 1 rfl ht (by decide), Option.bind_some, bnd_eq, ix_nI (show 5 + c < 2 ^ 31 by omega)]
  generalize im 83 (67 + 9 * t + 0) = k
  generalize im 83 (5 + c) * im 83 (67 + 9 * t + 2) = v
  by_cases c1 : k = 1
  · simp only [c1, if_true]
  · by_cases c2 : k = 2
    · simp only [c1, c2, if_true, if_false, show ¬ (2 : Int32) = 1 by decide]
    · by_cases c3 : k = 3
      · simp only [c3, if_true, if_false, show ¬ (3 : Int32) = 1 by decide, show ¬ (3 : Int32) = 2 by decide]
      · by_cases c4 : k = 4
        · simp only [c4, if_true, if_false, show ¬ (4 : Int32) = 1 by decide, show ¬ (4 : Int32) = 2 by decide, show ¬ (4 : Int32) = 3 by decide]
        · by_cases c5 : k = 5
          · simp only [c5, if_true, if_false, show ¬ (5 : Int32) = 1 by decide, show ¬ (5 : Int32) = 2 by decide, show ¬ (5 : Int32) = 3 by decide, show ¬ (5 : Int32) = 4 by decide]
          · simp only [c1, c2, c3, c4, c5, if_false]
            by_cases c6 : k = 6
            · simp only [c6, if_true, jmin]
              by_cases h : v ≤ 0
              · rw [if_pos h, if_neg (Int32.not_lt.mpr h)]
              · rw [if_neg h, if_pos (Int32.not_le.mp h)]
            · simp only [c6, if_false]
theorem drag_r {im : IM} {t c : Nat} (ht : t < 10) (hc : c < 31) : f_X7_drag (nI t) (nI c) im = some (pDrag (rw83 im t) (im 83 (36 + c))) := by
  have j1 : ∀ s p : Int32, p = pPD s → f_X7_drag_j1 (nI t) (nI c) s p im = some (pDrag (rw83 im t) s) := by
    intro s p hp
    unfold f_X7_drag_j1 f_X7_drag_j2 f_X7_drag_j3 pDrag rw83
    simp only [its_w (w := 3) 3 rfl ht (by decide), its_w (w := 0) 0 rfl ht (by decide), Option.bind_some, hp]
    generalize im 83 (67 + 9 * t + 0) = k
    by_cases c2 : k = 2
    · simp only [c2, if_true]
    · by_cases c3 : k = 3
      · simp only [c3, if_true, if_false, show ¬ (3 : Int32) = 2 by decide, show ¬ (3 : Int32) = 4 by decide, show ¬ (3 : Int32) = 5 by decide]
      · by_cases c4 : k = 4
        · simp only [c4, if_true, if_false, show ¬ (4 : Int32) = 2 by decide, show ¬ (4 : Int32) = 3 by decide]
          by_cases d2 : s = 2
          · simp only [d2, if_true]
          · simp only [d2, if_false]
        · by_cases c5 : k = 5
          · simp only [c5, if_true, if_false, show ¬ (5 : Int32) = 2 by decide, show ¬ (5 : Int32) = 3 by decide, show ¬ (5 : Int32) = 4 by decide]
          · simp only [c2, c3, c4, c5, if_false]
  unfold f_X7_drag
  simp only [lit_add 36 (k := 36) rfl, inb_nI (show 36 + c < 167 by omega) (by decide), if_true, bnd_eq, ix_nI (show 36 + c < 2 ^ 31 by omega)]
  by_cases d1 : im 83 (36 + c) = 1
  · simp only [d1, if_true]
    exact j1 _ _ (by decide)
  · by_cases d2 : im 83 (36 + c) = 2
    · simp only [d2, if_true, if_false, show ¬ (2 : Int32) = 1 by decide]
      exact j1 _ _ (by decide)
    · by_cases d3 : im 83 (36 + c) = 3
      · simp only [d3, if_true, if_false, show ¬ (3 : Int32) = 1 by decide, show ¬ (3 : Int32) = 2 by decide]
        exact j1 _ _ (by decide)
      · simp only [d1, d2, d3, if_false]
        exact j1 _ _ (by unfold pPD; simp only [d1, d2, d3, if_false])
theorem top_r {im : IM} {t : Nat} (ht : t < 10) : f_X7_top (nI t) im = some (pTop (rw83 im t)) := by
  unfold f_X7_top f_X7_top_j1 f_X7_top_j2 pTop rw83
  simp only [its_w (w := 3) 3 rfl ht (by decide), its_w (w := 0) 0 rfl ht (by decide), Option.bind_some]
  generalize im 83 (67 + 9 * t + 0) = k
  by_cases c1 : k = 1
  · simp only [c1, if_true]
  · by_cases c5 : k = 5
    · simp only [c5, if_true, if_false, show ¬ (5 : Int32) = 1 by decide]
    · by_cases c3 : k = 3
      · simp only [c3, if_true, if_false, show ¬ (3 : Int32) = 1 by decide, show ¬ (3 : Int32) = 5 by decide]
      · by_cases c2 : k = 2
        · simp only [c2, if_true, if_false, show ¬ (2 : Int32) = 1 by decide, show ¬ (2 : Int32) = 5 by decide, show ¬ (2 : Int32) = 3 by decide]
        · by_cases c4 : k = 4
          · simp only [c4, if_true, if_false, show ¬ (4 : Int32) = 1 by decide, show ¬ (4 : Int32) = 5 by decide, show ¬ (4 : Int32) = 3 by decide, show ¬ (4 : Int32) = 2 by decide]
          · simp only [c1, c2, c3, c4, c5, if_false]
/-! rows that agree below 8 give the same -/
theorem pGain_cg {x y : Nat → Int32} (h : ∀ w, w < 8 → x w = y w) {f : Int32} : pGain x f = pGain y f := by
  unfold pGain
  rw [h 0 (by decide), h 1 (by decide), h 2 (by decide)]
theorem pDrag_cg {x y : Nat → Int32} (h : ∀ w, w < 8 → x w = y w) {s : Int32} : pDrag x s = pDrag y s := by
  unfold pDrag
  rw [h 0 (by decide), h 3 (by decide)]
theorem pTop_cg {x y : Nat → Int32} (h : ∀ w, w < 8 → x w = y w) : pTop x = pTop y := by
  unfold pTop
  rw [h 0 (by decide), h 3 (by decide)]
theorem rowsC {im : IM} {V : TV} (v1 : RC im 1 V) {t : Nat} (ht : t < vN V) : ∀ w, w < 8 → im (6 + t) w = vT V t w := fun w hw => row_c v1 ht hw
theorem rowsR {im : IM} {V : TV} (v2 : RR im 83 V) {t : Nat} (ht : t < vN V) : ∀ w, w < 8 → rw83 im t w = vT V t w := fun w hw => row_r v2 ht hw
theorem lp_told : LP_told Inv := by
  intro im hI a1 a2 a3
  obtain ⟨⟨V, v1, v2, v3⟩, -⟩ := id hI
  by_cases h1 : ∃ t, t < vN V ∧ a1 = nI t
  · obtain ⟨t, ht, rfl⟩ := h1
    have ht10 : t < 10 := by have := v3.1; omega
    have th1 := thing_1 v3.1 v1.2.2.2.2.1 ht
    have th7 := thing7_1 v3.1 v2.2.2.2.2.1 ht
    have i31 : ix (nI t) = t := ix_nI (by omega)
    have ib := inb_nI ht10 (show 10 < 2 ^ 31 by decide)
    by_cases h2 : wi a2 0 1
    · by_cases h3 : wi a3 0 30
      · obtain ⟨c, hc, rfl⟩ := rng_of (n := 30) 30 (by decide) h3.1 h3.2
        have ic : ix (nI c) = c := ix_nI (by omega)
        have icb := inb_nI (show c < 31 by omega) (show 31 < 2 ^ 31 by decide)
        by_cases d : a2 = 0
        · subst d
          refine ⟨pGain (vT V t) (vF V c), im, im, ?_, ?_, hI⟩
          · unfold f_X6_told f_X6_isCell
            simp only [th1, within_1 h2, within_1 h3, zb_1, i10, if_false, ib, if_true, eq_self, icb, ic, i31, gain_c, v1.1 c (by omega), pGain_cg (rowsC v1 ht)]
          · unfold f_X7_told f_X7_isCell
            simp only [th7, in_0_1, in_0_30, within_1 h2, within_1 h3, zb_1, i10, if_false, if_true, eq_self, gain_r ht10 (show c < 31 by omega), Option.bind_some, v2.1 c (by omega), pGain_cg (rowsR v2 ht)]
        · refine ⟨pDrag (vT V t) (vG V c), im, im, ?_, ?_, hI⟩
          · have hG : wi (im 3 c) 0 4 := by rw [v1.2.1 c (by omega)]; exact v3.2.2.1 c (by omega)
            unfold f_X6_told f_X6_isCell
            simp only [th1, within_1 h2, within_1 h3, zb_1, i10, if_false, ib, if_true, d, icb, ic, i31, drag_c hG, Option.bind_some, pDrag_cg (rowsC v1 ht)]
            rw [v1.2.1 c (by omega)]
          · unfold f_X7_told f_X7_isCell
            simp only [th7, in_0_1, in_0_30, within_1 h2, within_1 h3, zb_1, i10, if_false, d, drag_r ht10 (show c < 31 by omega), Option.bind_some, v2.2.1 c (by omega), pDrag_cg (rowsR v2 ht)]
      · refine bref1 hI ?_ (fun m hm => ?_)
        · unfold f_X6_told f_X6_told_j1 f_X6_isCell
          simp only [th1, within_1 h2, within_0 h3, zb_0, i10, if_false, if_true, refuse_1, Option.bind_some]
        · unfold f_X7_told f_X7_told_j1 f_X7_isCell
          simp only [thing7_1 v3.1 (show m 83 1 = nI (vN V) by rw [hm, up_row (by decide)]; exact v2.2.2.2.2.1) ht, in_0_1, in_0_30, within_1 h2, within_0 h3, zb_0, i10, if_false, if_true, finds_1, Option.bind_some]
    · refine bref1 hI ?_ (fun m hm => ?_)
      · unfold f_X6_told f_X6_told_j1
        simp only [th1, within_0 h2, i10, if_false, if_true, refuse_1, Option.bind_some]
      · unfold f_X7_told f_X7_told_j1
        simp only [thing7_1 v3.1 (show m 83 1 = nI (vN V) by rw [hm, up_row (by decide)]; exact v2.2.2.2.2.1) ht, in_0_1, within_0 h2, i10, if_false, if_true, finds_1, Option.bind_some]
  · refine bref1 hI ?_ (fun m hm => ?_)
    · unfold f_X6_told f_X6_told_j1
      simp only [thing_0 v3.1 v1.2.2.2.2.1 h1, if_true, refuse_1, Option.bind_some]
    · unfold f_X7_told f_X7_told_j1
      simp only [thing7_0 v3.1 (show m 83 1 = nI (vN V) by rw [hm, up_row (by decide)]; exact v2.2.2.2.2.1) h1, if_true, finds_1, Option.bind_some]
theorem lp_of : LP_of Inv := by
  intro im hI a1 a2
  obtain ⟨⟨V, v1, v2, v3⟩, -⟩ := id hI
  by_cases h1 : ∃ t, t < vN V ∧ a1 = nI t
  · obtain ⟨t, ht, rfl⟩ := h1
    have ht10 : t < 10 := by have := v3.1; omega
    have th1 := thing_1 v3.1 v1.2.2.2.2.1 ht
    have th7 := thing7_1 v3.1 v2.2.2.2.2.1 ht
    have i31 : ix (nI t) = t := ix_nI (by omega)
    have ib := inb_nI ht10 (show 10 < 2 ^ 31 by decide)
    by_cases h2 : wi a2 0 8
    · obtain ⟨w, hw, rfl⟩ := rng_of (n := 8) 8 (by decide) h2.1 h2.2
      by_cases h8 : w = 8
      · subst h8
        refine ⟨pTop (vT V t), im, im, ?_, ?_, hI⟩
        · unfold f_X6_of
          rw [within_1 h2]
          simp only [th1, i10, if_false, ib, if_true, i31, show ¬ nI 8 = 0 by decide, show ¬ nI 8 = 1 by decide, show ¬ nI 8 = 2 by decide, show ¬ nI 8 = 3 by decide, show ¬ nI 8 = 4 by decide, show ¬ nI 8 = 5 by decide, show ¬ nI 8 = 6 by decide, show ¬ nI 8 = 7 by decide, top_c, pTop_cg (rowsC v1 ht)]
        · unfold f_X7_of
          simp only [th7, in_0_8, within_1 h2, i10, if_false, show (8 : Int32) ≤ nI 8 by decide, if_true, top_r ht10, Option.bind_some, pTop_cg (rowsR v2 ht)]
      · have hw8 : w < 8 := by omega
        refine ⟨vT V t w, im, im, ?_, ?_, hI⟩
        · rw [← row_c v1 ht hw8]
          unfold f_X6_of
          rw [within_1 h2]
          simp only [th1, i10, if_false, ib, if_true, i31]
          have hk : w = 0 ∨ w = 1 ∨ w = 2 ∨ w = 3 ∨ w = 4 ∨ w = 5 ∨ w = 6 ∨ w = 7 := by omega
          rcases hk with rfl | rfl | rfl | rfl | rfl | rfl | rfl | rfl
          · rw [if_pos (by decide)]
          · rw [if_neg (by decide), if_pos (by decide)]
          · rw [if_neg (by decide), if_neg (by decide), if_pos (by decide)]
          · rw [if_neg (by decide), if_neg (by decide), if_neg (by decide), if_pos (by decide)]
          · rw [if_neg (by decide), if_neg (by decide), if_neg (by decide), if_neg (by decide), if_pos (by decide)]
          · rw [if_neg (by decide), if_neg (by decide), if_neg (by decide), if_neg (by decide), if_neg (by decide), if_pos (by decide)]
          · rw [if_neg (by decide), if_neg (by decide), if_neg (by decide), if_neg (by decide), if_neg (by decide), if_neg (by decide), if_pos (by decide)]
          · rw [if_neg (by decide), if_neg (by decide), if_neg (by decide), if_neg (by decide), if_neg (by decide), if_neg (by decide), if_neg (by decide), if_pos (by decide)]
        · have h9 : ¬ (8 : Int32) ≤ nI w := by rw [nI_ge_lit (n := 8) 8 (by decide) (by omega)]; omega
          unfold f_X7_of
          simp only [th7, in_0_8, within_1 h2, i10, if_false, h9, its_w (nI w) rfl ht10 (show w < 9 by omega), Option.bind_some, row_r v2 ht hw8]
    · refine bref1 hI ?_ (fun m hm => ?_)
      · unfold f_X6_of f_X6_of_j1
        simp only [th1, within_0 h2, i10, if_false, if_true, refuse_1, Option.bind_some]
      · unfold f_X7_of f_X7_of_j1
        simp only [thing7_1 v3.1 (show m 83 1 = nI (vN V) by rw [hm, up_row (by decide)]; exact v2.2.2.2.2.1) ht, in_0_8, within_0 h2, i10, if_false, if_true, finds_1, Option.bind_some]
  · refine bref1 hI ?_ (fun m hm => ?_)
    · unfold f_X6_of f_X6_of_j1
      simp only [thing_0 v3.1 v1.2.2.2.2.1 h1, if_true, refuse_1, Option.bind_some]
    · unfold f_X7_of f_X7_of_j1
      simp only [thing7_0 v3.1 (show m 83 1 = nI (vN V) by rw [hm, up_row (by decide)]; exact v2.2.2.2.2.1) h1, if_true, finds_1, Option.bind_some]
