/-! sums -/
def sm (f : Nat → Int32) (N : Nat) : Int32 := fA (fun t s => s + f t) 0 N 0
theorem sm_cg {f g : Nat → Int32} {N : Nat} (h : ∀ t, t < N → f t = g t) : sm f N = sm g N := fA_cg N 0 0 (fun t s _ h2 => by rw [h t (by omega)])
theorem damage_c {im : IM} {T N : Nat} (hN : im T 4 = nI N) (h10 : N ≤ 10) : f_X5_damageOfAll T im = some (sm (fun t => im (T + 5 + t) 7) N) := by
  unfold f_X5_damageOfAll sm
  refine loop0 (fun f a i => f_X5_damageOfAll_l1 T im f a i) N (by omega) some _ (fun f a => ?_) (fun f a i hi => ?_) 0
  · show f_X5_damageOfAll_l1b T im _ a (nI N) = _
    unfold f_X5_damageOfAll_l1b
    rw [hN, if_pos (Int32.le_refl _)]
  · show f_X5_damageOfAll_l1b T im _ a (nI i) = _
    unfold f_X5_damageOfAll_l1b
    rw [hN, if_neg (nI_ge hi (by omega)), if_pos (inb_nI (show i < 10 by omega) (by decide)), ix_nI (by omega)]
    simp only [bnd_eq, nI_1]
theorem weight_c {im : IM} {T N : Nat} (hN : im T 4 = nI N) (h10 : N ≤ 10) : f_X5_weightOfAll T im = some (sm (fun t => im (T + 5 + t) 1) N) := by
  unfold f_X5_weightOfAll sm
  refine loop0 (fun f a i => f_X5_weightOfAll_l1 T im f a i) N (by omega) some _ (fun f a => ?_) (fun f a i hi => ?_) 0
  · show f_X5_weightOfAll_l1b T im _ a (nI N) = _
    unfold f_X5_weightOfAll_l1b
    rw [hN, if_pos (Int32.le_refl _)]
  · show f_X5_weightOfAll_l1b T im _ a (nI i) = _
    unfold f_X5_weightOfAll_l1b
    rw [hN, if_neg (nI_ge hi (by omega)), if_pos (inb_nI (show i < 10 by omega) (by decide)), ix_nI (by omega)]
    simp only [bnd_eq, nI_1]
theorem sumOf_r {im : IM} {N w : Nat} (W : Int32) (hW : W = nI w) (hw : w < 9) (hN : im 83 1 = nI N) (h10 : N ≤ 10) : f_X7_sumOf W im = some (sm (fun t => im 83 (67 + 9 * t + w)) N) := by
  unfold f_X7_sumOf sm
  refine loop0 (fun f a i => f_X7_sumOf_l1 W im f a i) N (by omega) some _ (fun f a => ?_) (fun f a i hi => ?_) 0
  · show f_X7_sumOf_l1b W im _ a (nI N) = _
    unfold f_X7_sumOf_l1b
    rw [hN, if_pos (Int32.le_refl _)]
  · show f_X7_sumOf_l1b W im _ a (nI i) = _
    unfold f_X7_sumOf_l1b
    rw [hN, if_neg (nI_ge hi (by omega)), its_w W hW (by omega) hw]
    simp only [Option.bind_some, bnd_eq, nI_1]
theorem stone_c {im : IM} {T : Nat} : f_X5_cellsOfStone T im = some (sm (fun t => if im (T + 2) t = 0 then 1 else 0) 31) := by
  unfold f_X5_cellsOfStone sm
  refine loop0 (fun f a i => f_X5_cellsOfStone_l1 T im f a i) 31 (by omega) some _ (fun f a => ?_) (fun f a i hi => ?_) 0
  · show f_X5_cellsOfStone_l1b T im _ a (nI 31) = _
    unfold f_X5_cellsOfStone_l1b
    rw [if_pos (by decide)]
  · show f_X5_cellsOfStone_l1b T im _ a (nI i) = _
    unfold f_X5_cellsOfStone_l1b f_X5_cellsOfStone_j2
    rw [if_neg (by rw [nI_ge_lit (n := 31) 31 (by decide) (by omega)]; omega), if_pos (inb_nI hi (by decide)), ix_nI (by omega)]
    simp only [bnd_eq, nI_1]
    by_cases h : im (T + 2) i = 0
    · simp only [h, if_true]
    · simp only [h, if_false]
theorem stone_r {im : IM} : f_X7_stones im = some (sm (fun t => if im 83 (36 + t) = 0 then 1 else 0) 31) := by
  unfold f_X7_stones sm
  refine loop0 (fun f a i => f_X7_stones_l1 im f a i) 31 (by omega) some _ (fun f a => ?_) (fun f a i hi => ?_) 0
  · show f_X7_stones_l1b im _ a (nI 31) = _
    unfold f_X7_stones_l1b
    rw [if_pos (by decide)]
  · show f_X7_stones_l1b im _ a (nI i) = _
    unfold f_X7_stones_l1b f_X7_stones_j2
    rw [if_neg (by rw [nI_ge_lit (n := 31) 31 (by decide) (by omega)]; omega), lit_add 36 (k := 36) rfl, if_pos (inb_nI (show 36 + i < 167 by omega) (by decide)), ix_nI (by omega)]
    simp only [bnd_eq, nI_1]
    by_cases h : im 83 (36 + i) = 0
    · simp only [h, if_true]
    · simp only [h, if_false]
theorem spot_c {im : IM} {T : Nat} : f_X5_spotsInUse T im = some (sm (fun t => if im (T + 4) t < 0 then 0 else 1) 10) := by
  unfold f_X5_spotsInUse sm
  refine loop0 (fun f a i => f_X5_spotsInUse_l1 T im f a i) 10 (by omega) some _ (fun f a => ?_) (fun f a i hi => ?_) 0
  · show f_X5_spotsInUse_l1b T im _ a (nI 10) = _
    unfold f_X5_spotsInUse_l1b
    rw [if_pos (by decide)]
  · show f_X5_spotsInUse_l1b T im _ a (nI i) = _
    unfold f_X5_spotsInUse_l1b f_X5_spotsInUse_j2
    rw [if_neg (by rw [nI_ge_lit (n := 10) 10 (by decide) (by omega)]; omega), if_pos (inb_nI hi (by decide)), ix_nI (by omega)]
    simp only [bnd_eq, nI_1]
    by_cases h : im (T + 4) i < 0
    · simp only [h, if_true]
    · simp only [h, if_false]
theorem spot_r {im : IM} : f_X7_held im = some (sm (fun t => if im 83 (157 + t) < 0 then 0 else 1) 10) := by
  unfold f_X7_held sm
  refine loop0 (fun f a i => f_X7_held_l1 im f a i) 10 (by omega) some _ (fun f a => ?_) (fun f a i hi => ?_) 0
  · show f_X7_held_l1b im _ a (nI 10) = _
    unfold f_X7_held_l1b
    rw [if_pos (by decide)]
  · show f_X7_held_l1b im _ a (nI i) = _
    unfold f_X7_held_l1b f_X7_held_j2
    rw [if_neg (by rw [nI_ge_lit (n := 10) 10 (by decide) (by omega)]; omega), lit_add 157 (k := 157) rfl, if_pos (inb_nI (show 157 + i < 167 by omega) (by decide)), ix_nI (by omega)]
    simp only [bnd_eq, nI_1]
    by_cases h : im 83 (157 + i) < 0
    · simp only [h, if_true, Int32.not_le.mpr h, if_false]
    · simp only [h, if_false, Int32.not_lt.mp h, if_true]
theorem same_ans {im : IM} (hI : Inv im) {fx fm : Option (Int32 × IM)} {r : Int32} (h1 : fx = some (r, im)) (h2 : fm = some (r, im)) {g : IM → Option (Int32 × IM)} (hg : g im = fm) : ∃ (r : Int32) (m1 m2 : IM), fx = some (r, m1) ∧ g m1 = some (r, m2) ∧ Inv m2 := ⟨r, im, im, h1, by rw [hg]; exact h2, hI⟩
theorem lp_count : LP_count Inv := by
  intro im hI a1
  obtain ⟨⟨V, v1, v2, v3⟩, -, -, ⟨q, p1, p2, p3, p4⟩, -⟩ := id hI
  by_cases c0 : a1 = 0
  · subst c0
    exact ⟨vM V, im, im, by unfold f_X6_count; rw [if_pos rfl, v1.2.2.2.2.2.2.2.1], by unfold f_X7_count; rw [if_pos rfl, v2.2.2.2.2.2.2.2.1], hI⟩
  by_cases c1 : a1 = 1
  · subst c1
    exact ⟨nI (vN V), im, im, by unfold f_X6_count; rw [if_neg c0, if_pos rfl, v1.2.2.2.2.1], by unfold f_X7_count; rw [if_neg c0, if_pos rfl, v2.2.2.2.2.1], hI⟩
  by_cases c2 : a1 = 2
  · subst c2
    refine ⟨sm (fun t => vT V t 7) (vN V), im, im, ?_, ?_, hI⟩
    · unfold f_X6_count
      rw [if_neg c0, if_neg c1, if_pos rfl, damage_c v1.2.2.2.2.1 v3.1, Option.bind_some, sm_cg (fun t ht => v1.2.2.1 t ht 7 (by decide))]
    · unfold f_X7_count
      rw [if_neg c0, if_neg c1, if_pos rfl, sumOf_r (w := 7) 7 rfl (by decide) v2.2.2.2.2.1 v3.1, Option.bind_some, sm_cg (fun t ht => v2.2.2.1 t ht 7 (by decide))]
  by_cases c3 : a1 = 3
  · subst c3
    refine ⟨sm (fun t => vT V t 1) (vN V), im, im, ?_, ?_, hI⟩
    · unfold f_X6_count
      rw [if_neg c0, if_neg c1, if_neg c2, if_pos rfl, weight_c v1.2.2.2.2.1 v3.1, Option.bind_some, sm_cg (fun t ht => v1.2.2.1 t ht 1 (by decide))]
    · unfold f_X7_count
      rw [if_neg c0, if_neg c1, if_neg c2, if_pos rfl, sumOf_r (w := 1) 1 rfl (by decide) v2.2.2.2.2.1 v3.1, Option.bind_some, sm_cg (fun t ht => v2.2.2.1 t ht 1 (by decide))]
  by_cases c4 : a1 = 4
  · subst c4
    refine ⟨sm (fun t => if vG V t = 0 then 1 else 0) 31, im, im, ?_, ?_, hI⟩
    · unfold f_X6_count
      rw [if_neg c0, if_neg c1, if_neg c2, if_neg c3, if_pos rfl, stone_c, Option.bind_some, sm_cg (fun t ht => by rw [v1.2.1 t ht])]
    · unfold f_X7_count
      rw [if_neg c0, if_neg c1, if_neg c2, if_neg c3, if_pos rfl, stone_r, Option.bind_some, sm_cg (fun t ht => by rw [v2.2.1 t ht])]
  by_cases c5 : a1 = 5
  · subst c5
    exact ⟨nI q, im, im, by unfold f_X6_count; rw [if_neg c0, if_neg c1, if_neg c2, if_neg c3, if_neg c4, if_pos rfl, p2], by unfold f_X7_count; rw [if_neg c0, if_neg c1, if_neg c2, if_neg c3, if_neg c4, if_pos rfl, p3], hI⟩
  by_cases c6 : a1 = 6
  · subst c6
    exact ⟨vZ V, im, im, by unfold f_X6_count; rw [if_neg c0, if_neg c1, if_neg c2, if_neg c3, if_neg c4, if_neg c5, if_pos rfl, v1.2.2.2.2.2.2.2.2], by unfold f_X7_count; rw [if_neg c0, if_neg c1, if_neg c2, if_neg c3, if_neg c4, if_neg c5, if_pos rfl, v2.2.2.2.2.2.2.2.2], hI⟩
  by_cases c7 : a1 = 7
  · subst c7
    refine ⟨sm (fun t => if vS V t < 0 then 0 else 1) 10, im, im, ?_, ?_, hI⟩
    · unfold f_X6_count
      rw [if_neg c0, if_neg c1, if_neg c2, if_neg c3, if_neg c4, if_neg c5, if_neg c6, if_pos rfl, spot_c, Option.bind_some, sm_cg (fun t ht => by rw [v1.2.2.2.1 t ht])]
    · unfold f_X7_count
      rw [if_neg c0, if_neg c1, if_neg c2, if_neg c3, if_neg c4, if_neg c5, if_neg c6, if_pos rfl, spot_r, Option.bind_some, sm_cg (fun t ht => by rw [v2.2.2.2.1 t ht])]
  · refine bref1 hI ?_ (fun m hm => ?_)
    · unfold f_X6_count
      simp only [c0, c1, c2, c3, c4, c5, c6, c7, if_false, refuse_1, Option.bind_some]
    · unfold f_X7_count
      simp only [c0, c1, c2, c3, c4, c5, c6, c7, if_false, finds_1, Option.bind_some]
theorem lp_status : LP_status Inv := by
  intro im hI a1
  obtain ⟨-, -, hS, -⟩ := id hI
  by_cases h1 : wi a1 (-1) 6
  · have e7 : f_X7_status a1 im = some (sm (fun k => if a1 < 0 ∨ nI k = a1 then im 86 k else 0) 7, im) := by
      unfold f_X7_status sm
      rw [in_m1_6, within_1 h1, if_neg i10]
      refine loop0 (fun f a i => f_X7_status_l1 a1 f a i im) 7 (by omega) (fun a => some (a, im)) _ (fun f a => ?_) (fun f a i hi => ?_) 0
      · show f_X7_status_l1b a1 _ a (nI 7) im = _
        unfold f_X7_status_l1b
        rw [if_pos (by decide)]
      · show f_X7_status_l1b a1 _ a (nI i) im = _
        unfold f_X7_status_l1b f_X7_status_j2 f_X7_status_j3
        rw [if_neg (by rw [nI_ge_lit (n := 7) 7 (by decide) (by omega)]; omega)]
        simp only [inb_nI hi (show 7 < 2 ^ 31 by decide), ix_nI (show i < 2 ^ 31 by omega), if_true, bnd_eq, nI_1]
        by_cases hl : a1 < 0
        · simp only [hl, if_true, true_or]
        · by_cases he : nI i = a1
          · simp only [hl, he, if_false, if_true, or_true]
          · simp only [hl, he, if_false, or_self]
    by_cases hl : a1 < 0
    · refine ⟨sm (fun k => im 73 k) 7, im, im, ?_, ?_, hI⟩
      · unfold f_X6_status sm
        rw [within_1 h1, if_neg i10, if_pos hl]
        refine loop0 (fun f a i => f_X6_status_l1 a1 f a i im) 7 (by omega) (fun a => some (a, im)) _ (fun f a => ?_) (fun f a i hi => ?_) 0
        · show f_X6_status_l1b a1 _ a (nI 7) im = _
          unfold f_X6_status_l1b
          rw [if_pos (by decide)]
        · show f_X6_status_l1b a1 _ a (nI i) im = _
          unfold f_X6_status_l1b
          rw [if_neg (by rw [nI_ge_lit (n := 7) 7 (by decide) (by omega)]; omega)]
          simp only [inb_nI hi (show 7 < 2 ^ 31 by decide), ix_nI (show i < 2 ^ 31 by omega), if_true, bnd_eq, nI_1]
      · rw [e7, sm_cg (fun t ht => by rw [if_pos (Or.inl hl), ← hS t ht])]
    · obtain ⟨k, hk, rfl⟩ := rng_of (n := 6) 6 (by decide) (Int32.not_lt.mp hl) h1.2
      refine ⟨im 73 k, im, im, ?_, ?_, hI⟩
      · unfold f_X6_status
        rw [within_1 h1, if_neg i10, if_neg hl, if_pos (inb_nI (show k < 7 by omega) (by decide)), ix_nI (by omega)]
      · rw [e7, hS k (by omega)]
        have e : sm (fun j => if nI k < 0 ∨ nI j = nI k then im 86 j else 0) 7 = sm (fun j => if j = k then im 86 k else 0) 7 := by
          refine sm_cg (fun t ht => ?_)
          by_cases h : t = k
          · subst h; rw [if_pos (Or.inr rfl), if_pos rfl]
          · rw [if_neg, if_neg h]
            rintro (q | q)
            · exact hl q
            · exact h ((nI_eq (by omega) (by omega)).mp q)
        rw [e]
        have hk7 : k = 0 ∨ k = 1 ∨ k = 2 ∨ k = 3 ∨ k = 4 ∨ k = 5 ∨ k = 6 := by omega
        rcases hk7 with rfl | rfl | rfl | rfl | rfl | rfl | rfl <;> simp [sm, fA]
  · refine bref1 hI ?_ (fun m hm => ?_)
    · unfold f_X6_status
      simp only [within_0 h1, if_true, refuse_1, Option.bind_some]
    · unfold f_X7_status
      simp only [in_m1_6, within_0 h1, if_true, finds_1, Option.bind_some]
