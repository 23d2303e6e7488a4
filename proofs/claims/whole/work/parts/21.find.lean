/-! findings: both sides count them alike -/
theorem agr_up {a b : IM} (h : agr a b) {x i : Nat} {v : Int32} (h1 : ¬ scr x) (h2 : x ≠ 0) (h3 : x ≠ 66) (h4 : x ≠ 82) : agr (up a x i v) (up b x i v) := by
  refine ⟨fun y g1 g2 g3 g4 => ?_, ?_, ?_, ?_, ?_⟩
  · by_cases e : y = x
    · subst e
      funext j
      simp [up, h.1 y h1 h2 h3 h4]
    · rw [up_row e, up_row e]
      exact h.1 y g1 g2 g3 g4
  · rw [up_row (Ne.symm h2), up_row (Ne.symm h2)]; exact h.2.1
  · rw [up_row (Ne.symm h3), up_row (Ne.symm h3)]; exact h.2.2.1
  · rw [up_row (Ne.symm h4), up_row (Ne.symm h4)]; exact h.2.2.2.1
  · rw [up_row (Ne.symm h4), up_row (Ne.symm h4)]; exact h.2.2.2.2
theorem agr_ups {a : IM} {x i : Nat} {v : Int32} (h : scr x ∨ ((x = 0 ∨ x = 66 ∨ x = 82) ∧ ¬ pla x i)) : agr a (up a x i v) := by
  refine ⟨fun y g1 g2 g3 g4 => up_row (fun e => ?_), ?_, ?_, ?_, ?_⟩
  · subst e
    rcases h with h | ⟨h, -⟩
    · exact g1 h
    · omega
  · by_cases e : x = 0
    · subst e
      rcases h with h | ⟨-, h⟩
      · unfold scr at h; omega
      · exact up_ne (fun e => h (Or.inl ⟨Eq.refl _, e.symm⟩))
    · rw [up_row (Ne.symm e)]
  · by_cases e : x = 66
    · subst e
      rcases h with h | ⟨-, h⟩
      · unfold scr at h; omega
      · exact up_ne (fun e => h (Or.inr (Or.inl ⟨Eq.refl _, e.symm⟩)))
    · rw [up_row (Ne.symm e)]
  · by_cases e : x = 82
    · subst e
      rcases h with h | ⟨-, h⟩
      · unfold scr at h; omega
      · exact up_ne (fun e => h (Or.inr (Or.inr ⟨Eq.refl _, Or.inl e.symm⟩)))
    · rw [up_row (Ne.symm e)]
  · by_cases e : x = 82
    · subst e
      rcases h with h | ⟨-, h⟩
      · unfold scr at h; omega
      · exact up_ne (fun e => h (Or.inr (Or.inr ⟨Eq.refl _, Or.inr e.symm⟩)))
    · rw [up_row (Ne.symm e)]
theorem Inv.bump {im : IM} (h : Inv im) {k : Nat} (hk : k < 7) : Inv (up (up im 73 k (im 73 k + 1)) 86 k (im 86 k + 1)) := by
  obtain ⟨⟨V, v1, v2, v3⟩, hK, hS, ⟨q, p1, p2, p3, p4⟩, hH⟩ := h
  have r : ∀ a, a ≠ 73 → a ≠ 86 → (up (up im 73 k (im 73 k + 1)) 86 k (im 86 k + 1)) a = im a := fun a h1 h2 => by rw [up_row h2, up_row h1]
  refine ⟨⟨V, v1.cg (fun a h1 h2 => r a (by omega) (by omega)) v3.1, v2.cg (r 83 (by omega) (by omega)), v3⟩, ?_, fun j hj => ?_, ⟨q, p1, by rw [r 66 (by omega) (by omega)]; exact p2, by rw [r 82 (by omega) (by omega)]; exact p3, fun k hk => by rw [r 67 (by omega) (by omega), r 89 (by omega) (by omega)]; exact p4 k hk⟩, fun i hi => by rw [r (74 + 2 * i) (by omega) (by omega), r (75 + 2 * i) (by omega) (by omega), r 90 (by omega) (by omega), r 91 (by omega) (by omega), r 92 (by omega) (by omega)]; exact hH i hi⟩
  · rcases hK with ⟨k1, k2⟩ | ⟨k1, k2, W, w1, w2, w3⟩
    · exact Or.inl ⟨by rw [r 0 (by omega) (by omega)]; exact k1, by rw [r 82 (by omega) (by omega)]; exact k2⟩
    · exact Or.inr ⟨by rw [r 0 (by omega) (by omega)]; exact k1, by rw [r 82 (by omega) (by omega)]; exact k2, W, w1.cg (fun a h1 h2 => r a (by omega) (by omega)) w3.1, w2.cg (r 84 (by omega) (by omega)), w3⟩
  · rw [up_row (show (73 : Nat) ≠ 86 by decide)]
    by_cases e : j = k
    · subst e
      rw [up_same, up_same, hS j hj]
    · rw [up_ne e, up_ne e, up_row (show (86 : Nat) ≠ 73 by decide)]
      exact hS j hj
theorem ns73 : ¬ scr 73 := by unfold scr; omega
theorem ns86 : ¬ scr 86 := by unfold scr; omega
/-- a call that ends in a finding on both sides -/
theorem fin_ref {im ims ms : IM} {k : Nat} (hk : k < 7) (hI : Inv im) (h1 : agr im ims) (h2 : agr (up ims 73 k (ims 73 k + 1)) ms) : Inv (up ms 86 k (ms 86 k + 1)) := by
  have e1 : ims 73 k = im 73 k := by rw [h1.1 73 ns73 (by decide) (by decide) (by decide)]
  have e2 : ms 86 k = im 86 k := by rw [h2.1 86 ns86 (by decide) (by decide) (by decide), up_row (by decide), h1.1 86 ns86 (by decide) (by decide) (by decide)]
  have a1 : agr (up im 73 k (im 73 k + 1)) ms := by
    refine agr.trans ?_ h2
    rw [e1]
    exact agr_up h1 ns73 (by decide) (by decide) (by decide)
  rw [e2]
  exact (hI.bump hk).agr (agr_up a1 ns86 (by decide) (by decide) (by decide))
theorem i10 : ¬ (1 : Int32) = 0 := by decide
theorem cs_1 : (-1000001 : Int32) - (-1000001) = nI 0 := by decide +kernel
theorem cw_1 : wi (nI 0) 0 6 := by unfold wi; decide +kernel
theorem ci_1 : inb (nI 0) 7 = true := by decide +kernel
theorem cx_1 : ix (nI 0) = 0 := by decide +kernel
theorem refuse_1 {im : IM} : f_X6_refuse (-1000001) im = some (-1000001, up im 73 0 (im 73 0 + 1)) := by
  unfold f_X6_refuse f_X6_refuse_j1
  simp only [bnd_eq, cs_1, within_1 cw_1, ci_1, cx_1, i10, if_true, if_false]
theorem finds_1 {im : IM} : f_X7_finds (-1000001) im = some (-1000001, up im 86 0 (im 86 0 + 1)) := by
  unfold f_X7_finds
  simp only [bnd_eq, cs_1, ci_1, cx_1, if_true]
theorem cs_2 : (-1000001 : Int32) - (-1000002) = nI 1 := by decide +kernel
theorem cw_2 : wi (nI 1) 0 6 := by unfold wi; decide +kernel
theorem ci_2 : inb (nI 1) 7 = true := by decide +kernel
theorem cx_2 : ix (nI 1) = 1 := by decide +kernel
theorem refuse_2 {im : IM} : f_X6_refuse (-1000002) im = some (-1000002, up im 73 1 (im 73 1 + 1)) := by
  unfold f_X6_refuse f_X6_refuse_j1
  simp only [bnd_eq, cs_2, within_1 cw_2, ci_2, cx_2, i10, if_true, if_false]
theorem finds_2 {im : IM} : f_X7_finds (-1000002) im = some (-1000002, up im 86 1 (im 86 1 + 1)) := by
  unfold f_X7_finds
  simp only [bnd_eq, cs_2, ci_2, cx_2, if_true]
theorem cs_3 : (-1000001 : Int32) - (-1000003) = nI 2 := by decide +kernel
theorem cw_3 : wi (nI 2) 0 6 := by unfold wi; decide +kernel
theorem ci_3 : inb (nI 2) 7 = true := by decide +kernel
theorem cx_3 : ix (nI 2) = 2 := by decide +kernel
theorem refuse_3 {im : IM} : f_X6_refuse (-1000003) im = some (-1000003, up im 73 2 (im 73 2 + 1)) := by
  unfold f_X6_refuse f_X6_refuse_j1
  simp only [bnd_eq, cs_3, within_1 cw_3, ci_3, cx_3, i10, if_true, if_false]
theorem finds_3 {im : IM} : f_X7_finds (-1000003) im = some (-1000003, up im 86 2 (im 86 2 + 1)) := by
  unfold f_X7_finds
  simp only [bnd_eq, cs_3, ci_3, cx_3, if_true]
theorem cs_4 : (-1000001 : Int32) - (-1000004) = nI 3 := by decide +kernel
theorem cw_4 : wi (nI 3) 0 6 := by unfold wi; decide +kernel
theorem ci_4 : inb (nI 3) 7 = true := by decide +kernel
theorem cx_4 : ix (nI 3) = 3 := by decide +kernel
theorem refuse_4 {im : IM} : f_X6_refuse (-1000004) im = some (-1000004, up im 73 3 (im 73 3 + 1)) := by
  unfold f_X6_refuse f_X6_refuse_j1
  simp only [bnd_eq, cs_4, within_1 cw_4, ci_4, cx_4, i10, if_true, if_false]
theorem finds_4 {im : IM} : f_X7_finds (-1000004) im = some (-1000004, up im 86 3 (im 86 3 + 1)) := by
  unfold f_X7_finds
  simp only [bnd_eq, cs_4, ci_4, cx_4, if_true]
theorem cs_5 : (-1000001 : Int32) - (-1000005) = nI 4 := by decide +kernel
theorem cw_5 : wi (nI 4) 0 6 := by unfold wi; decide +kernel
theorem ci_5 : inb (nI 4) 7 = true := by decide +kernel
theorem cx_5 : ix (nI 4) = 4 := by decide +kernel
theorem refuse_5 {im : IM} : f_X6_refuse (-1000005) im = some (-1000005, up im 73 4 (im 73 4 + 1)) := by
  unfold f_X6_refuse f_X6_refuse_j1
  simp only [bnd_eq, cs_5, within_1 cw_5, ci_5, cx_5, i10, if_true, if_false]
theorem finds_5 {im : IM} : f_X7_finds (-1000005) im = some (-1000005, up im 86 4 (im 86 4 + 1)) := by
  unfold f_X7_finds
  simp only [bnd_eq, cs_5, ci_5, cx_5, if_true]
theorem cs_6 : (-1000001 : Int32) - (-1000006) = nI 5 := by decide +kernel
theorem cw_6 : wi (nI 5) 0 6 := by unfold wi; decide +kernel
theorem ci_6 : inb (nI 5) 7 = true := by decide +kernel
theorem cx_6 : ix (nI 5) = 5 := by decide +kernel
theorem refuse_6 {im : IM} : f_X6_refuse (-1000006) im = some (-1000006, up im 73 5 (im 73 5 + 1)) := by
  unfold f_X6_refuse f_X6_refuse_j1
  simp only [bnd_eq, cs_6, within_1 cw_6, ci_6, cx_6, i10, if_true, if_false]
theorem finds_6 {im : IM} : f_X7_finds (-1000006) im = some (-1000006, up im 86 5 (im 86 5 + 1)) := by
  unfold f_X7_finds
  simp only [bnd_eq, cs_6, ci_6, cx_6, if_true]
theorem cs_7 : (-1000001 : Int32) - (-1000007) = nI 6 := by decide +kernel
theorem cw_7 : wi (nI 6) 0 6 := by unfold wi; decide +kernel
theorem ci_7 : inb (nI 6) 7 = true := by decide +kernel
theorem cx_7 : ix (nI 6) = 6 := by decide +kernel
theorem refuse_7 {im : IM} : f_X6_refuse (-1000007) im = some (-1000007, up im 73 6 (im 73 6 + 1)) := by
  unfold f_X6_refuse f_X6_refuse_j1
  simp only [bnd_eq, cs_7, within_1 cw_7, ci_7, cx_7, i10, if_true, if_false]
theorem finds_7 {im : IM} : f_X7_finds (-1000007) im = some (-1000007, up im 86 6 (im 86 6 + 1)) := by
  unfold f_X7_finds
  simp only [bnd_eq, cs_7, ci_7, cx_7, if_true]
/-- a call that both sides refuse at once -/
theorem both_ref {im : IM} (hI : Inv im) {k : Nat} (hk : k < 7) {fx : Option (Int32 × IM)} {fm : IM → Option (Int32 × IM)} {r : Int32} (h1 : fx = some (r, up im 73 k (im 73 k + 1))) (h2 : ∀ m, m = up im 73 k (im 73 k + 1) → fm m = some (r, up m 86 k (m 86 k + 1))) : ∃ (r : Int32) (m1 m2 : IM), fx = some (r, m1) ∧ fm m1 = some (r, m2) ∧ Inv m2 :=
  ⟨_, _, _, h1, h2 _ rfl, fin_ref hk hI agr.rfl agr.rfl⟩
