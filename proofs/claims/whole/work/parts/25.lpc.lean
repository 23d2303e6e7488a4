theorem in_0_6 (x : Int32) : f_X7_in x.toInt64 0 6 = f_X6_within x 0 6 := in_lit (by decide) (by decide)
theorem in_1_99 (x : Int32) : f_X7_in x.toInt64 1 99 = f_X6_within x 1 99 := in_lit (by decide) (by decide)
theorem in_1_9 (x : Int32) : f_X7_in x.toInt64 1 9 = f_X6_within x 1 9 := in_lit (by decide) (by decide)
theorem in_0_9 (x : Int32) : f_X7_in x.toInt64 0 9 = f_X6_within x 0 9 := in_lit (by decide) (by decide)
theorem in_0_30 (x : Int32) : f_X7_in x.toInt64 0 30 = f_X6_within x 0 30 := in_lit (by decide) (by decide)
theorem in_0_4 (x : Int32) : f_X7_in x.toInt64 0 4 = f_X6_within x 0 4 := in_lit (by decide) (by decide)
theorem in_0_1 (x : Int32) : f_X7_in x.toInt64 0 1 = f_X6_within x 0 1 := in_lit (by decide) (by decide)
theorem in_0_8 (x : Int32) : f_X7_in x.toInt64 0 8 = f_X6_within x 0 8 := in_lit (by decide) (by decide)
theorem in_m9_9 (x : Int32) : f_X7_in x.toInt64 (-9) 9 = f_X6_within x (-9) 9 := in_lit (by decide) (by decide)
theorem in_0_59 (x : Int32) : f_X7_in x.toInt64 0 59 = f_X6_within x 0 59 := in_lit (by decide) (by decide)
theorem in_0_9999 (x : Int32) : f_X7_in x.toInt64 0 9999 = f_X6_within x 0 9999 := in_lit (by decide) (by decide)
theorem in_1_120 (x : Int32) : f_X7_in x.toInt64 1 120 = f_X6_within x 1 120 := in_lit (by decide) (by decide)
theorem in_0_3 (x : Int32) : f_X7_in x.toInt64 0 3 = f_X6_within x 0 3 := in_lit (by decide) (by decide)
theorem in_0_200 (x : Int32) : f_X7_in x.toInt64 0 200 = f_X6_within x 0 200 := in_lit (by decide) (by decide)
theorem in_1_999 (x : Int32) : f_X7_in x.toInt64 1 999 = f_X6_within x 1 999 := in_lit (by decide) (by decide)
theorem in_1_20 (x : Int32) : f_X7_in x.toInt64 1 20 = f_X6_within x 1 20 := in_lit (by decide) (by decide)
theorem in_1_4 (x : Int32) : f_X7_in x.toInt64 1 4 = f_X6_within x 1 4 := in_lit (by decide) (by decide)
theorem in_97_122 (x : Int32) : f_X7_in x.toInt64 97 122 = f_X6_within x 97 122 := in_lit (by decide) (by decide)
theorem in_48_57 (x : Int32) : f_X7_in x.toInt64 48 57 = f_X6_within x 48 57 := in_lit (by decide) (by decide)
theorem in_m1_6 (x : Int32) : f_X7_in x.toInt64 (-1) 6 = f_X6_within x (-1) 6 := in_lit (by decide) (by decide)
theorem Inv.thing {im m2 : IM} (hI : Inv im) {V : TV} (v1 : RC im 1 V) (v2 : RR im 83 V) (v3 : OkV V) {t : Nat} (ht : t < vN V) {x : Nat → Int32} (hx : OkT x) (ho : ∀ a, a ≠ 6 + t → a ≠ 83 → m2 a = im a) (hc : ∀ w, w < 8 → m2 (6 + t) w = x w) (hr : ∀ w, w < 8 → m2 83 (67 + 9 * t + w) = x w) (hr2 : ∀ k, (k < 67 + 9 * t ∨ 67 + 9 * t + 8 < k) → m2 83 k = im 83 k) : Inv m2 := by
  have hn := v3.1
  exact hI.town (fun a h3 h4 => ho a (by omega) h4) ⟨setR V t x, RC_row v1 v3.1 x hc (fun a h3 h4 h5 => ho a (by omega) (by omega)), RR_row v2 v3.1 (by omega) x hr hr2, v3.R hx⟩
/-- the row t with one place changed -/
def xw (V : TV) (t k : Nat) (v : Int32) : Nat → Int32 := fun w => if w = k then v else vT V t w
theorem up_xw {im : IM} {V : TV} {t k : Nat} {v : Int32} (v1 : RC im 1 V) (ht : t < vN V) {w : Nat} (hw : w < 8) : up im (6 + t) k v (6 + t) w = xw V t k v w := by
  by_cases e : w = k
  · subst e; rw [up_same]; simp [xw]
  · rw [up_ne e, row_c v1 ht hw]; simp [xw, e]
theorem up_xr {im : IM} {V : TV} {t k : Nat} {v : Int32} (v2 : RR im 83 V) (ht : t < vN V) {w : Nat} (hw : w < 8) : up im 83 (67 + 9 * t + k) v 83 (67 + 9 * t + w) = xw V t k v w := by
  by_cases e : w = k
  · subst e; rw [up_same]; simp [xw]
  · rw [up_ne (by omega), row_r v2 ht hw]; simp [xw, e]
theorem OkT_0 {x : Nat → Int32} (h : OkT x) {v : Int32} (hv : wi v 0 6) : OkT (fun w => if w = 0 then v else x w) := ⟨hv, h.2⟩
theorem OkT_1 {x : Nat → Int32} (h : OkT x) {v : Int32} (hv : wi v 1 99) : OkT (fun w => if w = 1 then v else x w) := ⟨h.1, hv, h.2.2⟩
theorem OkT_2 {x : Nat → Int32} (h : OkT x) {v : Int32} (hv : wi v 1 9) : OkT (fun w => if w = 2 then v else x w) := ⟨h.1, h.2.1, hv, h.2.2.2⟩
theorem OkT_3 {x : Nat → Int32} (h : OkT x) {v : Int32} (hv : wi v 0 9) : OkT (fun w => if w = 3 then v else x w) := ⟨h.1, h.2.1, h.2.2.1, hv, h.2.2.2.2⟩
/-- one place of a thing is written on both sides -/
theorem Inv.place {im : IM} (hI : Inv im) {V : TV} (v1 : RC im 1 V) (v2 : RR im 83 V) (v3 : OkV V) {t k : Nat} (ht : t < vN V) (hk : k < 8) {v : Int32} (hx : OkT (xw V t k v)) : Inv (up (up im (6 + t) k v) 83 (67 + 9 * t + k) v) := by
  have hn := v3.1
  refine hI.thing v1 v2 v3 ht hx (fun a h1 h2 => by rw [up_row h2, up_row h1]) (fun w hw => by rw [up_row (by omega)]; exact up_xw v1 ht hw) (fun w hw => ?_) (fun j hj => by rw [up_ne (by omega), up_row (by omega)])
  exact up_xr (v2.cg (up_row (by omega))) ht hw
theorem lp_change : LP_change Inv := by
  intro im hI a1 a2 a3
  obtain ⟨⟨V, v1, v2, v3⟩, -⟩ := id hI
  by_cases h1 : ∃ t, t < vN V ∧ a1 = nI t
  · obtain ⟨t, ht, rfl⟩ := h1
    have ht10 : t < 10 := by have := v3.1; omega
    have ok := v3.2.2.2.1 t ht
    have th1 := thing_1 v3.1 v1.2.2.2.2.1 ht
    have i31 : ix (nI t) = t := ix_nI (by omega)
    have ib := inb_nI ht10 (show 10 < 2 ^ 31 by decide)
    have key : ∀ (k : Nat) (K : Int32) (lo hi : Int32), K = nI k → k < 4 → wi a3 lo hi → f_X7_isPart K a3 = 1 → f_X6_change (nI t) K a3 im = some (im (6 + t) k, up im (6 + t) k a3) → OkT (xw V t k a3) → ∃ (r : Int32) (m1 m2 : IM), f_X6_change (nI t) K a3 im = some (r, m1) ∧ f_X7_change (nI t) K a3 m1 = some (r, m2) ∧ Inv m2 := by
      intro k K lo hi hK hk4 hw hp hx hok
      refine ⟨vT V t k, up im (6 + t) k a3, _, by rw [hx, row_c v1 ht (by omega)], ?_, hI.place v1 v2 v3 ht (by omega) hok⟩
      have hm : (up im (6 + t) k a3) 83 = im 83 := up_row (by omega)
      unfold f_X7_change
      simp only [thing7_1 v3.1 (show (up im (6 + t) k a3) 83 1 = nI (vN V) by rw [hm]; exact v2.2.2.2.2.1) ht, i10, if_false, hp, its_w K hK ht10 (show k < 9 by omega), Option.bind_some, at_in K hK ht10 (show k < 9 by omega), at_ix K hK ht10 (show k < 9 by omega), if_true, bnd_eq, hm, row_r v2 ht (show k < 8 by omega)]
    have no : (∀ m : IM, m 83 1 = nI (vN V) → f_X7_isPart a2 a3 = 0) → f_X6_change (nI t) a2 a3 im = some (-1000001, up im 73 0 (im 73 0 + 1)) → ∃ (r : Int32) (m1 m2 : IM), f_X6_change (nI t) a2 a3 im = some (r, m1) ∧ f_X7_change (nI t) a2 a3 m1 = some (r, m2) ∧ Inv m2 := by
      intro hp hx
      refine bref1 hI hx (fun m hm => ?_)
      have hm1 : m 83 1 = nI (vN V) := by rw [hm, up_row (by decide)]; exact v2.2.2.2.2.1
      unfold f_X7_change f_X7_change_j1
      simp only [thing7_1 v3.1 hm1 ht, i10, if_false, hp m hm1, if_true, finds_1, Option.bind_some]
    by_cases c0 : a2 = 0
    · subst c0
      by_cases hw : wi a3 0 6
      · refine key 0 0 0 6 rfl (by decide) hw ?_ ?_ (OkT_0 ok hw)
        · unfold f_X7_isPart
          simp only [in_0_6, if_true, within_1 hw, zb_1]
        · unfold f_X6_change f_X6_change_j5 f_X6_isKind
          simp only [th1, i10, if_false, ib, if_true, i31, within_1 hw, zb_1, bnd_eq]
      · refine no (fun _ _ => ?_) ?_
        · unfold f_X7_isPart
          simp only [in_0_6, if_true, within_0 hw, zb_0]
        · unfold f_X6_change f_X6_change_j1 f_X6_change_j2 f_X6_change_j3 f_X6_change_j4 f_X6_isKind
          simp only [th1, i10, if_false, ib, if_true, within_0 hw, zb_0, show ¬ (0 : Int32) = 1 by decide, show ¬ (0 : Int32) = 2 by decide, show ¬ (0 : Int32) = 3 by decide, refuse_1, Option.bind_some]
    · by_cases c1 : a2 = 1
      · subst c1
        by_cases hw : wi a3 1 99
        · refine key 1 1 1 99 rfl (by decide) hw ?_ ?_ (OkT_1 ok hw)
          · unfold f_X7_isPart
            simp only [in_1_99, i10, if_false, if_true, within_1 hw, zb_1]
          · unfold f_X6_change f_X6_change_j1 f_X6_change_j5 f_X6_isWeight
            simp only [th1, i10, if_false, ib, if_true, i31, within_1 hw, zb_1, bnd_eq]
        · refine no (fun _ _ => ?_) ?_
          · unfold f_X7_isPart
            simp only [in_1_99, i10, if_false, if_true, within_0 hw, zb_0]
          · unfold f_X6_change f_X6_change_j1 f_X6_change_j2 f_X6_change_j3 f_X6_change_j4 f_X6_isWeight
            simp only [th1, i10, if_false, ib, if_true, within_0 hw, zb_0, show ¬ (1 : Int32) = 2 by decide, show ¬ (1 : Int32) = 3 by decide, refuse_1, Option.bind_some]
      · by_cases c2 : a2 = 2
        · subst c2
          by_cases hw : wi a3 1 9
          · refine key 2 2 1 9 rfl (by decide) hw ?_ ?_ (OkT_2 ok hw)
            · unfold f_X7_isPart
              simp only [in_1_9, c0, c1, if_false, if_true, within_1 hw, zb_1]
            · unfold f_X6_change f_X6_change_j1 f_X6_change_j2 f_X6_change_j5 f_X6_isRolls
              simp only [th1, i10, c0, c1, if_false, ib, if_true, i31, within_1 hw, zb_1, bnd_eq]
          · refine no (fun _ _ => ?_) ?_
            · unfold f_X7_isPart
              simp only [in_1_9, c0, c1, if_false, if_true, within_0 hw, zb_0]
            · unfold f_X6_change f_X6_change_j1 f_X6_change_j2 f_X6_change_j3 f_X6_change_j4 f_X6_isRolls
              simp only [th1, i10, c0, c1, if_false, ib, if_true, within_0 hw, zb_0, show ¬ (2 : Int32) = 3 by decide, refuse_1, Option.bind_some]
        · by_cases c3 : a2 = 3
          · subst c3
            by_cases hw : wi a3 0 9
            · refine key 3 3 0 9 rfl (by decide) hw ?_ ?_ (OkT_3 ok hw)
              · unfold f_X7_isPart
                simp only [in_0_9, c0, c1, c2, i10, if_false, if_true, within_1 hw]
              · unfold f_X6_change f_X6_change_j1 f_X6_change_j2 f_X6_change_j3 f_X6_change_j5 f_X6_isLean
                simp only [th1, i10, c0, c1, c2, if_false, ib, if_true, i31, within_1 hw, zb_1, bnd_eq]
            · refine no (fun _ _ => ?_) ?_
              · unfold f_X7_isPart f_X7_isPart_j1
                simp only [in_0_9, c0, c1, c2, if_false, if_true, within_0 hw]
              · unfold f_X6_change f_X6_change_j1 f_X6_change_j2 f_X6_change_j3 f_X6_change_j4 f_X6_isLean
                simp only [th1, i10, c0, c1, c2, if_false, ib, if_true, within_0 hw, zb_0, refuse_1, Option.bind_some]
          · refine no (fun _ _ => ?_) ?_
            · unfold f_X7_isPart f_X7_isPart_j1
              simp only [c0, c1, c2, c3, if_false]
            · unfold f_X6_change f_X6_change_j1 f_X6_change_j2 f_X6_change_j3 f_X6_change_j4
              simp only [th1, i10, c0, c1, c2, c3, if_false, ib, if_true, refuse_1, Option.bind_some]
  · refine bref1 hI ?_ (fun m hm => ?_)
    · unfold f_X6_change
      simp only [thing_0 v3.1 v1.2.2.2.2.1 h1, if_true, refuse_1, Option.bind_some]
    · unfold f_X7_change f_X7_change_j1
      simp only [thing7_0 v3.1 (show m 83 1 = nI (vN V) by rw [hm, up_row (by decide)]; exact v2.2.2.2.2.1) h1, if_true, finds_1, Option.bind_some]
/-! what a fall gains, what a ground drags, the top of a bend -/
def pGain (x : Nat → Int32) (f : Int32) : Int32 := if x 0 = 1 then f * x 2 + 2 else if x 0 = 2 then f * x 2 else if x 0 = 3 then f * x 2 + 2 + x 1 / 10 else if x 0 = 4 then f * x 2 else if x 0 = 5 then f * x 2 + 2 else if x 0 = 6 then jmin (f * x 2) 0 else f * x 2
def pPD (s : Int32) : Int32 := if s = 1 then 12 else if s = 2 then 30 else if s = 3 then 4 else 2
def pDrag (x : Nat → Int32) (s : Int32) : Int32 := if x 0 = 2 then pPD s + x 3 else if x 0 = 4 then (if s = 2 then pPD s + x 3 - 10 else pPD s + x 3 - 0) else if x 0 = 5 then pPD s / 2 else pPD s
def pTop (x : Nat → Int32) : Int32 := if x 0 = 1 then 30 else if x 0 = 5 then 30 else if x 0 = 3 then 55 else if x 0 = 2 then 40 - 3 * x 3 else if x 0 = 4 then 40 - 3 * x 3 else 40
theorem gain_c {im : IM} {a : Nat} {f : Int32} : f_X4_gainFrom a f im = pGain (im a) f := by
  unfold f_X4_gainFrom f_X4_gainFrom_j1 f_X4_gainFrom_j2 pGain
  simp only [bnd_eq]
theorem top_c {im : IM} {a : Nat} : f_X4_bendLimit a im = pTop (im a) := by
  unfold f_X4_bendLimit f_X4_bendLimit_j1 f_X4_bendLimit_j2 pTop
  by_cases c1 : im a 0 = 1
  · simp [c1]
  · by_cases c5 : im a 0 = 5
    · simp [c5]
    · simp only [c1, c5, if_false]
      by_cases c2 : im a 0 = 2
      · simp [c2]
      · by_cases c3 : im a 0 = 3
        · simp [c3]
        · simp only [c2, c3, if_false]
theorem pd_5 : ∀ k, k < 5 → xPD k = pPD (nI k) := by decide +kernel
theorem drag_c {im : IM} {a : Nat} {s : Int32} (hs : wi s 0 4) : f_X4_dragOn a s im = some (pDrag (im a) s) := by
  obtain ⟨k, hk, rfl⟩ := rng_of (n := 4) 4 (by decide) hs.1 hs.2
  unfold f_X4_dragOn f_X4_dragOn_j1 f_X4_dragOn_j2 f_X4_dragOn_j3 pDrag
  simp only [within_1 hs, i10, if_false, inb_nI (show k < 5 by omega) (by decide), if_true, ix_nI (show k < 2 ^ 31 by omega), pd_5 k (by omega)]
  by_cases c2 : im a 0 = 2
  · simp [c2]
  · by_cases c3 : im a 0 = 3
    · simp [c3]
    · by_cases c4 : im a 0 = 4
      · simp only [c2, c3, c4, if_false, if_true, show ¬ (4 : Int32) = 2 by decide, show ¬ (4 : Int32) = 3 by decide]
        by_cases d2 : nI k = 2
        · simp only [d2, if_true]
        · simp only [d2, if_false]
      · by_cases c5 : im a 0 = 5
        · simp [c5]
        · simp only [c2, c3, c4, c5, if_false]
