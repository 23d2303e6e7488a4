theorem lp_put : LP_put Inv := by
  intro im hI a1 a2
  obtain ⟨⟨V, v1, v2, v3⟩, -⟩ := id hI
  by_cases h1 : ∃ t, t < vN V ∧ a1 = nI t
  · obtain ⟨t, ht, rfl⟩ := h1
    have ht10 : t < 10 := by have := v3.1; omega
    have ok := v3.2.2.2.1 t ht
    have th1 := thing_1 v3.1 v1.2.2.2.2.1 ht
    have i31 : ix (nI t) = t := ix_nI (by omega)
    have ib := inb_nI ht10 (show 10 < 2 ^ 31 by decide)
    by_cases h2 : wi a2 0 30
    · let m1 : IM := up (up (up im (6 + t) 4 a2) (6 + t) 6 0) (6 + t) 5 0
      have hm : m1 83 = im 83 := by show (up (up (up im (6 + t) 4 a2) (6 + t) 6 0) (6 + t) 5 0) 83 = im 83; rw [up_row (by omega), up_row (by omega), up_row (by omega)]
      refine ⟨vT V t 4, m1, up (up (up m1 83 (67 + 9 * t + 4) a2) 83 (67 + 9 * t + 5) 0) 83 (67 + 9 * t + 6) 0, ?_, ?_, ?_⟩
      · unfold f_X6_put f_X6_isCell f_X4_stop
        simp only [th1, within_1 h2, zb_1, i10, if_false, ib, if_true, i31, bnd_eq, row_c v1 ht (show 4 < 8 by decide)]
        rfl
      · unfold f_X7_put f_X7_isCell
        simp only [thing7_1 v3.1 (show m1 83 1 = nI (vN V) by rw [hm]; exact v2.2.2.2.2.1) ht, in_0_30, within_1 h2, zb_1, i10, if_false, its_w (w := 4) 4 rfl ht10 (by decide), Option.bind_some, at_in (w := 4) 4 rfl ht10 (by decide), at_in (w := 5) 5 rfl ht10 (by decide), at_in (w := 6) 6 rfl ht10 (by decide), at_ix (w := 4) 4 rfl ht10 (by decide), at_ix (w := 5) 5 rfl ht10 (by decide), at_ix (w := 6) 6 rfl ht10 (by decide), if_true, bnd_eq, hm, row_r v2 ht (show 4 < 8 by decide)]
      · refine hI.thing v1 v2 v3 ht (x := fun w => if w = 4 then a2 else if w = 5 then 0 else if w = 6 then 0 else vT V t w) ?_ (fun a h3 h4 => ?_) (fun w hw => ?_) (fun w hw => ?_) (fun k hk => ?_)
        · obtain ⟨o0, o1, o2, o3, o4, o5, o6, o7⟩ := ok
          exact ⟨o0, o1, o2, o3, h2, show wi (0 : Int32) 0 99 by unfold wi; decide, show wi (0 : Int32) 0 3 by unfold wi; decide, fun q => absurd (show (0 : Int32) = 1 from q) (by decide)⟩
        · rw [up_row h4, up_row h4, up_row h4]
          show (up (up (up im (6 + t) 4 a2) (6 + t) 6 0) (6 + t) 5 0) a = im a
          rw [up_row h3, up_row h3, up_row h3]
        · rw [up_row (by omega), up_row (by omega), up_row (by omega)]
          show (up (up (up im (6 + t) 4 a2) (6 + t) 6 0) (6 + t) 5 0) (6 + t) w = _
          by_cases c5 : w = 5
          · subst c5; rw [up_same]; simp
          · rw [up_ne c5]
            by_cases c6 : w = 6
            · subst c6; rw [up_same]; simp
            · rw [up_ne c6]
              by_cases c4 : w = 4
              · subst c4; rw [up_same]; simp
              · rw [up_ne c4, row_c v1 ht hw]; simp [c4, c5, c6]
        · by_cases c6 : w = 6
          · subst c6; rw [up_same]; simp
          · rw [up_ne (by omega)]
            by_cases c5 : w = 5
            · subst c5; rw [up_same]; simp
            · rw [up_ne (by omega)]
              by_cases c4 : w = 4
              · subst c4; rw [up_same]; simp
              · rw [up_ne (by omega), hm, row_r v2 ht hw]; simp [c4, c5, c6]
        · rw [up_ne (by omega), up_ne (by omega), up_ne (by omega), hm]
    · refine bref1 hI ?_ (fun m hm => ?_)
      · unfold f_X6_put f_X6_put_j1 f_X6_isCell
        simp only [th1, within_0 h2, zb_0, i10, if_false, if_true, refuse_1, Option.bind_some]
      · unfold f_X7_put f_X7_put_j1 f_X7_isCell
        simp only [thing7_1 v3.1 (show m 83 1 = nI (vN V) by rw [hm, up_row (by decide)]; exact v2.2.2.2.2.1) ht, in_0_30, within_0 h2, zb_0, i10, if_false, if_true, finds_1, Option.bind_some]
  · refine bref1 hI ?_ (fun m hm => ?_)
    · unfold f_X6_put f_X6_put_j1
      simp only [thing_0 v3.1 v1.2.2.2.2.1 h1, if_true, refuse_1, Option.bind_some]
    · unfold f_X7_put f_X7_put_j1
      simp only [thing7_0 v3.1 (show m 83 1 = nI (vN V) by rw [hm, up_row (by decide)]; exact v2.2.2.2.2.1) h1, if_true, finds_1, Option.bind_some]
theorem lp_hold : LP_hold Inv := by
  intro im hI a1 a2
  obtain ⟨⟨V, v1, v2, v3⟩, -⟩ := id hI
  by_cases h1 : wi a1 0 9
  · have good : (a2 = -1 ∨ ∃ t, t < vN V ∧ a2 = nI t) → ∃ (r : Int32) (m1 m2 : IM), f_X6_hold a1 a2 im = some (r, m1) ∧ f_X7_hold a1 a2 m1 = some (r, m2) ∧ Inv m2 := by
      intro h2
      obtain ⟨j, hj, rfl⟩ := rng_of (n := 9) 9 (by decide) h1.1 h1.2
      have hm : (up im 5 j a2) 83 = im 83 := up_row (by decide)
      have e1 : f_X6_hold (nI j) a2 im = some (1, up im 5 j a2) := by
        unfold f_X6_hold f_X6_hold_j2
        rw [within_1 h1]
        simp only [i10, if_false, inb_nI (show j < 10 by omega) (by decide), if_true, ix_nI (show j < 2 ^ 31 by omega), bnd_eq]
        rcases h2 with rfl | ⟨t, ht, rfl⟩
        · rw [if_pos rfl]
        · rw [thing_1 v3.1 v1.2.2.2.2.1 ht, if_neg i10]
          exact ite_self _
      have e2 : f_X7_hold (nI j) a2 (up im 5 j a2) = some (1, up (up im 5 j a2) 83 (157 + j) a2) := by
        unfold f_X7_hold f_X7_hold_j2
        rw [in_0_9, within_1 h1]
        simp only [i10, if_false, lit_add 157 (k := 157) rfl, inb_nI (show 157 + j < 167 by omega) (by decide), if_true, ix_nI (show 157 + j < 2 ^ 31 by omega), bnd_eq]
        rcases h2 with rfl | ⟨t, ht, rfl⟩
        · rw [if_pos rfl]
        · rw [thing7_1 v3.1 (show (up im 5 j (nI t)) 83 1 = nI (vN V) by rw [hm]; exact v2.2.2.2.2.1) ht, if_neg i10]
          exact ite_self _
      refine ⟨1, _, _, e1, e2, hI.town (fun a h3 h4 => by rw [up_row h4, up_row (by omega)]) ⟨setS V j a2, (RC_S v1).cg (fun a h3 h4 => up_row (by omega)) v3.1, RR_S (v2.cg hm) v3.1 (by omega), v3.S h2⟩⟩
    by_cases c : a2 = -1
    · exact good (Or.inl c)
    · by_cases h2 : ∃ t, t < vN V ∧ a2 = nI t
      · exact good (Or.inr h2)
      · refine bref1 hI ?_ (fun m hm => ?_)
        · unfold f_X6_hold f_X6_hold_j1
          simp only [within_1 h1, i10, if_false, c, thing_0 v3.1 v1.2.2.2.2.1 h2, if_true, refuse_1, Option.bind_some]
        · unfold f_X7_hold f_X7_hold_j1
          simp only [in_0_9, within_1 h1, i10, if_false, c, thing7_0 v3.1 (show m 83 1 = nI (vN V) by rw [hm, up_row (by decide)]; exact v2.2.2.2.2.1) h2, if_true, finds_1, Option.bind_some]
  · refine bref1 hI ?_ (fun m hm => ?_)
    · unfold f_X6_hold f_X6_hold_j1
      simp only [within_0 h1, if_true, refuse_1, Option.bind_some]
    · unfold f_X7_hold f_X7_hold_j1
      simp only [in_0_9, within_0 h1, if_true, finds_1, Option.bind_some]
