theorem lp_behind : LP_behind Inv := by
  intro im hI a1 a2
  obtain ⟨⟨V, v1, v2, v3⟩, -⟩ := id hI
  have h10 := v3.1
  have ok := v3.l
  by_cases ht : ∃ t, t < vN V ∧ a1 = nI t
  · obtain ⟨a, ha, rfl⟩ := ht
    by_cases hu : ∃ t, t < vN V ∧ a2 = nI t
    · obtain ⟨b, hb, rfl⟩ := hu
      by_cases hab : a = b
      · subst hab
        refine bref1 hI ?_ (fun m hm => ?_)
        · unfold f_X6_behind f_X6_behind_j1
          rw [thing_1 h10 v1.2.2.2.2.1 ha, if_neg i10, if_neg i10, if_pos rfl, refuse_1, Option.bind_some]
        · have h83 : m 83 = im 83 := by rw [hm, up_row (by decide)]
          unfold f_X7_behind f_X7_behind_j1
          rw [thing7_1 h10 (by rw [h83]; exact v2.2.2.2.2.1) ha, if_neg i10, if_neg i10, if_pos rfl, finds_1, Option.bind_some]
      · have nab : ¬ nI a = nI b := fun z => hab (nI_u (by omega) (by omega) z)
        have iba := inb_nI (show a < 10 by omega) (show 10 < 2 ^ 31 by decide)
        have ibb := inb_nI (show b < 10 by omega) (show 10 < 2 ^ 31 by decide)
        have ita : ix (nI a) = a := ix_nI (by omega)
        have itb : ix (nI b) = b := ix_nI (by omega)
        have r6a : im (6 + a) 6 = vT V a 6 := v1.2.2.1 a ha 6 (by decide)
        have r4a : im (6 + a) 4 = vT V a 4 := v1.2.2.1 a ha 4 (by decide)
        have r6b : im (6 + b) 6 = vT V b 6 := v1.2.2.1 b hb 6 (by decide)
        have r4b : im (6 + b) 4 = vT V b 4 := v1.2.2.1 b hb 4 (by decide)
        have k6a : im 83 (67 + 9 * a + 6) = vT V a 6 := v2.2.2.1 a ha 6 (by decide)
        have k4a : im 83 (67 + 9 * a + 4) = vT V a 4 := v2.2.2.1 a ha 4 (by decide)
        have k6b : im 83 (67 + 9 * b + 6) = vT V b 6 := v2.2.2.1 b hb 6 (by decide)
        have k4b : im 83 (67 + 9 * b + 4) = vT V b 4 := v2.2.2.1 b hb 4 (by decide)
        have w4a : wi (im 83 (67 + 9 * a + 4)) 0 30 := by rw [k4a]; exact (ok.2.2.2.1 a ha).2.2.2.2.1
        have w4b : wi (im 83 (67 + 9 * b + 4)) 0 30 := by rw [k4b]; exact (ok.2.2.2.1 b hb).2.2.2.2.1
        have eC : f_X6_behind (nI a) (nI b) im = if f_X6_standTogether (6 + a) (6 + b) im = 0 then f_X6_behind_j2 (nI a) (nI b) im else if f_X6_isTooLateToWait im = 0 then (f_X5_become 31 1 im).bind fun r5 => (f_X5_clearAllBut 31 ((jshl 1 (nI a)) ||| (jshl 1 (nI b))) r5).bind fun r6 => bnd (f_X4_letGo (36 + a) 10 r6) fun m8 => f_X6_behind_l3 (nI a) (nI b) xF 1 m8 else f_X6_behind_j2 (nI a) (nI b) im := by
          unfold f_X6_behind
          rw [thing_1 h10 v1.2.2.2.2.1 ha, if_neg i10, thing_1 h10 v1.2.2.2.2.1 hb, if_neg i10, if_neg nab, if_pos iba, if_pos ibb, ita, itb]
          simp only [if_pos iba]
        have eR : ∀ m : IM, m 83 = im 83 → f_X7_behind (nI a) (nI b) m = (f_X7_isReady (nI a) m).bind fun r2 => if r2 = 0 then f_X7_behind_j2 (nI a) (nI b) m else (f_X7_isReady (nI b) m).bind fun r4 => if r4 = 0 then f_X7_behind_j2 (nI a) (nI b) m else if vT V a 4 = vT V b 4 then if f_X7_isTooLate 259 m = 0 then (f_X7_puts m).bind fun r7 => f_X7_behind_l3 (nI a) (nI b) xF (-1) 1 r7 else f_X7_behind_j2 (nI a) (nI b) m else f_X7_behind_j2 (nI a) (nI b) m := by
          intro m hm
          unfold f_X7_behind
          rw [thing7_1 h10 (by rw [hm]; exact v2.2.2.2.2.1) ha, if_neg i10, thing7_1 h10 (by rw [hm]; exact v2.2.2.2.2.1) hb, if_neg i10, if_neg nab, its_w (w := 4) 4 rfl (by omega) (by decide), Option.bind_some, its_w (w := 4) 4 rfl (by omega) (by decide), Option.bind_some, hm, k4a, k4b]
        have st1 : rdy V a ∧ rdy V b ∧ vT V a 4 = vT V b 4 → f_X6_standTogether (6 + a) (6 + b) im = 1 := by
          rintro ⟨h1, h2, h3⟩
          unfold f_X6_standTogether
          rw [ready_1 (by rw [r6a, r4a]; exact h1), if_neg i10, ready_1 (by rw [r6b, r4b]; exact h2), if_neg i10, r4a, r4b, if_pos h3]
        have st0 : ¬ (rdy V a ∧ rdy V b ∧ vT V a 4 = vT V b 4) → f_X6_standTogether (6 + a) (6 + b) im = 0 := by
          intro h
          unfold f_X6_standTogether f_X6_standTogether_j1
          by_cases c1 : rdy V a
          · rw [ready_1 (by rw [r6a, r4a]; exact c1), if_neg i10]
            by_cases c2 : rdy V b
            · rw [ready_1 (by rw [r6b, r4b]; exact c2), if_neg i10, r4a, r4b, if_neg (fun z => h ⟨c1, c2, z⟩)]
            · rw [ready_0 (by rw [r6b, r4b]; exact c2), if_pos rfl]
          · rw [ready_0 (by rw [r6a, r4a]; exact c1), if_pos rfl]
        by_cases hc : (rdy V a ∧ rdy V b ∧ vT V a 4 = vT V b 4) ∧ vM V ≤ 9740
        · obtain ⟨⟨ra, rb, r4⟩, hl⟩ := id hc
          obtain ⟨mb, eb, rb1, ob⟩ := become_c (im := im) (T := 31) (S := 1) (by omega) v1 h10
          obtain ⟨mc, ec, rc, oc⟩ := clear_c rb1 h10 ha hb
          obtain ⟨rl, ol⟩ := letV_c (t := a) (sp := 10) rc h10 ha
          have ta : vT (clrV V a b 2) a = vT V a := by rw [clrV_T ha]; unfold clrRow; rw [if_pos (Or.inl rfl)]
          have tb : vT (clrV V a b 2) b = vT V b := by rw [clrV_T hb]; unfold clrRow; rw [if_pos (Or.inr rfl)]
          have okC : OkL (letV (clrV V a b 2) a 10) := letV_ok (clrV_ok ok (by unfold wi; decide) (by decide)) ha (by rw [ta]; exact ra.2)
          have hS : Sim a b (clrV V a b 2) (clrV V a b 3) := by
            refine ⟨⟨rfl, rfl, rfl, rfl, rfl, rfl⟩, ⟨ha, hb⟩, fun t ht => ?_, fun t ht hn => ?_⟩
            · have htN : t < vN V := by rcases ht with z | z <;> rw [z] <;> assumption
              rw [clrV_T htN, clrV_T htN]
              unfold clrRow
              rw [if_pos ht, if_pos ht]
            · have ht : t < vN V := ht
              rw [clrV_T ht, clrV_T ht]
              unfold clrRow
              rw [if_neg hn, if_neg hn, pl_same, pl_same]
              exact ⟨by decide, by decide⟩
          have hS2 := hS.lt (Or.inl rfl) 10
          have tb2 : vT (letV (clrV V a b 2) a 10) b = vT V b := by
            show (if b = a then _ else vT (clrV V a b 2) b) = _
            rw [if_neg (Ne.symm hab), tb]
          obtain ⟨⟨c, m⟩, e, o, d0, d1, d2, d3⟩ := behind_c rl okC hS2.l hab (by unfold rdy; rw [tb2]; exact rb)
          have e : f_X6_behind_l3 (nI a) (nI b) xF 1 (f_X4_letGo (36 + a) 10 mc) = (if c = 60 then (f_X6_refuse (-1000004) m).bind fun r4 => some (r4.1, r4.2) else some (nI c, m)) := e
          have oo : ∀ x, ¬ (31 ≤ x ∧ x < 61) → m x = im x := fun x hx => by
            rw [show m x = f_X4_letGo (36 + a) 10 mc x from o x hx, ol x (by omega), oc x (by omega), ob x (by omega)]
          have d0 : 1 ≤ c := d0
          have d1 : c ≤ 60 := d1
          have eC2 : f_X6_behind (nI a) (nI b) im = (if c = 60 then (f_X6_refuse (-1000004) m).bind fun r4 => some (r4.1, r4.2) else some (nI c, m)) := by
            rw [eC, st1 hc.1, if_neg i10]
            unfold f_X6_isTooLateToWait
            rw [v1.2.2.2.2.2.2.2.1, if_pos hl, if_pos rfl, eb, Option.bind_some, ec, Option.bind_some, bnd_eq, e]
          have eR2 : ∀ x : IM, x 83 = im 83 → ∃ n, f_X7_behind (nI a) (nI b) x = f_X7_behind_j4 (nI a) (nI b) (if c = 60 then -1 else nI c) n ∧ agR x n := by
            intro x hx
            obtain ⟨x2, e2, c2⟩ := puts_r x
            have vx : RR x2 83 V := v2.cg (by rw [c2.1 83 (by decide), hx])
            obtain ⟨⟨d, n⟩, e3, l3, g0, g1, g2, g3⟩ := behind_r c2 vx ok ha hb ra rb hab
            have e3 : f_X7_behind_l3 (nI a) (nI b) xF (-1) 1 x2 = f_X7_behind_j4 (nI a) (nI b) (if d = 60 then -1 else nI d) n := e3
            have g0 : 1 ≤ d := g0
            have g1 : d ≤ 60 := g1
            have cd : c = d := by
              rcases Nat.lt_trichotomy c d with h | h | h
              · exact absurd (hS2.hit.mp (d3 (by show c < 60; omega))) (g2 c d0 h)
              · exact h
              · exact absurd (hS2.hit.mpr (g3 (by show d < 60; omega))) (d2 d g0 h)
            refine ⟨n, ?_, lk_agR c2 l3⟩
            rw [eR x hx, ready7_1 (by omega) (by rw [hx]; exact w4a) (by rw [hx, k6a, k4a]; exact ra), Option.bind_some, if_neg i10, ready7_1 (by omega) (by rw [hx]; exact w4b) (by rw [hx, k6b, k4b]; exact rb), Option.bind_some, if_neg i10, if_pos r4]
            unfold f_X7_isTooLate
            rw [hx, v2.2.2.2.2.2.2.2.1, if_pos ((late9740 v3).mp hl), if_pos rfl, e2, Option.bind_some, e3, cd]
          by_cases g : c = 60
          · rw [if_pos g, refuse_4, Option.bind_some] at eC2
            obtain ⟨n, e2, a2⟩ := eR2 (up m 73 3 (m 73 3 + 1)) (by rw [up_row (by decide), oo 83 (by omega)])
            refine ⟨-1000004, up m 73 3 (m 73 3 + 1), up n 86 3 (n 86 3 + 1), eC2, ?_, ref4_2 hI (two_agR oo) a2⟩
            rw [e2, if_pos g]
            unfold f_X7_behind_j4
            rw [if_neg (by decide), finds_4, Option.bind_some]
          · rw [if_neg g] at eC2
            obtain ⟨n, e2, a2⟩ := eR2 m (oo 83 (by omega))
            refine ⟨nI c, m, n, eC2, ?_, hI.agR (agR_trans (two_agR oo) a2)⟩
            rw [e2, if_neg g]
            unfold f_X7_behind_j4
            rw [if_pos (nI_pos' (by omega))]
        · refine bref5 hI ?_ (fun m hm => ?_)
          · rw [eC]
            unfold f_X6_behind_j2 f_X6_isTooLateToWait
            by_cases c : rdy V a ∧ rdy V b ∧ vT V a 4 = vT V b 4
            · rw [st1 c, if_neg i10, v1.2.2.2.2.2.2.2.1, if_neg (fun z => hc ⟨c, z⟩), if_neg i10, refuse_5, Option.bind_some]
            · rw [st0 c, if_pos rfl, refuse_5, Option.bind_some]
          · have h83 : m 83 = im 83 := by rw [hm, up_row (by decide)]
            rw [eR m h83]
            unfold f_X7_behind_j2 f_X7_isTooLate
            rw [finds_5, Option.bind_some]
            by_cases c1 : rdy V a
            · rw [ready7_1 (by omega) (by rw [h83]; exact w4a) (by rw [h83, k6a, k4a]; exact c1), Option.bind_some, if_neg i10]
              by_cases c2 : rdy V b
              · rw [ready7_1 (by omega) (by rw [h83]; exact w4b) (by rw [h83, k6b, k4b]; exact c2), Option.bind_some, if_neg i10]
                by_cases c3 : vT V a 4 = vT V b 4
                · rw [if_pos c3, h83, v2.2.2.2.2.2.2.2.1, if_neg (fun z => hc ⟨⟨c1, c2, c3⟩, (late9740 v3).mpr z⟩), if_neg i10]
                · rw [if_neg c3]
              · rw [ready7_0 (by omega) (by rw [h83]; exact w4b) (by rw [h83, k6b, k4b]; exact c2), Option.bind_some, if_pos rfl]
            · rw [ready7_0 (by omega) (by rw [h83]; exact w4a) (by rw [h83, k6a, k4a]; exact c1), Option.bind_some, if_pos rfl]
    · refine bref1 hI ?_ (fun m hm => ?_)
      · unfold f_X6_behind f_X6_behind_j1
        rw [thing_1 h10 v1.2.2.2.2.1 ha, if_neg i10, thing_0 h10 v1.2.2.2.2.1 hu, if_pos rfl, refuse_1, Option.bind_some]
      · have h83 : m 83 = im 83 := by rw [hm, up_row (by decide)]
        unfold f_X7_behind f_X7_behind_j1
        rw [thing7_1 h10 (by rw [h83]; exact v2.2.2.2.2.1) ha, if_neg i10, thing7_0 h10 (by rw [h83]; exact v2.2.2.2.2.1) hu, if_pos rfl, finds_1, Option.bind_some]
  · refine bref1 hI ?_ (fun m hm => ?_)
    · unfold f_X6_behind f_X6_behind_j1
      rw [thing_0 h10 v1.2.2.2.2.1 ht, if_pos rfl, refuse_1, Option.bind_some]
    · have h83 : m 83 = im 83 := by rw [hm, up_row (by decide)]
      unfold f_X7_behind f_X7_behind_j1
      rw [thing7_0 h10 (by rw [h83]; exact v2.2.2.2.2.1) ht, if_pos rfl, finds_1, Option.bind_some]
