theorem look_back {m m2 m3 m4 : IM} (c1 : cpR m m2 85 83 167) (h : mr m2 m3) (c2 : cpR m3 m4 83 85 167) : agR m m4 := by
  refine ⟨fun a g1 g2 g3 g4 g5 => ?_, ⟨?_, ?_, ?_, ?_⟩, fun k hk => ?_⟩
  · have h85 : a ≠ 85 := fun e => g1 (by unfold scr; omega)
    rw [c2.1 a g5, h.1 a g4 g5, c1.1 a h85]
  · rw [c2.1 0 (by decide), h.1 0 (by decide) (by decide), c1.1 0 (by decide)]
  · rw [c2.1 66 (by decide), h.1 66 (by decide) (by decide), c1.1 66 (by decide)]
  · rw [c2.1 82 (by decide), h.2 4 (by decide) (by decide), c1.1 82 (by decide)]
  · rw [c2.1 82 (by decide), h.2 16 (by decide) (by decide), c1.1 82 (by decide)]
  · rw [c2.2 k hk, h.1 85 (by decide) (by decide), c1.2 k hk]
theorem later_agR {im m : IM} (o : ∀ a, ¬ (31 ≤ a ∧ a < 31 + 15) → m a = im a) : agR im m := agR_rows (fun x hx => o x (fun h => hx (by unfold scr; omega)))
theorem allOn_V {im : IM} {T : Nat} {V : TV} {c : Int32} (v : RC im T V) (h10 : vN V ≤ 10) : f_X5_allOn T c im = some (sOf (onW (vT V) c) (vN V)) := by
  rw [allOn_c v.2.2.2.2.1 h10]
  congr 1
  refine sOf_cg (fun t ht => ?_)
  unfold onW
  rw [v.2.2.1 t ht 4 (by decide), v.2.2.1 t ht 6 (by decide)]
theorem rest_V {im : IM} {T : Nat} {V : TV} (v : RC im T V) (ok : OkL V) : f_X5_restingOnFoot T im = some (sOf (onW (vT V) 30) (vN V)) := by
  unfold f_X5_restingOnFoot
  rw [allIn_V v ok.1, Option.bind_some, allOn_V v ok.1, Option.bind_some, sOf_and (by have := ok.1; omega)]
  congr 1
  refine sOf_cg (fun t ht => ?_)
  cases h : onW (vT V) 30 t with
  | false => simp
  | true =>
    obtain ⟨e4, e6⟩ := onW_std h
    have h6 : vT V t 6 = 0 := by
      unfold pStd at e6
      rw [Bool.or_eq_true, decide_eq_true_iff, decide_eq_true_iff] at e6
      rcases e6 with q | q
      · exact q
      · have := (ok.2.2.2.1 t ht).2.2.2.2.2.2.2 q
        rw [e4] at this
        exact absurd this (by decide)
    simp [h6]
theorem onCell_V {im : IM} {V : TV} {c : Int32} (v : RR im 83 V) (h10 : vN V ≤ 10) : f_X7_onCell c im = some (sOf (onW (vT V) c) (vN V)) := by
  rw [onCell_r v.2.2.2.2.1 h10]
  congr 1
  refine sOf_cg (fun t ht => ?_)
  unfold onW
  rw [v.2.2.1 t ht 4 (by decide), v.2.2.1 t ht 6 (by decide)]
theorem areIn_V {im : IM} {V : TV} {st : Int32} (v : RR im 83 V) (h10 : vN V ≤ 10) : f_X7_areIn st im = some (sOf (fun t => decide (vT V t 6 = st)) (vN V)) := by
  rw [areIn_r v.2.2.2.2.1 h10]
  congr 1
  refine sOf_cg (fun t ht => ?_)
  rw [v.2.2.1 t ht 6 (by decide)]
theorem ahead_r {m : IM} {V : TV} (v : RR m 83 V) (ok : OkL V) {n : Nat} (hn : n ≤ 200) (a2 x : Int32) (hx : ∀ m3, RR m3 83 (itV V n) → f_X7_ahead_l2b (nI n) a2 (fun _ _ => none) (nI n) m3 = (f_X7_putsBack m3).bind fun r4 => some (x, r4)) : ∃ m4, ((f_X7_puts m).bind fun r2 => f_X7_ahead_l2 (nI n) a2 xF 0 r2) = some (x, m4) ∧ agR m m4 := by
  obtain ⟨m2, e2, c2⟩ := puts_r m
  have v2 : RR m2 83 V := v.cg (c2.1 83 (by decide))
  have key : ∃ m3, f_X7_ahead_l2 (nI n) a2 xF 0 m2 = f_X7_ahead_l2b (nI n) a2 (fun _ _ => none) (nI n) m3 ∧ (RR m3 83 (itV V n) ∧ mr m2 m3) := by
    refine loopG (fun f s i => f_X7_ahead_l2 (nI n) a2 f i s) (fun m3 : IM => f_X7_ahead_l2b (nI n) a2 (fun _ _ => none) (nI n) m3) 0 0 rfl n (by omega) (by omega) (fun i s => RR s 83 (itV V i) ∧ mr m2 s) _ (fun f s hP => ⟨s, ?_, hP⟩) (fun f s i hi0 hi hP => Or.inr ?_) m2 ⟨v2, mr_refl⟩
    · show f_X7_ahead_l2b (nI n) a2 _ (nI n) s = _
      unfold f_X7_ahead_l2b
      rw [if_pos (Int32.le_refl _), if_pos (Int32.le_refl _)]
    · obtain ⟨m', e, r, x5, x6, o, o2⟩ := minute_r hP.1 (it_ok ok i)
      refine ⟨m', ?_, r, mr_trans hP.2 ⟨o, o2⟩⟩
      show f_X7_ahead_l2b (nI n) a2 _ (nI i) s = _
      unfold f_X7_ahead_l2b
      rw [if_neg (nI_ge hi (by omega)), e, Option.bind_some, bnd_eq, nI_1]
  obtain ⟨m3, e3, r3, q3⟩ := key
  obtain ⟨m4, e4, c4⟩ := putsBack_r m3
  refine ⟨m4, ?_, look_back c2 q3 c4⟩
  rw [e2, Option.bind_some, e3, hx m3 r3, e4, Option.bind_some]
theorem lp_ahead : LP_ahead Inv := by
  intro im hI a1 a2
  obtain ⟨⟨V, v1, v2, v3⟩, -⟩ := id hI
  have ok := v3.l
  have h10 := ok.1
  have wm : wi (vM V) 0 9999 := v3.2.2.2.2.2.2.2
  have hin : ∀ m : IM, m 83 = im 83 → f_X7_in a2.toInt64 0 (((3 + (m 83 1) : Int32).toInt64)) = f_X6_within a2 0 (nI (3 + vN V)) := fun m hm => by
    rw [hm, v2.2.2.2.2.1, lit_add 3 (k := 3) rfl, in_lit (b := 0) (by decide) rfl]
  by_cases h1 : wi a1 0 200
  · obtain ⟨n, hn, rfl⟩ := rng_of (n := 200) 200 (by decide) h1.1 h1.2
    by_cases h2 : ∃ j, j ≤ 3 + vN V ∧ a2 = nI j
    · obtain ⟨j, hj, rfl⟩ := h2
      have hw : wi (nI j) 0 (nI (3 + vN V)) := ⟨nI_pos' (by omega), nI_le hj (by omega)⟩
      have eC : f_X6_ahead (nI n) (nI j) im = f_X6_ahead_j2 (nI n) (nI j) im := by
        unfold f_X6_ahead
        rw [within_1 h1, if_neg i10]
        by_cases c : j ≤ 3
        · rw [within_1 ⟨nI_pos' (by omega), (nI_le_lit (n := 3) 3 (by decide) (by omega)).mpr c⟩, if_neg i10]
        · have nc : ¬ nI j ≤ 3 := fun z => c ((nI_le_lit (n := 3) 3 (by decide) (by omega)).mp z)
          rw [within_0 (fun z => nc z.2), if_pos rfl, if_neg nc, show (4 : Int32) = nI 4 from rfl, pk_sub (by omega), thing_1 h10 v1.2.2.2.2.1 (by omega), if_neg i10]
      have eR : ∀ m : IM, m 83 = im 83 → f_X7_ahead (nI n) (nI j) m = if (f_X7_isTooLate (nI n) m) = 0 then (f_X7_puts m).bind fun r2 => f_X7_ahead_l2 (nI n) (nI j) xF 0 r2 else (f_X7_finds (-1000005) m).bind fun r11 => some (r11.1, r11.2) := by
        intro m hm
        unfold f_X7_ahead
        rw [in_0_200, within_1 h1, if_neg i10, hin m hm, within_1 hw, if_neg i10]
      obtain ⟨lt1, lt2⟩ := late_iff wm (n := n) (by omega) _ (late_c (by omega))
      by_cases h3 : vM V ≤ 9999 - nI n
      · obtain ⟨mb, eb, rb, ob⟩ := become_c (im := im) (T := 31) (S := 1) (by omega) v1 h10
        obtain ⟨m, e1, r1, o1⟩ := passMinutes_c rb ok (n := n) (by omega)
        have oo : ∀ a, ¬ (31 ≤ a ∧ a < 31 + 15) → m a = im a := fun a ha => (o1 a ha).trans (ob a ha)
        have v2m : RR m 83 V := v2.cg (oo 83 (by omega))
        have okn := it_ok ok n
        have fin : ∀ x : Int32, f_X6_ahead_j2 (nI n) (nI j) im = some (x, m) → (∀ m3, RR m3 83 (itV V n) → f_X7_ahead_l2b (nI n) (nI j) (fun _ _ => none) (nI n) m3 = (f_X7_putsBack m3).bind fun r4 => some (x, r4)) → ∃ (r : Int32) (m1 m2 : IM), f_X6_ahead (nI n) (nI j) im = some (r, m1) ∧ f_X7_ahead (nI n) (nI j) m1 = some (r, m2) ∧ Inv m2 := by
          intro x hC hR
          obtain ⟨m4, e4, a4⟩ := ahead_r v2m ok hn (nI j) x hR
          refine ⟨x, m, m4, by rw [eC, hC], ?_, hI.agR (agR_trans (later_agR oo) a4)⟩
          rw [eR m (oo 83 (by omega))]
          unfold f_X7_isTooLate
          rw [v2m.2.2.2.2.2.2.2.1, if_pos (lt1.mp h3), if_pos rfl, e4]
        have j2 : f_X6_ahead_j2 (nI n) (nI j) im = if nI j = 0 then (f_X5_allIn 31 1 m).bind fun r4 => some (r4, m) else if nI j = 1 then (f_X5_allIn 31 2 m).bind fun r5 => some (r5, m) else if nI j = 2 then (f_X5_restingOnFoot 31 m).bind fun r6 => some (r6, m) else if nI j = 3 then (f_X5_damageOfAll 31 m).bind fun r7 => some (r7, m) else if inb (nI j - 4) 10 = true then some (m (36 + ix (nI j - 4)) 4, m) else none := by
          unfold f_X6_ahead_j2
          rw [v1.2.2.2.2.2.2.2.1, if_pos h3, eb, Option.bind_some, e1, Option.bind_some]
          rfl
        by_cases c0 : j = 0
        · subst c0
          refine fin (sOf (fun t => decide (vT (itV V n) t 6 = 1)) (vN (itV V n))) ?_ (fun m3 r3 => ?_)
          · rw [j2, if_pos (by decide), allIn_V r1 okn.1, Option.bind_some]
          · unfold f_X7_ahead_l2b f_X7_ahead_j3
            rw [if_pos (Int32.le_refl _), if_pos (by decide), areIn_V r3 okn.1, Option.bind_some]
        · by_cases c1 : j = 1
          · subst c1
            refine fin (sOf (fun t => decide (vT (itV V n) t 6 = 2)) (vN (itV V n))) ?_ (fun m3 r3 => ?_)
            · rw [j2, if_neg (by decide), if_pos (by decide), allIn_V r1 okn.1, Option.bind_some]
            · unfold f_X7_ahead_l2b f_X7_ahead_j3
              rw [if_pos (Int32.le_refl _), if_neg (by decide), if_pos (by decide), areIn_V r3 okn.1, Option.bind_some]
          · by_cases c2 : j = 2
            · subst c2
              refine fin (sOf (onW (vT (itV V n)) 30) (vN (itV V n))) ?_ (fun m3 r3 => ?_)
              · rw [j2, if_neg (by decide), if_neg (by decide), if_pos (by decide), rest_V r1 okn, Option.bind_some]
              · unfold f_X7_ahead_l2b f_X7_ahead_j3
                rw [if_pos (Int32.le_refl _), if_neg (by decide), if_neg (by decide), if_pos (by decide), onCell_V r3 okn.1, Option.bind_some]
            · by_cases c3 : j = 3
              · subst c3
                refine fin (sm (fun t => vT (itV V n) t 7) (vN (itV V n))) ?_ (fun m3 r3 => ?_)
                · rw [j2, if_neg (by decide), if_neg (by decide), if_neg (by decide), if_pos (by decide), damage_c r1.2.2.2.2.1 okn.1, Option.bind_some, sm_cg (fun t ht => r1.2.2.1 t ht 7 (by decide))]
                · unfold f_X7_ahead_l2b f_X7_ahead_j3
                  rw [if_pos (Int32.le_refl _), if_neg (by decide), if_neg (by decide), if_neg (by decide), if_pos (by decide), sumOf_r (w := 7) 7 rfl (by decide) r3.2.2.2.2.1 okn.1, Option.bind_some, sm_cg (fun t ht => r3.2.2.1 t ht 7 (by decide))]
              · have n0 : ¬ nI j = 0 := by rw [nI_eq_lit (n := 0) 0 (by decide) (by omega)]; exact c0
                have n1 : ¬ nI j = 1 := by rw [nI_eq_lit (n := 1) 1 (by decide) (by omega)]; exact c1
                have n2 : ¬ nI j = 2 := by rw [nI_eq_lit (n := 2) 2 (by decide) (by omega)]; exact c2
                have n3 : ¬ nI j = 3 := by rw [nI_eq_lit (n := 3) 3 (by decide) (by omega)]; exact c3
                have e4 : nI j - 4 = nI (j - 4) := by rw [show (4 : Int32) = nI 4 from rfl, pk_sub (by omega)]
                have ht : j - 4 < vN (itV V n) := by rw [it_N]; omega
                refine fin (vT (itV V n) (j - 4) 4) ?_ (fun m3 r3 => ?_)
                · rw [j2, if_neg n0, if_neg n1, if_neg n2, if_neg n3, e4, if_pos (inb_nI (show j - 4 < 10 by omega) (by decide)), ix_nI (by omega), ← r1.2.2.1 (j - 4) ht 4 (by decide)]
                · unfold f_X7_ahead_l2b f_X7_ahead_j3
                  rw [if_pos (Int32.le_refl _), if_neg n0, if_neg n1, if_neg n2, if_neg n3, e4, its_w (w := 4) 4 rfl (by omega) (by decide), Option.bind_some, r3.2.2.1 (j - 4) ht 4 (by decide)]
      · refine bref5 hI ?_ (fun m hm => ?_)
        · rw [eC]
          unfold f_X6_ahead_j2
          rw [v1.2.2.2.2.2.2.2.1, if_neg h3, refuse_5, Option.bind_some]
        · have h83 : m 83 = im 83 := by rw [hm, up_row (by decide)]
          rw [eR m h83]
          unfold f_X7_isTooLate
          rw [h83, v2.2.2.2.2.2.2.2.1, if_neg (fun z => h3 (lt1.mpr z)), if_neg i10, finds_5, Option.bind_some]
    · have hw : ¬ wi a2 0 (nI (3 + vN V)) := by
        intro z
        obtain ⟨j, hj, e⟩ := nI_of2 (nI_toInt (show 3 + vN V < 2 ^ 31 by omega)) (Int32.not_lt.mpr z.1) z.2
        exact h2 ⟨j, hj, e⟩
      refine bref1 hI ?_ (fun m hm => ?_)
      · unfold f_X6_ahead f_X6_ahead_j1
        rw [within_1 h1, if_neg i10, within_0 (fun z => h2 (by
          obtain ⟨j, hj, e⟩ := rng_of (n := 3) 3 (by decide) z.1 z.2
          exact ⟨j, by omega, e⟩)), if_pos rfl]
        by_cases c : a2 ≤ 3
        · rw [if_pos c, refuse_1, Option.bind_some]
        · rw [if_neg c, thing_0 h10 v1.2.2.2.2.1 (fun ⟨t, ht, e⟩ => h2 ⟨4 + t, by omega, by
            rw [← nI_add, ← e, show nI 4 = 4 from rfl, Int32.add_comm, Int32.sub_add_cancel]⟩), if_pos rfl, refuse_1, Option.bind_some]
      · have h83 : m 83 = im 83 := by rw [hm, up_row (by decide)]
        unfold f_X7_ahead f_X7_ahead_j1
        rw [in_0_200, within_1 h1, if_neg i10, hin m h83, within_0 hw, if_pos rfl, finds_1, Option.bind_some]
  · refine bref1 hI ?_ (fun m hm => ?_)
    · unfold f_X6_ahead f_X6_ahead_j1
      rw [within_0 h1, if_pos rfl, refuse_1, Option.bind_some]
    · unfold f_X7_ahead f_X7_ahead_j1
      rw [in_0_200, within_0 h1, if_pos rfl, finds_1, Option.bind_some]
