/-! who can be let go -/
theorem ready_1 {im : IM} {A : Nat} (h : im A 6 = 0 ∧ ¬ im A 4 = 30) : f_X4_canBeLetGo A im = 1 := by
  unfold f_X4_canBeLetGo
  rw [if_pos h.1, if_neg h.2]
theorem ready_0 {im : IM} {A : Nat} (h : ¬ (im A 6 = 0 ∧ ¬ im A 4 = 30)) : f_X4_canBeLetGo A im = 0 := by
  unfold f_X4_canBeLetGo f_X4_canBeLetGo_j1
  by_cases c : im A 6 = 0
  · by_cases d : im A 4 = 30
    · rw [if_pos c, if_pos d]
    · exact absurd ⟨c, d⟩ h
  · rw [if_neg c]
theorem ge30 {x : Int32} (h : wi x 0 30) : (30 : Int32) ≤ x ↔ x = 30 := by
  obtain ⟨c, hc, rfl⟩ := rng_of (n := 30) 30 (by decide) h.1 h.2
  rw [nI_ge_lit (n := 30) 30 (by decide) (by omega), nI_eq_lit (n := 30) 30 (by decide) (by omega)]
  omega
theorem ready7_1 {im : IM} {t : Nat} (ht : t < 10) (hw : wi (im 83 (67 + 9 * t + 4)) 0 30) (h : im 83 (67 + 9 * t + 6) = 0 ∧ ¬ im 83 (67 + 9 * t + 4) = 30) : f_X7_isReady (nI t) im = some 1 := by
  unfold f_X7_isReady
  rw [its_w (w := 6) 6 rfl ht (by decide), Option.bind_some, if_pos h.1, its_w (w := 4) 4 rfl ht (by decide), Option.bind_some, if_neg (fun z => h.2 ((ge30 hw).mp z))]
theorem ready7_0 {im : IM} {t : Nat} (ht : t < 10) (hw : wi (im 83 (67 + 9 * t + 4)) 0 30) (h : ¬ (im 83 (67 + 9 * t + 6) = 0 ∧ ¬ im 83 (67 + 9 * t + 4) = 30)) : f_X7_isReady (nI t) im = some 0 := by
  unfold f_X7_isReady f_X7_isReady_j1
  rw [its_w (w := 6) 6 rfl ht (by decide), Option.bind_some]
  by_cases c : im 83 (67 + 9 * t + 6) = 0
  · rw [if_pos c, its_w (w := 4) 4 rfl ht (by decide), Option.bind_some]
    by_cases d : im 83 (67 + 9 * t + 4) = 30
    · rw [if_pos ((ge30 hw).mpr d)]
    · exact absurd ⟨c, d⟩ h
  · rw [if_neg c]
def rdy (V : TV) (t : Nat) : Prop := vT V t 6 = 0 ∧ ¬ vT V t 4 = 30
theorem rdy_can {V : TV} {t : Nat} (h : rdy V t) : canS V t := ⟨Or.inl h.1, h.2⟩
/-! come -/
noncomputable def cmS (V : TV) : Nat → Int32
  | 0 => 0
  | i + 1 => if vT V i 6 = 0 ∧ vT V i 4 = 0 then (if eCell (alV V i 10).2.1 = 30 then cmS V i + 1 else cmS V i + 0) else cmS V i
theorem lp_come : LP_come Inv := by
  intro im hI
  obtain ⟨⟨V, v1, v2, v3⟩, -⟩ := id hI
  have h10 := v3.1
  have ok := v3.l
  by_cases h3 : vM V ≤ 9799
  · have wbt : ∀ t, t < vN V → bt (sOf (fun t => decide (vT V t 6 = 0)) (vN V) &&& sOf (onW (vT V) 0) (vN V)) t = (decide (vT V t 6 = 0) && decide (vT V t 4 = 0)) := by
      intro t ht
      rw [sOf_and (by omega), bt_sOf (by omega) (by omega), decide_eq_true ht, Bool.true_and]
      unfold onW
      by_cases c : vT V t 6 = 0
      · rw [c]; simp [pStd]
      · simp [c]
    have cs : ∀ i, i < vN V → vT V i 6 = 0 ∧ vT V i 4 = 0 → canS V i := fun i hi q => ⟨Or.inl q.1, by rw [q.2]; decide⟩
    have key : ∃ m1, f_X6_come_l1 xF (sOf (fun t => decide (vT V t 6 = 0)) (vN V) &&& sOf (onW (vT V) 0) (vN V)) 0 0 im = some (cmS V (vN V), m1) ∧ aC im m1 := by
      refine loopG (fun f (s : Int32 × IM) i => f_X6_come_l1 f (sOf (fun t => decide (vT V t 6 = 0)) (vN V) &&& sOf (onW (vT V) 0) (vN V)) s.1 i s.2) (fun m1 : IM => some (cmS V (vN V), m1)) 0 0 rfl (vN V) (by omega) (by omega) (fun i s => s.1 = cmS V i ∧ aC im s.2) _ (fun f s hP => ⟨s.2, ?_, hP.2⟩) (fun f s i hi0 hi hP => Or.inr ?_) (0, im) ⟨rfl, aC_refl⟩
      · show f_X6_come_l1b _ _ s.1 (nI (vN V)) s.2 = _
        unfold f_X6_come_l1b
        rw [hP.2 1 (by decide) (by decide), v1.2.2.2.2.1, if_pos (Int32.le_refl _), hP.1]
      · have e4 : s.2 1 4 = nI (vN V) := by rw [hP.2 1 (by decide) (by decide)]; exact v1.2.2.2.2.1
        by_cases c : vT V i 6 = 0 ∧ vT V i 4 = 0
        · obtain ⟨m', e, r⟩ := runV_c (T := 1) (sp := 10) (by omega) (v1.cg (fun a h1 h2 => hP.2 a (by omega) (by omega)) h10) ok hi (cs i hi c)
          refine ⟨(cmS V (i + 1), m'), ?_, rfl, aC_trans hP.2 r.1⟩
          show f_X6_come_l1b _ _ s.1 (nI i) s.2 = f_X6_come_l1 f _ (if vT V i 6 = 0 ∧ vT V i 4 = 0 then (if eCell (alV V i 10).2.1 = 30 then cmS V i + 1 else cmS V i + 0) else cmS V i) (nI (i + 1)) m'
          unfold f_X6_come_l1b f_X6_come_j3 f_X6_come_j2 f_X2_run
          rw [e4, if_neg (nI_ge hi (by omega)), has_c (by omega), wbt i hi, if_pos (show (decide (vT V i 6 = 0) && decide (vT V i 4 = 0)) = true by rw [decide_eq_true c.1, decide_eq_true c.2]; rfl), if_neg i10, if_pos (inb_nI (show i < 10 by omega) (by decide)), ix_nI (by omega), show f_X2_runFrom 1 (6 + i) 10 s.2 = some m' from e, Option.bind_some, Option.bind_some, hP.1, bnd_eq, bnd_eq, bnd_eq, bnd_eq, nI_1, if_pos c]
          by_cases d : eCell (alV V i 10).2.1 = 30
          · rw [if_pos d, endsOn_1 r.2.2.2.2 ((eCell_30 (fok_V (ok.2.2.2.1 i hi) (cs i hi c))).mp d), if_neg i10]
          · rw [if_neg d, endsOn_0 r.2.2.2.2 (fun z => d ((eCell_30 (fok_V (ok.2.2.2.1 i hi) (cs i hi c))).mpr z)), if_pos rfl]
        · refine ⟨(cmS V (i + 1), s.2), ?_, rfl, hP.2⟩
          show f_X6_come_l1b _ _ s.1 (nI i) s.2 = f_X6_come_l1 f _ (if vT V i 6 = 0 ∧ vT V i 4 = 0 then (if eCell (alV V i 10).2.1 = 30 then cmS V i + 1 else cmS V i + 0) else cmS V i) (nI (i + 1)) s.2
          unfold f_X6_come_l1b f_X6_come_j2
          rw [e4, if_neg (nI_ge hi (by omega)), has_c (by omega), wbt i hi, if_neg (show ¬ (decide (vT V i 6 = 0) && decide (vT V i 4 = 0)) = true by rw [Bool.and_eq_true, decide_eq_true_iff, decide_eq_true_iff]; exact c), if_pos rfl, hP.1, bnd_eq, nI_1, if_neg c]
    obtain ⟨m1, e1, o1⟩ := key
    have v2n : RR m1 83 V := v2.cg (o1 83 (by decide) (by decide))
    have key2 : ∃ m2, f_X7_come_l1 xF 0 0 m1 = some (cmS V (vN V), m2) ∧ aR m1 m2 := by
      refine loopG (fun f (s : Int32 × IM) i => f_X7_come_l1 f s.1 i s.2) (fun m2 : IM => some (cmS V (vN V), m2)) 0 0 rfl (vN V) (by omega) (by omega) (fun i s => s.1 = cmS V i ∧ aR m1 s.2) _ (fun f s hP => ⟨s.2, ?_, hP.2⟩) (fun f s i hi0 hi hP => Or.inr ?_) (0, m1) ⟨rfl, aR_refl⟩
      · show f_X7_come_l1b _ s.1 (nI (vN V)) s.2 = _
        unfold f_X7_come_l1b
        rw [hP.2.1 83 (by decide), v2n.2.2.2.2.1, if_pos (Int32.le_refl _), hP.1]
      · have v2s : RR s.2 83 V := v2n.cg (hP.2.1 83 (by decide))
        have k6 : s.2 83 (67 + 9 * i + 6) = vT V i 6 := v2s.2.2.1 i hi 6 (by decide)
        have k4 : s.2 83 (67 + 9 * i + 4) = vT V i 4 := v2s.2.2.1 i hi 4 (by decide)
        have sk : ¬ (vT V i 6 = 0 ∧ vT V i 4 = 0) → f_X7_come_l1 (f + 1) s.1 (nI i) s.2 = f_X7_come_l1 f (cmS V (i + 1)) (nI (i + 1)) s.2 := by
          intro c
          show f_X7_come_l1b _ s.1 (nI i) s.2 = f_X7_come_l1 f (if vT V i 6 = 0 ∧ vT V i 4 = 0 then (if eCell (alV V i 10).2.1 = 30 then cmS V i + 1 else cmS V i + 0) else cmS V i) (nI (i + 1)) s.2
          unfold f_X7_come_l1b f_X7_come_j2
          rw [v2s.2.2.2.2.1, if_neg (nI_ge hi (by omega)), its_w (w := 6) 6 rfl (by omega) (by decide), Option.bind_some, its_w (w := 4) 4 rfl (by omega) (by decide), Option.bind_some, k6, k4, hP.1, bnd_eq, nI_1, if_neg c]
          by_cases c1 : vT V i 6 = 0
          · rw [if_pos c1, if_neg (fun z => c ⟨c1, z⟩)]
          · rw [if_neg c1]
        by_cases c : vT V i 6 = 0 ∧ vT V i 4 = 0
        · obtain ⟨m', e, r⟩ := aloneV_r (sp := 10) v2s ok hi (cs i hi c)
          refine ⟨(cmS V (i + 1), m'), ?_, rfl, aR_trans hP.2 (out_aR r)⟩
          show f_X7_come_l1b _ s.1 (nI i) s.2 = f_X7_come_l1 f (if vT V i 6 = 0 ∧ vT V i 4 = 0 then (if eCell (alV V i 10).2.1 = 30 then cmS V i + 1 else cmS V i + 0) else cmS V i) (nI (i + 1)) m'
          unfold f_X7_come_l1b f_X7_come_j3 f_X7_come_j2
          rw [v2s.2.2.2.2.1, if_neg (nI_ge hi (by omega)), its_w (w := 6) 6 rfl (by omega) (by decide), Option.bind_some, its_w (w := 4) 4 rfl (by omega) (by decide), Option.bind_some, k6, k4, if_pos c.1, if_pos c.2, e, Option.bind_some, hP.1, r.2.2.2.1, bnd_eq, bnd_eq, bnd_eq, bnd_eq, nI_1, if_pos c]
          by_cases d : eCell (alV V i 10).2.1 = 30
          · rw [if_pos d, if_pos (show (if (alV V i 10).2.1 6 = 2 then -1 else (alV V i 10).2.1 4) = (30 : Int32) from d)]
          · rw [if_neg d, if_neg (show ¬ (if (alV V i 10).2.1 6 = 2 then -1 else (alV V i 10).2.1 4) = (30 : Int32) from d)]
        · exact ⟨(cmS V (i + 1), s.2), sk c, rfl, hP.2⟩
    obtain ⟨m2, e2, o2⟩ := key2
    refine ⟨cmS V (vN V), m1, m2, ?_, ?_, hI.agr ((aC_agr o1).trans (aR_agr o2))⟩
    · unfold f_X6_come f_X6_isTooLateToRoll
      rw [v1.2.2.2.2.2.2.2.1, if_pos h3, if_pos rfl, allIn_V v1 h10, Option.bind_some, allOn_V v1 h10, Option.bind_some, bnd_eq, e1]
    · unfold f_X7_come f_X7_isTooLate
      rw [v2n.2.2.2.2.2.2.2.1, if_pos ((late9799 v3).mp h3), if_pos rfl, e2]
  · refine bref5 hI ?_ (fun m hm => ?_)
    · unfold f_X6_come f_X6_isTooLateToRoll
      rw [v1.2.2.2.2.2.2.2.1, if_neg h3, if_neg i10, refuse_5, Option.bind_some]
    · unfold f_X7_come f_X7_isTooLate
      rw [show m 83 0 = vM V by rw [hm, up_row (by decide)]; exact v2.2.2.2.2.2.2.2.1, if_neg (fun z => h3 ((late9799 v3).mpr z)), if_neg i10, finds_5, Option.bind_some]
/-! odds -/
def nxZ (z : Int32) : Int32 := z * 1103515245 + 12345
def zSd (z : Int32) : Nat → Int32
  | 0 => z
  | i + 1 => nxZ (zSd z i)
def spZ (Z : Nat → Int32) (i : Nat) : Int32 := 10 + jrem (jush (Z (i + 1)) 8) 30
noncomputable def odS (V : TV) (t : Nat) (Z : Nat → Int32) : Nat → Int32
  | 0 => 0
  | i + 1 => if (alV V t (spZ Z i)).2.1 6 = 2 then odS V t Z i + 1 else odS V t Z i + 0
theorem up_id {im : IM} {a i : Nat} : up im a i (im a i) = im := by
  funext b j
  by_cases e : b = a
  · subst e
    by_cases k : j = i
    · subst k; exact up_same
    · exact up_ne k
  · rw [up_row e]
theorem up_up {im : IM} {a i : Nat} {x y : Int32} : up (up im a i x) a i y = up im a i y := by
  funext b j
  by_cases e : b = a
  · subst e
    by_cases k : j = i
    · subst k; rw [up_same, up_same]
    · rw [up_ne k, up_ne k, up_ne k]
  · rw [up_row e, up_row e, up_row e]
theorem aC_up {im m : IM} {a i : Nat} {x : Int32} (h : aC im m) : aC (up im a i x) (up m a i x) := by
  intro b h1 h2
  by_cases e : b = a
  · subst e
    funext j
    by_cases k : j = i
    · subst k; rw [up_same, up_same]
    · rw [up_ne k, up_ne k, h b h1 h2]
  · rw [up_row e, up_row e]; exact h b h1 h2
theorem aR_up83 {im m : IM} {i : Nat} {x : Int32} (h : aR im m) : aR (up im 83 i x) (up m 83 i x) := by
  refine ⟨fun b h1 => ?_, fun k hk => by rw [up_row (by decide), up_row (by decide)]; exact h.2 k hk⟩
  by_cases e : b = 83
  · subst e
    funext j
    by_cases k : j = i
    · subst k; rw [up_same, up_same]
    · rw [up_ne k, up_ne k, h.1 83 h1]
  · rw [up_row e, up_row e]; exact h.1 b h1
theorem lp_odds : LP_odds Inv := by
  intro im hI a1 a2
  obtain ⟨⟨V, v1, v2, v3⟩, -⟩ := id hI
  have h10 := v3.1
  have ok := v3.l
  obtain ⟨Z, hZ0, hZs⟩ : ∃ Z : Nat → Int32, Z 0 = vZ V ∧ ∀ i, Z i * 1103515245 + 12345 = Z (i + 1) := ⟨zSd (vZ V), rfl, fun _ => rfl⟩
  by_cases ht : ∃ t, t < vN V ∧ a1 = nI t
  · obtain ⟨t, ht, rfl⟩ := ht
    have ib := inb_nI (show t < 10 by omega) (show 10 < 2 ^ 31 by decide)
    have it : ix (nI t) = t := ix_nI (by omega)
    have r6 : im (6 + t) 6 = vT V t 6 := v1.2.2.1 t ht 6 (by decide)
    have r4 : im (6 + t) 4 = vT V t 4 := v1.2.2.1 t ht 4 (by decide)
    have k6 : im 83 (67 + 9 * t + 6) = vT V t 6 := v2.2.2.1 t ht 6 (by decide)
    have k4 : im 83 (67 + 9 * t + 4) = vT V t 4 := v2.2.2.1 t ht 4 (by decide)
    have w4 : wi (im 83 (67 + 9 * t + 4)) 0 30 := by rw [k4]; exact (ok.2.2.2.1 t ht).2.2.2.2.1
    by_cases hn : wi a2 1 20
    · obtain ⟨n, hn20, rfl⟩ := rng_of (n := 20) 20 (by decide) (Int32.le_trans (by decide) hn.1) hn.2
      have eC : f_X6_odds (nI t) (nI n) im = if f_X4_canBeLetGo (6 + t) im = 0 then f_X6_odds_j2 (nI t) (nI n) im else if f_X6_isTooLateToRoll im = 0 then f_X6_odds_l3 (nI t) (nI n) xF 0 0 im else f_X6_odds_j2 (nI t) (nI n) im := by
        unfold f_X6_odds
        rw [thing_1 h10 v1.2.2.2.2.1 ht, if_neg i10, within_1 hn, if_neg i10, if_pos ib, it]
      have eR : ∀ m : IM, m 83 = im 83 → f_X7_odds (nI t) (nI n) m = (f_X7_isReady (nI t) m).bind fun r2 => if r2 = 0 then f_X7_odds_j2 (nI t) (nI n) m else if f_X7_isTooLate 200 m = 0 then f_X7_odds_l3 (nI t) (nI n) xF 0 0 m else f_X7_odds_j2 (nI t) (nI n) m := by
        intro m hm
        unfold f_X7_odds
        rw [thing7_1 h10 (by rw [hm]; exact v2.2.2.2.2.1) ht, if_neg i10, in_1_20, within_1 hn, if_neg i10]
      by_cases hc : rdy V t ∧ vM V ≤ 9799
      · have cs := rdy_can hc.1
        have key : ∃ m1, f_X6_odds_l3 (nI t) (nI n) xF 0 0 im = some (odS V t Z n, m1) ∧ aC (up im 1 8 (Z n)) m1 := by
          refine loopG (fun f (s : Int32 × IM) i => f_X6_odds_l3 (nI t) (nI n) f s.1 i s.2) (fun m1 : IM => some (odS V t Z n, m1)) 0 0 rfl n (by omega) (by omega) (fun i s => s.1 = odS V t Z i ∧ aC (up im 1 8 (Z i)) s.2) _ (fun f s hP => ⟨s.2, ?_, hP.2⟩) (fun f s i hi0 hi hP => Or.inr ?_) (0, im) ⟨rfl, by show aC (up im 1 8 (Z 0)) im; rw [hZ0, ← v1.2.2.2.2.2.2.2.2, up_id]; exact aC_refl⟩
          · show f_X6_odds_l3b (nI t) (nI n) _ s.1 (nI n) s.2 = _
            unfold f_X6_odds_l3b
            rw [if_pos (Int32.le_refl _), hP.1]
          · have e8 : s.2 1 8 = Z i := by rw [hP.2 1 (by decide) (by decide), up_same]
            have o' : aC (up im 1 8 (Z (i + 1))) (up s.2 1 8 (Z (i + 1))) := by
              have := aC_up (a := 1) (i := 8) (x := Z (i + 1)) hP.2
              rw [up_up] at this
              exact this
            obtain ⟨m', e, r⟩ := runV_c (im := up s.2 1 8 (Z (i + 1))) (T := 1) (t := t) (V := setZ V (Z (i + 1))) (sp := spZ Z i) (by omega) ((RC_Z v1 (x := Z (i + 1))).cg (fun a h1 h2 => o' a (by omega) (by omega)) h10) ok ht cs
            have r5 : ∀ w, w < 8 → m' 62 w = (alV V t (spZ Z i)).2.1 w := r.2.2.2.2
            refine ⟨(odS V t Z (i + 1), m'), ?_, rfl, aC_trans o' r.1⟩
            show f_X6_odds_l3b (nI t) (nI n) _ s.1 (nI i) s.2 = f_X6_odds_l3 (nI t) (nI n) f (if (alV V t (spZ Z i)).2.1 6 = 2 then odS V t Z i + 1 else odS V t Z i + 0) (nI (i + 1)) m'
            have ed : f_X5_draw 1 s.2 = (jush (Z (i + 1)) 8, up s.2 1 8 (Z (i + 1))) := by
              unfold f_X5_draw
              rw [bnd_eq, e8, hZs, up_same]
            unfold f_X6_odds_l3b f_X6_odds_j4
            rw [if_neg (nI_ge hi (by omega)), if_pos ib, ed, bnd_eq, it]
            show ((f_X2_runFrom 1 (6 + t) (spZ Z i) (up s.2 1 8 (Z (i + 1)))).bind fun r6 => _) = _
            rw [show f_X2_runFrom 1 (6 + t) (spZ Z i) (up s.2 1 8 (Z (i + 1))) = some m' from e, Option.bind_some, place_c r5, hP.1, bnd_eq, bnd_eq, bnd_eq, bnd_eq, nI_1]
            have fk : fok (alV V t (spZ Z i)).2.1 := fok_V (ok.2.2.2.1 t ht) cs
            by_cases c : (alV V t (spZ Z i)).2.1 6 = 2
            · rw [if_pos c, if_neg (fun z => (eCell_neg fk).mp z c)]
            · rw [if_neg c, if_pos ((eCell_neg fk).mpr c)]
        obtain ⟨m1, e1, o1⟩ := key
        have h83 : m1 83 = im 83 := by rw [o1 83 (by decide) (by decide), up_row (by decide)]
        have v2n : RR m1 83 V := v2.cg h83
        have key2 : ∃ m2, f_X7_odds_l3 (nI t) (nI n) xF 0 0 m1 = some (odS V t Z n, m2) ∧ aR (up m1 83 4 (Z n)) m2 := by
          refine loopG (fun f (s : Int32 × IM) i => f_X7_odds_l3 (nI t) (nI n) f s.1 i s.2) (fun m1 : IM => some (odS V t Z n, m1)) 0 0 rfl n (by omega) (by omega) (fun i s => s.1 = odS V t Z i ∧ aR (up m1 83 4 (Z i)) s.2) _ (fun f s hP => ⟨s.2, ?_, hP.2⟩) (fun f s i hi0 hi hP => Or.inr ?_) (0, m1) ⟨rfl, by show aR (up m1 83 4 (Z 0)) m1; rw [hZ0, ← v2n.2.2.2.2.2.2.2.2, up_id]; exact aR_refl⟩
          · show f_X7_odds_l3b (nI t) (nI n) _ s.1 (nI n) s.2 = _
            unfold f_X7_odds_l3b
            rw [if_pos (Int32.le_refl _), hP.1]
          · have e8 : s.2 83 4 = Z i := by rw [hP.2.1 83 (by decide), up_same]
            have o' : aR (up m1 83 4 (Z (i + 1))) (up s.2 83 4 (Z (i + 1))) := by
              have := aR_up83 (i := 4) (x := Z (i + 1)) hP.2
              rw [up_up] at this
              exact this
            obtain ⟨m', e, r⟩ := aloneV_r (im := up s.2 83 4 (Z (i + 1))) (t := t) (V := setZ V (Z (i + 1))) (sp := spZ Z i) ((RR_Z v2n (x := Z (i + 1))).cg (o'.1 83 (by decide))) ok ht cs
            have r8 : m' 82 8 = (alV V t (spZ Z i)).2.1 6 := r.2.2.2.2.1
            refine ⟨(odS V t Z (i + 1), m'), ?_, rfl, aR_trans o' (out_aR r)⟩
            show f_X7_odds_l3b (nI t) (nI n) _ s.1 (nI i) s.2 = f_X7_odds_l3 (nI t) (nI n) f (if (alV V t (spZ Z i)).2.1 6 = 2 then odS V t Z i + 1 else odS V t Z i + 0) (nI (i + 1)) m'
            have ed : f_X7_draw s.2 = (jush (Z (i + 1)) 8, up s.2 83 4 (Z (i + 1))) := by
              unfold f_X7_draw
              rw [bnd_eq, e8, hZs, up_same]
            unfold f_X7_odds_l3b f_X7_odds_j4
            rw [if_neg (nI_ge hi (by omega)), ed, bnd_eq]
            show ((f_X7_alone (nI t) (spZ Z i) (up s.2 83 4 (Z (i + 1)))).bind fun r6 => _) = _
            rw [e, Option.bind_some, r8, hP.1, bnd_eq, bnd_eq, bnd_eq, bnd_eq, nI_1]
            by_cases c : (alV V t (spZ Z i)).2.1 6 = 2
            · rw [if_pos c, if_pos c]
            · rw [if_neg c, if_neg c]
        obtain ⟨m2, e2, o2⟩ := key2
        refine ⟨odS V t Z n, m1, m2, ?_, ?_, ?_⟩
        · rw [eC, ready_1 (by rw [r6, r4]; exact hc.1), if_neg i10]
          unfold f_X6_isTooLateToRoll
          rw [v1.2.2.2.2.2.2.2.1, if_pos hc.2, if_pos rfl, e1]
        · rw [eR m1 h83, ready7_1 (by omega) (by rw [h83]; exact w4) (by rw [h83, k6, k4]; exact hc.1), Option.bind_some, if_neg i10]
          unfold f_X7_isTooLate
          rw [v2n.2.2.2.2.2.2.2.1, if_pos ((late9799 v3).mp hc.2), if_pos rfl, e2]
        · have i0 : Inv (up (up im 1 8 (Z n)) 83 4 (Z n)) := hI.town (fun a h1 h2 => by rw [up_row h2, up_row (by omega)]) ⟨setZ V (Z n), (RC_Z v1).cg (fun a h1 h2 => up_row (by omega)) h10, RR_Z (v2.cg (up_row (by decide))), v3.Z⟩
          exact i0.agr ((agr_up (aC_agr o1) (by unfold scr; omega) (by decide) (by decide) (by decide)).trans (aR_agr o2))
      · refine bref5 hI ?_ (fun m hm => ?_)
        · rw [eC]
          unfold f_X6_odds_j2 f_X6_isTooLateToRoll
          by_cases c : rdy V t
          · rw [ready_1 (by rw [r6, r4]; exact c), if_neg i10, v1.2.2.2.2.2.2.2.1, if_neg (fun z => hc ⟨c, z⟩), if_neg i10, refuse_5, Option.bind_some]
          · rw [ready_0 (by rw [r6, r4]; exact c), if_pos rfl, refuse_5, Option.bind_some]
        · have h83 : m 83 = im 83 := by rw [hm, up_row (by decide)]
          rw [eR m h83]
          unfold f_X7_odds_j2 f_X7_isTooLate
          by_cases c : rdy V t
          · rw [ready7_1 (by omega) (by rw [h83]; exact w4) (by rw [h83, k6, k4]; exact c), Option.bind_some, if_neg i10, h83, v2.2.2.2.2.2.2.2.1, if_neg (fun z => hc ⟨c, (late9799 v3).mpr z⟩), if_neg i10, finds_5, Option.bind_some]
          · rw [ready7_0 (by omega) (by rw [h83]; exact w4) (by rw [h83, k6, k4]; exact c), Option.bind_some, if_pos rfl, finds_5, Option.bind_some]
    · refine bref1 hI ?_ (fun m hm => ?_)
      · unfold f_X6_odds f_X6_odds_j1
        rw [thing_1 h10 v1.2.2.2.2.1 ht, if_neg i10, within_0 hn, if_pos rfl, refuse_1, Option.bind_some]
      · have h83 : m 83 = im 83 := by rw [hm, up_row (by decide)]
        unfold f_X7_odds f_X7_odds_j1
        rw [thing7_1 h10 (by rw [h83]; exact v2.2.2.2.2.1) ht, if_neg i10, in_1_20, within_0 hn, if_pos rfl, finds_1, Option.bind_some]
  · refine bref1 hI ?_ (fun m hm => ?_)
    · unfold f_X6_odds f_X6_odds_j1
      rw [thing_0 h10 v1.2.2.2.2.1 ht, if_pos rfl, refuse_1, Option.bind_some]
    · have h83 : m 83 = im 83 := by rw [hm, up_row (by decide)]
      unfold f_X7_odds f_X7_odds_j1
      rw [thing7_0 h10 (by rw [h83]; exact v2.2.2.2.2.1) ht, if_pos rfl, finds_1, Option.bind_some]
