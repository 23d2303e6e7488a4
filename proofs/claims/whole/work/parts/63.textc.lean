/-! the class reads a text -/
theorem nmG : ∀ s, s < 5 → f_X1_nameOfGround (nI s) = 7 + s := by decide +kernel
theorem nmK : ∀ s, s < 7 → f_X1_nameOfKind (nI s) = 12 + s := by decide +kernel
theorem zb_x {m m' : IM} {X : TK} {r : Nat × Option TV} {x : Int32} (h : rdC m m' X r x) : zb x = x := by
  rcases h.2.2 with ⟨V', -, e, -⟩ | ⟨-, e⟩
  · rw [e, zb_1]
  · rw [e, zb_0]
theorem item_c {m : IM} {X : TK} {j : Nat} {V : TV} (hX : tks X) (h : cst m X j) (v : RC m 31 V) (h10 : vN V ≤ 10) : ∃ c : Int32 × IM, f_X1_readItem 31 m = some c ∧ rdC m c.2 X (pItem X j V) c.1 := by
  have q1 := hX.1
  have q2 := hX.2.1
  have lo1 : ∃ c : Nat, f_X1_readItem_l1 31 xF 0 m = (if c = 5 then f_X1_readItem_l2 31 xF 0 m else (f_X1_readGround 31 (nI c) (up m 66 7 (nI (go X j)))).bind fun r10 => some (zb r10.1, r10.2)) ∧ (c ≤ 5 ∧ (∀ s, s < c → ¬ wB X (7 + s) j = true) ∧ (c < 5 → wB X (7 + c) j = true)) := by
    refine loopG (fun f (_ : Unit) i => f_X1_readItem_l1 31 f i m) (fun c : Nat => if c = 5 then f_X1_readItem_l2 31 xF 0 m else (f_X1_readGround 31 (nI c) (up m 66 7 (nI (go X j)))).bind fun r10 => some (zb r10.1, r10.2)) 0 0 rfl 5 (by omega) (by omega) (fun i _ => ∀ s, s < i → ¬ wB X (7 + s) j = true) _ (fun f _ hP => ⟨5, ?_, Nat.le_refl _, hP, fun z => absurd z (by omega)⟩) (fun f _ i hi0 hi hP => ?_) () (fun s hs => absurd hs (Nat.not_lt_zero _))
    · show f_X1_readItem_l1b 31 _ (nI 5) m = if (5 : Nat) = 5 then _ else _
      unfold f_X1_readItem_l1b
      rw [if_pos (by decide), if_pos rfl]
    · have e0 : f_X1_readItem_l1 31 (f + 1) (nI i) m = if wB X (7 + i) j = true then (f_X1_readGround 31 (nI i) (up m 66 7 (nI (go X j)))).bind fun r10 => some (zb r10.1, r10.2) else f_X1_readItem_l1 31 f (nI (i + 1)) m := by
        show f_X1_readItem_l1b 31 _ (nI i) m = _
        unfold f_X1_readItem_l1b
        rw [if_neg (by rw [nI_ge_lit (n := 5) 5 (by decide) (by omega)]; omega), nmG i hi, takeWord_c hX h (by omega)]
        by_cases c : wB X (7 + i) j = true
        · rw [if_pos c, if_pos c, Option.bind_some]
          show (if (1 : Int32) = 0 then _ else (f_X1_readGround 31 (nI i) (up m 66 7 (nI (go X j)))).bind fun r10 => some (zb r10.1, r10.2)) = _
          rw [if_neg i10]
        · rw [if_neg c, if_neg c, Option.bind_some]
          show (if (0 : Int32) = 0 then bnd (nI i + 1) fun v9 => f_X1_readItem_l1 31 f v9 m else _) = _
          rw [if_pos rfl, bnd_eq, nI_1]
      by_cases c : wB X (7 + i) j = true
      · rw [if_pos c] at e0
        refine Or.inl ⟨i, ?_, by omega, hP, fun _ => c⟩
        rw [if_neg (by omega)]
        exact e0
      · rw [if_neg c] at e0
        refine Or.inr ⟨(), e0, fun s hs => ?_⟩
        by_cases e : s = i
        · subst e; exact c
        · exact hP s (by omega)
  obtain ⟨c, e1, c1, c2, c3⟩ := lo1
  have ec : c = gIx X j := by
    obtain ⟨g1, g2, g3⟩ := gIx_s (X := X) (j := j)
    exact first_u (P := fun s => wB X (7 + s) j = true) c1 g1 c2 g2 c3 g3
  unfold f_X1_readItem pItem
  rw [e1]
  by_cases c5 : c = 5
  · rw [if_pos c5, if_neg (by omega)]
    have lo2 : ∃ d : Nat, f_X1_readItem_l2 31 xF 0 m = (if d = 7 then (f_X1_takeWord 0 m).bind fun r1 => if r1.1 = 0 then (f_X1_takeWord 1 r1.2).bind fun r2 => if r2.1 = 0 then f_X1_readItem_j3 31 r2.2 else (f_X1_readShut 31 r2.2).bind fun r3 => if r3.1 = 0 then f_X1_readItem_j3 31 r3.2 else some (1, r3.2) else (f_X1_readFall 31 r1.2).bind fun r4 => some (zb r4.1, r4.2) else if f_X5_isFull 31 m = 0 then (f_X1_readThing 31 (nI d) m).bind fun r7 => if r7.1 = 0 then f_X1_readItem_j4 31 r7.2 else some (1, r7.2) else f_X1_readItem_j4 31 m) ∧ (d ≤ 7 ∧ (∀ s, s < d → ¬ wB X (12 + s) j = true) ∧ (d < 7 → wB X (12 + d) j = true)) := by
      refine loopG (fun f (_ : Unit) i => f_X1_readItem_l2 31 f i m) (fun d : Nat => if d = 7 then (f_X1_takeWord 0 m).bind fun r1 => if r1.1 = 0 then (f_X1_takeWord 1 r1.2).bind fun r2 => if r2.1 = 0 then f_X1_readItem_j3 31 r2.2 else (f_X1_readShut 31 r2.2).bind fun r3 => if r3.1 = 0 then f_X1_readItem_j3 31 r3.2 else some (1, r3.2) else (f_X1_readFall 31 r1.2).bind fun r4 => some (zb r4.1, r4.2) else if f_X5_isFull 31 m = 0 then (f_X1_readThing 31 (nI d) m).bind fun r7 => if r7.1 = 0 then f_X1_readItem_j4 31 r7.2 else some (1, r7.2) else f_X1_readItem_j4 31 m) 0 0 rfl 7 (by omega) (by omega) (fun i _ => ∀ s, s < i → ¬ wB X (12 + s) j = true) _ (fun f _ hP => ⟨7, ?_, Nat.le_refl _, hP, fun z => absurd z (by omega)⟩) (fun f _ i hi0 hi hP => ?_) () (fun s hs => absurd hs (Nat.not_lt_zero _))
      · show f_X1_readItem_l2b 31 _ (nI 7) m = if (7 : Nat) = 7 then _ else _
        unfold f_X1_readItem_l2b
        rw [if_pos (by decide), if_pos rfl]
      · have e0 : f_X1_readItem_l2 31 (f + 1) (nI i) m = if wB X (12 + i) j = true then (if f_X5_isFull 31 m = 0 then (f_X1_readThing 31 (nI i) m).bind fun r7 => if r7.1 = 0 then f_X1_readItem_j4 31 r7.2 else some (1, r7.2) else f_X1_readItem_j4 31 m) else f_X1_readItem_l2 31 f (nI (i + 1)) m := by
          show f_X1_readItem_l2b 31 _ (nI i) m = _
          unfold f_X1_readItem_l2b
          rw [if_neg (by rw [nI_ge_lit (n := 7) 7 (by decide) (by omega)]; omega), nmK i hi, isWord_c hX h (by omega), Option.bind_some, bnd_eq, nI_1]
          by_cases c : wB X (12 + i) j = true
          · rw [if_pos c, if_pos c, if_neg i10]
          · rw [if_neg c, if_neg c, if_pos rfl]
        by_cases c : wB X (12 + i) j = true
        · rw [if_pos c] at e0
          refine Or.inl ⟨i, ?_, by omega, hP, fun _ => c⟩
          rw [if_neg (by omega)]
          exact e0
        · rw [if_neg c] at e0
          refine Or.inr ⟨(), e0, fun s hs => ?_⟩
          by_cases e : s = i
          · subst e; exact c
          · exact hP s (by omega)
    obtain ⟨d, e2, d1, d2, d3⟩ := lo2
    have ed : d = kIx X j := by
      obtain ⟨g1, g2, g3⟩ := kIx_s (X := X) (j := j)
      exact first_u (P := fun s => wB X (12 + s) j = true) d1 g1 d2 g2 d3 g3
    rw [e2]
    by_cases d7 : d = 7
    · rw [if_pos d7, if_neg (by omega), takeWord_c hX h (a := 0) (by omega)]
      by_cases f0 : wB X 0 j = true
      · rw [if_pos f0, if_pos f0, Option.bind_some]
        have w0 : wfr m (up m 66 7 (nI (go X j))) := wfr_66 (by omega)
        obtain ⟨r, er, hr⟩ := fall_c (V := V) hX (go_c h) (RC_w v h10 w0) h10
        refine ⟨r, ?_, rdC_l hr (wfr_l w0)⟩
        show (if (1 : Int32) = 0 then _ else (f_X1_readFall 31 (up m 66 7 (nI (go X j)))).bind fun r4 => some (zb r4.1, r4.2)) = _
        rw [if_neg i10, er, Option.bind_some, zb_x hr]
      · rw [if_neg f0, if_neg f0, Option.bind_some]
        show ∃ c : Int32 × IM, (if (0 : Int32) = 0 then (f_X1_takeWord 1 m).bind fun r2 => if r2.1 = 0 then f_X1_readItem_j3 31 r2.2 else (f_X1_readShut 31 r2.2).bind fun r3 => if r3.1 = 0 then f_X1_readItem_j3 31 r3.2 else some (1, r3.2) else _) = some c ∧ _
        rw [if_pos rfl, takeWord_c hX h (a := 1) (by omega)]
        by_cases f1 : wB X 1 j = true
        · rw [if_pos f1, if_pos f1, Option.bind_some]
          have w0 : wfr m (up m 66 7 (nI (go X j))) := wfr_66 (by omega)
          obtain ⟨r, er, hr⟩ := shutI_c (V := V) hX (go_c h) (RC_w v h10 w0) h10
          refine ⟨r, ?_, rdC_l hr (wfr_l w0)⟩
          show (if (1 : Int32) = 0 then _ else (f_X1_readShut 31 (up m 66 7 (nI (go X j)))).bind fun r3 => if r3.1 = 0 then f_X1_readItem_j3 31 r3.2 else some (1, r3.2)) = _
          rw [if_neg i10, er, Option.bind_some]
          unfold f_X1_readItem_j3
          rcases hr.2.2 with ⟨V', -, e, -⟩ | ⟨-, e⟩
          · rw [if_neg (by rw [e]; decide), ← e]
          · rw [if_pos e, ← e]
        · rw [if_neg f1, if_neg f1, Option.bind_some]
          exact ⟨(0, m), rfl, h, lfr_refl, Or.inr ⟨rfl, rfl⟩⟩
    · rw [if_neg d7, if_pos (show kIx X j < 7 by omega), ed]
      unfold pThing f_X1_readItem_j4
      by_cases hN : vN V < 10
      · rw [full_0 v.2.2.2.2.1 hN, if_pos rfl, if_pos hN]
        obtain ⟨r, er, hr⟩ := thing_c (k := nI (kIx X j)) hX h hN v
        refine ⟨r, ?_, hr⟩
        rw [er, Option.bind_some]
        rcases hr.2.2 with ⟨V', -, e, -⟩ | ⟨-, e⟩
        · rw [if_neg (by rw [e]; decide), ← e]
        · rw [if_pos e, ← e]
      · rw [full_1 v.2.2.2.2.1 hN h10, if_neg i10, if_neg hN]
        exact ⟨(0, m), rfl, h, lfr_refl, Or.inr ⟨rfl, rfl⟩⟩
  · rw [if_neg c5, if_pos (by omega), ec]
    have w0 : wfr m (up m 66 7 (nI (go X j))) := wfr_66 (by omega)
    obtain ⟨r, er, hr⟩ := ground_c (s := nI (gIx X j)) (V := V) hX (go_c h) (RC_w v h10 w0) h10
    refine ⟨r, ?_, rdC_l hr (wfr_l w0)⟩
    rw [er, Option.bind_some, zb_x hr]
/-! what an item keeps -/
theorem le_go {X : TK} {j : Nat} : j ≤ go X j := by
  unfold go
  by_cases c : j < kJ X
  · rw [if_pos c]; omega
  · rw [if_neg c]; exact Nat.le_refl _
theorem go_lt {X : TK} {j : Nat} (h : j < kJ X) : go X j = j + 1 := by unfold go; rw [if_pos h]
theorem pCells_s {X : TK} {j : Nat} : j ≤ (pCells X j).1 ∧ ∀ a b, (pCells X j).2 = some (a, b) → a ≤ b ∧ b ≤ 30 := by
  unfold pCells
  have g1 := le_go (X := X) (j := j)
  have g2 := le_go (X := X) (j := go X j)
  have g3 := le_go (X := X) (j := go X (go X j))
  by_cases c1 : nB X j 0 30 = true
  · rw [if_pos c1]
    have := (nB_iff.mp c1).2.2
    by_cases c2 : wB X 3 (go X j) = true
    · rw [if_pos c2]
      by_cases c3 : nB X (go X (go X j)) (vl X j) 30 = true
      · rw [if_pos c3]
        have := (nB_iff.mp c3).2.2
        refine ⟨by show j ≤ go X (go X (go X j)); omega, fun a b e => ?_⟩
        have e : some (vl X j, vl X (go X (go X j))) = some (a, b) := e
        rw [Option.some.injEq, Prod.mk.injEq] at e
        omega
      · rw [if_neg c3]
        exact ⟨by show j ≤ go X (go X j); omega, fun a b e => absurd e (by simp)⟩
    · rw [if_neg c2]
      refine ⟨g1, fun a b e => ?_⟩
      have e : some (vl X j, vl X j) = some (a, b) := e
      rw [Option.some.injEq, Prod.mk.injEq] at e
      omega
  · rw [if_neg c1]
    exact ⟨Nat.le_refl _, fun a b e => absurd e (by simp)⟩
theorem pOpt_s {X : TK} {a lo hi d j : Nat} (hd : lo ≤ d ∧ d ≤ hi) : j ≤ (pOpt X a lo hi d j).1 ∧ ∀ x, (pOpt X a lo hi d j).2 = some x → lo ≤ x ∧ x ≤ hi := by
  unfold pOpt
  have g1 := le_go (X := X) (j := j)
  have g2 := le_go (X := X) (j := go X j)
  by_cases c1 : wB X a j = true
  · rw [if_pos c1]
    by_cases c2 : nB X (go X j) lo hi = true
    · rw [if_pos c2]
      have := (nB_iff.mp c2).2.2
      refine ⟨by show j ≤ go X (go X j); omega, fun x e => ?_⟩
      have e : some (vl X (go X j)) = some x := e
      rw [Option.some.injEq] at e
      omega
    · rw [if_neg c2]
      exact ⟨g1, fun x e => absurd e (by simp)⟩
  · rw [if_neg c1]
    refine ⟨Nat.le_refl _, fun x e => ?_⟩
    have e : some d = some x := e
    rw [Option.some.injEq] at e
    omega
theorem fG_ok {V : TV} {a e : Nat} {s : Int32} (h : OkV V) (hs : wi s 0 4) : OkV (fG V a e s) := by
  obtain ⟨h1, h2, h3, h4⟩ := h
  refine ⟨h1, h2, fun c hc => ?_, h4⟩
  show wi (if a ≤ c ∧ c < e then s else vG V c) 0 4
  by_cases z : a ≤ c ∧ c < e
  · rw [if_pos z]; exact hs
  · rw [if_neg z]; exact h3 c hc
theorem fF_ok {V : TV} {a e : Nat} {s : Int32} (h : OkV V) (hs : wi s (-9) 9) : OkV (fF V a e s) := by
  obtain ⟨h1, h2, h3⟩ := h
  refine ⟨h1, fun c hc => ?_, h3⟩
  show wi (if a ≤ c ∧ c < e then s else vF V c) (-9) 9
  by_cases z : a ≤ c ∧ c < e
  · rw [if_pos z]; exact hs
  · rw [if_neg z]; exact h2 c hc
theorem w9 : ∀ x, x < 10 → wi (nI x) (-9) 9 ∧ wi (-(nI x)) (-9) 9 := by unfold wi; decide +kernel
theorem newX_ok {k w r l : Nat} (h1 : k ≤ 6) (h2 : 1 ≤ w ∧ w ≤ 99) (h3 : 1 ≤ r ∧ r ≤ 9) (h4 : l ≤ 9) : OkT (newX (nI k) (nI w) (nI r) (nI l)) := by
  refine ⟨⟨nI_pos' (by omega), (nI_le_lit (n := 6) 6 (by decide) (by omega)).mpr h1⟩, ⟨(nI_ge_lit (n := 1) 1 (by decide) (by omega)).mpr h2.1, (nI_le_lit (n := 99) 99 (by decide) (by omega)).mpr h2.2⟩, ⟨(nI_ge_lit (n := 1) 1 (by decide) (by omega)).mpr h3.1, (nI_le_lit (n := 9) 9 (by decide) (by omega)).mpr h3.2⟩, ⟨nI_pos' (by omega), (nI_le_lit (n := 9) 9 (by decide) (by omega)).mpr h4⟩, ?_, ?_, ?_, fun z => absurd z (by show ¬ (0 : Int32) = 1; decide)⟩
  · show wi (0 : Int32) 0 30; unfold wi; decide
  · show wi (0 : Int32) 0 99; unfold wi; decide
  · show wi (0 : Int32) 0 3; unfold wi; decide
theorem pItem_s {X : TK} {j : Nat} {V V' : TV} (hX : tks X) (ok : OkV V) (e : (pItem X j V).2 = some V') : OkV V' ∧ j < (pItem X j V).1 := by
  unfold pItem at e ⊢
  obtain ⟨gi1, gi2, gi3⟩ := gIx_s (X := X) (j := j)
  obtain ⟨ki1, ki2, ki3⟩ := kIx_s (X := X) (j := j)
  by_cases c1 : gIx X j < 5
  · rw [if_pos c1] at e ⊢
    have hj := (wB_iff.mp (gi3 c1)).1
    have p := pCells_s (X := X) (j := go X j)
    rw [go_lt hj] at p e ⊢
    unfold pGr at e ⊢
    refine ⟨?_, by show j < (pCells X (j + 1)).1; omega⟩
    have e : (pCells X (j + 1)).2.map (fun ab => fillG V ab.1 ab.2 (nI (gIx X j))) = some V' := e
    cases hc : (pCells X (j + 1)).2 with
    | none => rw [hc] at e; exact absurd e (by simp)
    | some ab =>
      rw [hc] at e
      have e : some (fillG V ab.1 ab.2 (nI (gIx X j))) = some V' := e
      rw [Option.some.injEq] at e
      rw [← e]
      exact fG_ok ok ⟨nI_pos' (by omega), (nI_le_lit (n := 4) 4 (by decide) (by omega)).mpr (by omega)⟩
  · rw [if_neg c1] at e ⊢
    by_cases c2 : kIx X j < 7
    · rw [if_pos c2] at e ⊢
      have hj := (wB_iff.mp (ki3 c2)).1
      unfold pThing at e ⊢
      by_cases hN : vN V < 10
      · rw [if_pos hN] at e ⊢
        rw [go_lt hj] at e ⊢
        unfold pTh1 at e ⊢
        have o4 := pOpt_s (X := X) (a := 4) (lo := 1) (hi := 99) (d := 10) (j := j + 1) (by omega)
        cases h4 : (pOpt X 4 1 99 10 (j + 1)).2 with
        | none => rw [h4] at e; exact absurd e (by simp)
        | some w =>
          rw [h4] at e
          have w1 := o4.2 w h4
          show OkV V' ∧ j < (pTh2 X (pOpt X 4 1 99 10 (j + 1)).1 (nI (kIx X j)) V w).1
          have e : (pTh2 X (pOpt X 4 1 99 10 (j + 1)).1 (nI (kIx X j)) V w).2 = some V' := e
          have j4 := o4.1
          generalize (pOpt X 4 1 99 10 (j + 1)).1 = i at e j4
          unfold pTh2 at e ⊢
          have o5 := pOpt_s (X := X) (a := 5) (lo := 1) (hi := 9) (d := 4) (j := i) (by omega)
          cases h5 : (pOpt X 5 1 9 4 i).2 with
          | none => rw [h5] at e; exact absurd e (by simp)
          | some r =>
            rw [h5] at e
            have r1 := o5.2 r h5
            show OkV V' ∧ j < (pTh3 X (pOpt X 5 1 9 4 i).1 (nI (kIx X j)) V w r).1
            have e : (pTh3 X (pOpt X 5 1 9 4 i).1 (nI (kIx X j)) V w r).2 = some V' := e
            have j5 := o5.1
            generalize (pOpt X 5 1 9 4 i).1 = i2 at e j5
            unfold pTh3 at e ⊢
            have o6 := pOpt_s (X := X) (a := 6) (lo := 0) (hi := 9) (d := 0) (j := i2) (by omega)
            refine ⟨?_, by show j < (pOpt X 6 0 9 0 i2).1; omega⟩
            have e : (pOpt X 6 0 9 0 i2).2.map (fun l => addV V (newX (nI (kIx X j)) (nI w) (nI r) (nI l))) = some V' := e
            cases h6 : (pOpt X 6 0 9 0 i2).2 with
            | none => rw [h6] at e; exact absurd e (by simp)
            | some l =>
              rw [h6] at e
              have e : some (addV V (newX (nI (kIx X j)) (nI w) (nI r) (nI l))) = some V' := e
              rw [Option.some.injEq] at e
              rw [← e]
              exact OkV.add ok hN (newX_ok (by omega) w1 r1 (o6.2 l h6).2)
      · rw [if_neg hN] at e
        exact absurd e (by simp)
    · rw [if_neg c2] at e ⊢
      by_cases c3 : wB X 0 j = true
      · rw [if_pos c3] at e ⊢
        have hj := (wB_iff.mp c3).1
        rw [go_lt hj] at e ⊢
        unfold pFall at e ⊢
        have p := pCells_s (X := X) (j := j + 1)
        cases hc : (pCells X (j + 1)).2 with
        | none => rw [hc] at e; exact absurd e (by simp)
        | some ab =>
          rw [hc] at e
          show OkV V' ∧ j < (pFall2 X (pCells X (j + 1)).1 V ab).1
          have e : (pFall2 X (pCells X (j + 1)).1 V ab).2 = some V' := e
          have jc := p.1
          generalize (pCells X (j + 1)).1 = i at e jc
          unfold pFall2 at e ⊢
          by_cases c4 : wB X 2 i = true
          · rw [if_pos c4] at e ⊢
            by_cases c5 : nB X (sgn X (go X i)) 0 9 = true
            · rw [if_pos c5] at e ⊢
              have v9 := (nB_iff.mp c5).2.2.2
              have s1 : go X i ≤ sgn X (go X i) := by
                unfold sgn
                by_cases z : gB X (go X i) 45 = true
                · rw [if_pos z]; exact le_go
                · rw [if_neg z]; exact Nat.le_refl _
              have g1 := le_go (X := X) (j := i)
              have g2 := le_go (X := X) (j := sgn X (go X i))
              refine ⟨?_, by show j < go X (sgn X (go X i)); omega⟩
              have e : some (fillF V ab.1 ab.2 (if gB X (go X i) 45 = true then -(nI (vl X (sgn X (go X i)))) else nI (vl X (sgn X (go X i))))) = some V' := e
              rw [Option.some.injEq] at e
              rw [← e]
              refine fF_ok ok ?_
              have w := w9 (vl X (sgn X (go X i))) (by omega)
              by_cases z : gB X (go X i) 45 = true
              · rw [if_pos z]; exact w.2
              · rw [if_neg z]; exact w.1
            · rw [if_neg c5] at e
              exact absurd e (by simp)
          · rw [if_neg c4] at e
            exact absurd e (by simp)
      · rw [if_neg c3] at e ⊢
        by_cases c4 : wB X 1 j = true
        · rw [if_pos c4] at e ⊢
          have hj := (wB_iff.mp c4).1
          rw [go_lt hj] at e ⊢
          unfold pShut at e ⊢
          by_cases c5 : nB X (j + 1) 0 59 = true
          · rw [if_pos c5] at e ⊢
            by_cases c6 : wB X 3 (go X (j + 1)) = true
            · rw [if_pos c6] at e ⊢
              by_cases c7 : nB X (go X (go X (j + 1))) 0 59 = true
              · rw [if_pos c7] at e ⊢
                have g1 := le_go (X := X) (j := j + 1)
                have g2 := le_go (X := X) (j := go X (j + 1))
                have g3 := le_go (X := X) (j := go X (go X (j + 1)))
                refine ⟨?_, by show j < go X (go X (go X (j + 1))); omega⟩
                have e : some (setAB V (nI (vl X (j + 1))) (nI (vl X (go X (go X (j + 1)))))) = some V' := e
                rw [Option.some.injEq] at e
                rw [← e]
                have x1 := (nB_iff.mp c5).2.2.2
                have x2 := (nB_iff.mp c7).2.2.2
                obtain ⟨h1, h2, h3, h4, h5, h6, h7, h8⟩ := ok
                exact ⟨h1, h2, h3, h4, h5, ⟨nI_pos' (by omega), (nI_le_lit (n := 59) 59 (by decide) (by omega)).mpr x1⟩, ⟨nI_pos' (by omega), (nI_le_lit (n := 59) 59 (by decide) (by omega)).mpr x2⟩, h8⟩
              · rw [if_neg c7] at e
                exact absurd e (by simp)
            · rw [if_neg c6] at e
              exact absurd e (by simp)
          · rw [if_neg c5] at e
            exact absurd e (by simp)
        · rw [if_neg c4] at e
          exact absurd e (by simp)
