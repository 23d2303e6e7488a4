theorem nI_u {a b : Nat} (ha : a < 2 ^ 31) (hb : b < 2 ^ 31) (h : nI a = nI b) : a = b := by
  have := congrArg Int32.toInt h
  rw [nI_toInt ha, nI_toInt hb] at this
  omega
theorem foot_0 {x : Nat → Int32} (h : OkT x) : (decide (x 4 = 30) && pStd (x 6)) = true ↔ x 6 = 0 ∧ x 4 = 30 := by
  rw [Bool.and_eq_true, decide_eq_true_iff, std_iff]
  constructor
  · rintro ⟨h1, h2 | h2⟩
    · exact ⟨h2, h1⟩
    · have := h.2.2.2.2.2.2.2 h2
      rw [h1] at this
      exact absurd this (by decide)
  · rintro ⟨h1, h2⟩
    exact ⟨h2, Or.inl h1⟩
theorem foot_2 {a b : Nat} {V : TV} (hS : Sim a b V V) (ok : OkL V) (hab : a ≠ b) : cn (onW (vT V) 30) (vN V) = 2 ↔ vT V a 6 = 0 ∧ vT V b 6 = 0 ∧ vT V a 4 = 30 ∧ vT V b 4 = 30 := by
  obtain ⟨ha, hb⟩ := hS.2.1
  rw [cn_two hab ha hb (fun t ht z => ?_)]
  · unfold onW
    rw [foot_0 (ok.2.2.2.1 a ha), foot_0 (ok.2.2.2.1 b hb)]
    exact ⟨fun z => ⟨z.1.1, z.2.1, z.1.2, z.2.2⟩, fun z => ⟨⟨z.1, z.2.2.1⟩, z.2.1, z.2.2.2⟩⟩
  · by_cases c : t = a ∨ t = b
    · exact c
    · exact absurd (onW_std z).2 (hS.2.2.2 t ht c).1
theorem Sim.l {a b : Nat} {V W : TV} (h : Sim a b V W) : Sim a b V V := ⟨⟨rfl, rfl, rfl, rfl, rfl, rfl⟩, h.2.1, fun _ _ => rfl, fun t ht hn => ⟨(h.2.2.2 t ht hn).1, (h.2.2.2 t ht hn).1⟩⟩
theorem behind_c {im : IM} {V : TV} {a b : Nat} (v : RC im 31 V) (ok : OkL V) (hS : Sim a b V V) (hab : a ≠ b) (hr : rdy V b) : ∃ c : Nat × IM, f_X6_behind_l3 (nI a) (nI b) xF 1 im = (if c.1 = 60 then (f_X6_refuse (-1000004) c.2).bind fun r4 => some (r4.1, r4.2) else some (nI c.1, c.2)) ∧ ((∀ x, ¬ (31 ≤ x ∧ x < 61) → c.2 x = im x) ∧ 1 ≤ c.1 ∧ c.1 ≤ 60 ∧ (∀ j, 1 ≤ j → j < c.1 → ¬ hitB a b V j) ∧ (c.1 < 60 → hitB a b V c.1)) := by
  have h10 := ok.1
  obtain ⟨ha, hb⟩ := hS.2.1
  have ib := inb_nI (show b < 10 by omega) (show 10 < 2 ^ 31 by decide)
  have it : ix (nI b) = b := ix_nI (by omega)
  refine loopG (fun f m i => f_X6_behind_l3 (nI a) (nI b) f i m) (fun c : Nat × IM => if c.1 = 60 then (f_X6_refuse (-1000004) c.2).bind fun r4 => some (r4.1, r4.2) else some (nI c.1, c.2)) 1 1 rfl 60 (by omega) (by omega) (fun i m => RC m 31 (itV V (i - 1)) ∧ (∀ x, ¬ (31 ≤ x ∧ x < 61) → m x = im x) ∧ (∀ j, j < i - 1 → minMet (itV V j) = 0) ∧ ∀ j, 1 ≤ j → j < i → ¬ hitB a b V j) _ (fun f m hP => ⟨(60, m), ?_, hP.2.1, by show 1 ≤ 60; omega, Nat.le_refl _, hP.2.2.2, fun z => absurd z (Nat.lt_irrefl _)⟩) (fun f m i hi0 hi hP => ?_) im ⟨v, fun _ _ => rfl, fun j hj => absurd hj (Nat.not_lt_zero _), fun j h1 h2 => absurd h2 (by omega)⟩
  · show f_X6_behind_l3b (nI a) (nI b) _ (nI 60) m = if (60 : Nat) = 60 then _ else _
    unfold f_X6_behind_l3b
    rw [if_pos (by decide), if_pos rfl]
  · obtain ⟨p1, p2, p3, p4⟩ := hP
    have n59 : ¬ (59 : Int32) < nI i := by rw [nI_gt_lit (n := 59) 59 (by decide) (by omega)]; omega
    have okp := it_ok ok (i - 1)
    obtain ⟨m1, e1, r1, o1⟩ := minute_c p1 okp
    have ei : minV (itV V (i - 1)) = itV V i := by
      rw [show i = (i - 1) + 1 by omega]
      rfl
    rw [ei] at r1
    have hm10 := minMet_le okp.1
    by_cases q : minMet (itV V (i - 1)) = 0
    · have okn := it_ok ok i
      have hbn : b < vN (itV V i) := by rw [it_N]; exact hb
      obtain ⟨mb, eb, rb, ob⟩ := become_c (im := m1) (T := 46) (S := 31) (by omega) r1 okn.1
      obtain ⟨rl, ol⟩ := letV_c (sp := 10) rb okn.1 hbn
      have okl : OkL (letV (itV V i) b 10) := letV_ok okn hbn (by rw [(rest_it hr.1 i).2]; exact hr.2)
      obtain ⟨⟨r, k, m2⟩, e2, fm, r2, o2⟩ := first_c rl okl
      have e2 : f_X5_firstMeeting 46 200 (f_X4_letGo (51 + b) 10 mb) = some (nI r, m2) := e2
      have fm : FM (letV (itV V i) b 10) r k := fm
      have r2 : RC m2 46 (itV (letV (itV V i) b 10) k) := r2
      have o2 : ∀ x, ¬ (46 ≤ x ∧ x < 46 + 15) → m2 x = f_X4_letGo (46 + 5 + b) 10 mb x := o2
      have oo : ∀ x, ¬ (46 ≤ x ∧ x < 61) → m2 x = m1 x := fun x hx => by rw [o2 x (by omega), ol x (by omega), ob x (by omega)]
      have oi : ∀ x, ¬ (31 ≤ x ∧ x < 61) → m2 x = im x := fun x hx => by rw [oo x (by omega), o1 x (by omega)]; exact p2 x hx
      have q3 : ∀ j, j < i → minMet (itV V j) = 0 := fun j hj => by
        by_cases e : j = i - 1
        · rw [e]; exact q
        · exact p3 j (by omega)
      have okk := it_ok okl k
      have Sk : Sim a b (itV (letV (itV V i) b 10) k) (itV (letV (itV V i) b 10) k) := ((hS.it i).lt (Or.inr rfl) 10).it k
      have e0 : f_X6_behind_l3 (nI a) (nI b) (f + 1) (nI i) m = if nI r = 0 then (if nI (cn (onW (vT (itV (letV (itV V i) b 10) k)) 30) (vN (itV (letV (itV V i) b 10) k))) = 2 then some (nI i, m2) else f_X6_behind_l3 (nI a) (nI b) f (nI (i + 1)) m2) else f_X6_behind_l3 (nI a) (nI b) f (nI (i + 1)) m2 := by
        show f_X6_behind_l3b (nI a) (nI b) _ (nI i) m = _
        unfold f_X6_behind_l3b f_X6_behind_j4
        rw [if_neg n59, e1, Option.bind_some, q, if_pos (show (nI 0 : Int32) ≤ 0 by decide), eb, Option.bind_some, if_pos ib, bnd_eq, it, e2, Option.bind_some, rest_V r2 okk, Option.bind_some, bc_sOf okk.1, bnd_eq, nI_1]
      have hr200 : r ≤ 200 := by
        obtain ⟨f1, f2, f3⟩ := fm
        rcases f3 with ⟨f3, -⟩ | ⟨f3, -⟩
        · omega
        · omega
      have hcn : cn (onW (vT (itV (letV (itV V i) b 10) k)) 30) (vN (itV (letV (itV V i) b 10) k)) ≤ 10 := Nat.le_trans cn_le okk.1
      by_cases c : r = 0 ∧ cn (onW (vT (itV (letV (itV V i) b 10) k)) 30) (vN (itV (letV (itV V i) b 10) k)) = 2
      · obtain ⟨c1, c2⟩ := c
        subst c1
        rw [c2, if_pos (by decide), if_pos (by decide)] at e0
        refine Or.inl ⟨(i, m2), ?_, oi, hi0, by show i ≤ 60; omega, p4, fun _ => ⟨q3, k, fm, (foot_2 Sk okk hab).mp c2⟩⟩
        show f_X6_behind_l3 (nI a) (nI b) (f + 1) (nI i) m = if i = 60 then _ else some (nI i, m2)
        rw [if_neg (by omega), e0]
      · have e1' : f_X6_behind_l3 (nI a) (nI b) (f + 1) (nI i) m = f_X6_behind_l3 (nI a) (nI b) f (nI (i + 1)) m2 := by
          rw [e0]
          by_cases c1 : r = 0
          · rw [c1, if_pos (by decide), if_neg (fun z => c ⟨c1, (nI_eq_lit (n := 2) 2 (by decide) (by omega)).mp z⟩)]
          · rw [if_neg (nI_ne0 (by omega) (by omega))]
        refine Or.inr ⟨m2, e1', ?_, oi, ?_, fun j h1 h2 => ?_⟩
        · rw [show i + 1 - 1 = i by omega]
          exact r1.cg (fun x g1 g2 => oo x (by omega)) okn.1
        · rw [show i + 1 - 1 = i by omega]; exact q3
        · by_cases e : j = i
          · subst e
            rintro ⟨-, l, l1, l2⟩
            by_cases c1 : r = 0
            · subst c1
              rw [FM_u l1 fm] at l2
              exact c ⟨rfl, (foot_2 Sk okk hab).mpr l2⟩
            · obtain ⟨g, g1, g2⟩ := FM_n0 fm c1
              exact g2 (FM_0 l1 g g1)
          · exact p4 j h1 (by omega)
    · refine Or.inl ⟨(60, m1), ?_, fun x hx => by show m1 x = im x; rw [o1 x (by omega)]; exact p2 x hx, by show 1 ≤ 60; omega, Nat.le_refl _, fun j h1 h2 => ?_, fun z => absurd z (Nat.lt_irrefl _)⟩
      · show f_X6_behind_l3b (nI a) (nI b) _ (nI i) m = if (60 : Nat) = 60 then _ else _
        unfold f_X6_behind_l3b
        rw [if_neg n59, e1, Option.bind_some, if_neg (nI_nle (by omega) (by omega)), if_pos rfl]
      · by_cases e : j < i
        · exact p4 j h1 e
        · exact fun z => q (z.1 (i - 1) (by omega))
theorem clear_r {s : IM} {V : TV} {a b : Nat} {k4 : Int32 → Int32 → IM → Option (Int32 × IM)} {x4 : Int32} (v : RR s 83 V) (h10 : vN V ≤ 10) (ha : a < vN V) (hb : b < vN V) : ∃ m, f_X7_behind_l5 (nI a) (nI b) k4 xF x4 0 s = ((f_X7_letsGo (nI a) 10 m).bind fun r9 => (f_X7_isQuiet x4 r9).bind fun r10 => if r10.1 = 0 then f_X7_behind_j6 (nI a) (nI b) k4 x4 r10.1 0 (nI b) r10.2 else f_X7_behind_j6 (nI a) (nI b) k4 x4 r10.1 10 (nI b) r10.2) ∧ (RR m 83 (clrV V a b 3) ∧ mr s m) := by
  refine loopG (fun f m i => f_X7_behind_l5 (nI a) (nI b) k4 f x4 i m) (fun m : IM => (f_X7_letsGo (nI a) 10 m).bind fun r9 => (f_X7_isQuiet x4 r9).bind fun r10 => if r10.1 = 0 then f_X7_behind_j6 (nI a) (nI b) k4 x4 r10.1 0 (nI b) r10.2 else f_X7_behind_j6 (nI a) (nI b) k4 x4 r10.1 10 (nI b) r10.2) 0 0 rfl (vN V) (by omega) (by omega) (fun i m => RR m 83 (setW V (cW V a b 3 i)) ∧ mr s m) _ (fun f m hP => ⟨m, ?_, hP⟩) (fun f m i hi0 hi hP => Or.inr ?_) s ⟨by rw [cW_0]; exact v, mr_refl⟩
  · show f_X7_behind_l5b (nI a) (nI b) _ _ x4 (nI (vN V)) m = _
    unfold f_X7_behind_l5b
    rw [show m 83 1 = nI (vN V) from hP.1.2.2.2.2.1, if_pos (Int32.le_refl _)]
  · have hN : m 83 1 = nI (vN V) := hP.1.2.2.2.2.1
    by_cases c : i = a ∨ i = b
    · refine ⟨m, ?_, by rw [cW_k c]; exact hP.1, hP.2⟩
      have e11 : f_X7_behind_j11 (nI a) (nI b) k4 (f_X7_behind_l5 (nI a) (nI b) k4 f) x4 (nI i) (f_X7_at (nI i) 6) m = f_X7_behind_l5 (nI a) (nI b) k4 f x4 (nI (i + 1)) m := by
        unfold f_X7_behind_j11 f_X7_behind_j12
        rw [if_pos (at_in (w := 6) 6 rfl (by omega) (by decide)), if_pos (at_in (w := 6) 6 rfl (by omega) (by decide)), bnd_eq, bnd_eq, nI_1, up_id]
      show f_X7_behind_l5b (nI a) (nI b) _ _ x4 (nI i) m = _
      unfold f_X7_behind_l5b
      rw [hN, if_neg (nI_ge hi (by omega)), e11]
      by_cases c1 : nI i = nI a
      · rw [if_pos c1]
      · rw [if_neg c1]
        rcases c with c | c
        · exact absurd (by rw [c]) c1
        · rw [if_pos (by rw [c])]
    · have na : ¬ nI i = nI a := fun z => c (Or.inl (nI_u (by omega) (by omega) z))
      have nb : ¬ nI i = nI b := fun z => c (Or.inr (nI_u (by omega) (by omega) z))
      refine ⟨up m 83 (67 + 9 * i + 6) 3, ?_, ?_, mr_83 hP.2⟩
      · show f_X7_behind_l5b (nI a) (nI b) _ _ x4 (nI i) m = _
        unfold f_X7_behind_l5b f_X7_behind_j12
        rw [hN, if_neg (nI_ge hi (by omega)), if_neg na, if_neg nb, if_pos (at_in (w := 6) 6 rfl (by omega) (by decide)), at_ix (w := 6) 6 rfl (by omega) (by decide), bnd_eq, bnd_eq, nI_1]
      · rw [← cW_s]
        refine RR_row hP.1 h10 (by omega) _ (fun w hw => ?_) (fun k hk => up_ne (by omega))
        show up m 83 (67 + 9 * i + 6) 3 83 (67 + 9 * i + w) = clrRow V a b 3 i w
        unfold clrRow
        rw [if_neg c]
        by_cases e : w = 6
        · subst e; rw [up_same, pl_same]
        · rw [up_ne (by omega), pl_ne e]
          have := hP.1.2.2.1 i hi w hw
          rw [cW_i] at this
          exact this
theorem play_r {s : IM} {W : TV} {a b : Nat} {k4 : Int32 → Int32 → IM → Option (Int32 × IM)} {x4 : Int32} (v : RR s 83 W) (ok : OkL W) : ∃ c : Int32 × IM, f_X7_behind_l7 (nI a) (nI b) k4 xF x4 1 0 s = f_X7_behind_j8 (nI a) (nI b) k4 x4 c.1 c.2 ∧ (mr s c.2 ∧ ((c.1 = 1 ∧ ∃ k, FM W 0 k ∧ RR c.2 83 (itV W k)) ∨ (c.1 = 0 ∧ ∃ j, j < 200 ∧ ¬ minMet (itV W j) = 0))) := by
  refine loopG (fun f (q : Int32 × IM) i => f_X7_behind_l7 (nI a) (nI b) k4 f x4 q.1 i q.2) (fun c : Int32 × IM => f_X7_behind_j8 (nI a) (nI b) k4 x4 c.1 c.2) 0 0 rfl 200 (by omega) (by omega) (fun i q => mr s q.2 ∧ ((q.1 = 1 ∧ RR q.2 83 (itV W i) ∧ ∀ j, j < i → minMet (itV W j) = 0 ∧ rollg (itV W j)) ∨ (q.1 = 0 ∧ ∃ j, j < 200 ∧ ¬ minMet (itV W j) = 0))) _ (fun f q hP => ?_) (fun f q i hi0 hi hP => ?_) (1, s) ⟨mr_refl, Or.inl ⟨rfl, v, fun j hj => absurd hj (Nat.not_lt_zero _)⟩⟩
  · refine ⟨q, ?_, hP.1, ?_⟩
    · show f_X7_behind_l7b (nI a) (nI b) _ _ x4 q.1 (nI 200) q.2 = _
      unfold f_X7_behind_l7b
      rw [if_pos (by decide)]
    rcases hP.2 with ⟨p1, p2, p3⟩ | p
    · exact Or.inl ⟨p1, 200, ⟨Nat.le_refl _, fun i hi => (p3 i hi).2, Or.inl ⟨rfl, fun i hi => (p3 i hi).1, Or.inl rfl⟩⟩, p2⟩
    · exact Or.inr p
  · have n200 : ¬ (200 : Int32) ≤ nI i := by rw [nI_ge_lit (n := 200) 200 (by decide) (by omega)]; omega
    obtain ⟨p0, ⟨p1, p2, p3⟩ | ⟨p1, p2⟩⟩ := hP
    · have okn := it_ok ok i
      have er : f_X7_isRolling q.2 = some (if sOf (fun t => decide (vT (itV W i) t 6 = 1)) (vN (itV W i)) = 0 then 0 else 1) := by
        unfold f_X7_isRolling
        rw [areIn_V p2 okn.1, Option.bind_some]
        by_cases z : sOf (fun t => decide (vT (itV W i) t 6 = 1)) (vN (itV W i)) = 0
        · rw [if_pos z, if_pos z]
        · rw [if_neg z, if_neg z]
      by_cases g : rollg (itV W i)
      · obtain ⟨⟨r, m'⟩, e, o, h⟩ := quiet_r (N := 1) p2 okn (by omega)
        have e : f_X7_isQuiet 1 q.2 = some (r, m') := e
        have e0 : f_X7_behind_l7 (nI a) (nI b) k4 (f + 1) x4 q.1 (nI i) q.2 = f_X7_behind_l7 (nI a) (nI b) k4 f x4 r (nI (i + 1)) m' := by
          show f_X7_behind_l7b (nI a) (nI b) _ _ x4 q.1 (nI i) q.2 = _
          unfold f_X7_behind_l7b
          rw [if_neg n200, p1, if_neg i10, er, Option.bind_some, if_neg (fun z => (roll_sOf okn.1).mp z g), if_neg i10, e, Option.bind_some, bnd_eq, nI_1]
        refine Or.inr ⟨(r, m'), e0, mr_trans p0 o, ?_⟩
        rcases h with ⟨h1, h2, h3⟩ | ⟨h1, j, h2, h3⟩
        · refine Or.inl ⟨h1, h3, fun j hj => ?_⟩
          by_cases ej : j = i
          · subst ej; exact ⟨h2 0 (by omega), g⟩
          · exact p3 j (by omega)
        · have : j = 0 := by omega
          subst this
          exact Or.inr ⟨h1, i, hi, h3⟩
      · refine Or.inl ⟨q, ?_, p0, Or.inl ⟨p1, i, ⟨by omega, fun j hj => (p3 j hj).2, Or.inl ⟨rfl, fun j hj => (p3 j hj).1, Or.inr g⟩⟩, p2⟩⟩
        show f_X7_behind_l7b (nI a) (nI b) _ _ x4 q.1 (nI i) q.2 = _
        unfold f_X7_behind_l7b
        rw [if_neg n200, p1, if_neg i10, er, Option.bind_some, if_pos ((roll_sOf okn.1).mpr g), if_pos rfl]
    · refine Or.inl ⟨q, ?_, p0, Or.inr ⟨p1, p2⟩⟩
      show f_X7_behind_l7b (nI a) (nI b) _ _ x4 q.1 (nI i) q.2 = _
      unfold f_X7_behind_l7b
      rw [if_neg n200, p1, if_pos rfl]
theorem end_r {m : IM} {W : TV} {a b : Nat} {k4 : Int32 → Int32 → IM → Option (Int32 × IM)} {x4 : Int32} (v : RR m 83 W) (h10 : vN W ≤ 10) (ha : a < vN W) (hb : b < vN W) : f_X7_behind_j8 (nI a) (nI b) k4 x4 1 m = f_X7_behind_j10 (nI a) (nI b) k4 x4 (@ite _ (vT W a 6 = 0 ∧ vT W b 6 = 0 ∧ vT W a 4 = 30 ∧ vT W b 4 = 30) (Classical.propDecidable _) x4 (-1)) m := by
  unfold f_X7_behind_j8 f_X7_behind_j9
  rw [if_neg i10, its_w (w := 6) 6 rfl (by omega) (by decide), Option.bind_some, v.2.2.1 a ha 6 (by decide), its_w (w := 6) 6 rfl (by omega) (by decide), Option.bind_some, v.2.2.1 b hb 6 (by decide), its_w (w := 4) 4 rfl (by omega) (by decide), Option.bind_some, v.2.2.1 a ha 4 (by decide), its_w (w := 4) 4 rfl (by omega) (by decide), Option.bind_some, v.2.2.1 b hb 4 (by decide)]
  by_cases c1 : vT W a 6 = 0
  · rw [if_pos c1]
    by_cases c2 : vT W b 6 = 0
    · rw [if_pos c2]
      by_cases c3 : vT W a 4 = 30
      · rw [if_pos c3]
        by_cases c4 : vT W b 4 = 30
        · rw [if_pos c4, if_pos ⟨c1, c2, c3, c4⟩]
        · rw [if_neg c4, if_neg (fun z => c4 z.2.2.2)]
      · rw [if_neg c3, if_neg (fun z => c3 z.2.2.1)]
    · rw [if_neg c2, if_neg (fun z => c2 z.2.1)]
  · rw [if_neg c1, if_neg (fun z => c1 z.1)]
theorem behind_r {im m2 : IM} {V : TV} {a b : Nat} (c1 : cpR im m2 85 83 167) (v : RR m2 83 V) (ok : OkL V) (ha : a < vN V) (hb : b < vN V) (ra : rdy V a) (rb : rdy V b) (hab : a ≠ b) : ∃ c : Nat × IM, f_X7_behind_l3 (nI a) (nI b) xF (-1) 1 m2 = f_X7_behind_j4 (nI a) (nI b) (if c.1 = 60 then -1 else nI c.1) c.2 ∧ (lk m2 c.2 ∧ 1 ≤ c.1 ∧ c.1 ≤ 60 ∧ (∀ j, 1 ≤ j → j < c.1 → ¬ hitB a b (letV (clrV V a b 3) a 10) j) ∧ (c.1 < 60 → hitB a b (letV (clrV V a b 3) a 10) c.1)) := by
  have h10 := ok.1
  have ta : vT (clrV V a b 3) a = vT V a := by rw [clrV_T ha]; unfold clrRow; rw [if_pos (Or.inl rfl)]
  have tb : vT (clrV V a b 3) b = vT V b := by rw [clrV_T hb]; unfold clrRow; rw [if_pos (Or.inr rfl)]
  have okR : OkL (letV (clrV V a b 3) a 10) := letV_ok (clrV_ok ok (by unfold wi; decide) (by decide)) ha (by rw [ta]; exact ra.2)
  have tb2 : vT (letV (clrV V a b 3) a 10) b = vT V b := by
    show (if b = a then _ else vT (clrV V a b 3) b) = _
    rw [if_neg (Ne.symm hab), tb]
  refine loopG (fun f (s : Int32 × IM) i => f_X7_behind_l3 (nI a) (nI b) f s.1 i s.2) (fun c : Nat × IM => f_X7_behind_j4 (nI a) (nI b) (if c.1 = 60 then -1 else nI c.1) c.2) 1 1 rfl 60 (by omega) (by omega) (fun i s => lk m2 s.2 ∧ ((s.1 = -1 ∧ ∀ j, 1 ≤ j → j < i → ¬ hitB a b (letV (clrV V a b 3) a 10) j) ∨ (2 ≤ i ∧ s.1 = nI (i - 1) ∧ hitB a b (letV (clrV V a b 3) a 10) (i - 1) ∧ ∀ j, 1 ≤ j → j < i - 1 → ¬ hitB a b (letV (clrV V a b 3) a 10) j))) _ (fun f s hP => ?_) (fun f s i hi0 hi hP => ?_) (-1, m2) ⟨lk_refl, Or.inl ⟨rfl, fun j h1 hj => absurd hj (by omega)⟩⟩
  · have e0 : f_X7_behind_l3 (nI a) (nI b) (f + 1) s.1 (nI 60) s.2 = f_X7_behind_j4 (nI a) (nI b) s.1 s.2 := by
      show f_X7_behind_l3b (nI a) (nI b) _ s.1 (nI 60) s.2 = _
      unfold f_X7_behind_l3b
      rw [if_pos (by decide)]
    obtain ⟨p1, ⟨p2, p3⟩ | ⟨p2, p3, p4, p5⟩⟩ := hP
    · refine ⟨(60, s.2), ?_, p1, by show 1 ≤ 60; omega, Nat.le_refl _, p3, fun z => absurd z (Nat.lt_irrefl _)⟩
      show f_X7_behind_l3 (nI a) (nI b) (f + 1) s.1 (nI 60) s.2 = f_X7_behind_j4 (nI a) (nI b) (if (60 : Nat) = 60 then -1 else nI 60) s.2
      rw [e0, if_pos rfl, p2]
    · refine ⟨(59, s.2), ?_, p1, by show 1 ≤ 59; omega, by show 59 ≤ 60; omega, p5, fun _ => p4⟩
      show f_X7_behind_l3 (nI a) (nI b) (f + 1) s.1 (nI 60) s.2 = f_X7_behind_j4 (nI a) (nI b) (if (59 : Nat) = 60 then -1 else nI 59) s.2
      rw [e0, if_neg (by decide), p3]
  · have n60 : ¬ (60 : Int32) ≤ nI i := by rw [nI_ge_lit (n := 60) 60 (by decide) (by omega)]; omega
    obtain ⟨p1, ⟨p2, p3⟩ | ⟨p2, p3, p4, p5⟩⟩ := hP
    · have vs : RR s.2 83 V := v.pt h10 p1.2
      obtain ⟨m3, e3, r3, q3⟩ := clear_r (a := a) (b := b) (k4 := f_X7_behind_l3 (nI a) (nI b) f) (x4 := nI i) vs h10 ha hb
      obtain ⟨⟨r, m5⟩, e5, q5, h5⟩ := quiet_r (N := i) (letV_r (sp := 10) r3 h10 ha) okR (by omega)
      have e5 : f_X7_isQuiet (nI i) (up (up m3 83 (67 + 9 * a + 6) 1) 83 (67 + 9 * a + 5) 10) = some (r, m5) := e5
      have q5 : mr s.2 m5 := mr_trans (mr_83 (mr_83 q3)) q5
      have e0 : f_X7_behind_l3 (nI a) (nI b) (f + 1) s.1 (nI i) s.2 = if r = 0 then f_X7_behind_j6 (nI a) (nI b) (f_X7_behind_l3 (nI a) (nI b) f) (nI i) r 0 (nI b) m5 else f_X7_behind_j6 (nI a) (nI b) (f_X7_behind_l3 (nI a) (nI b) f) (nI i) r 10 (nI b) m5 := by
        show f_X7_behind_l3b (nI a) (nI b) _ s.1 (nI i) s.2 = _
        unfold f_X7_behind_l3b
        rw [if_neg n60, p2, if_neg (by decide), e3, letsGo_r (by omega), Option.bind_some, e5, Option.bind_some]
      have no : ¬ hitB a b (letV (clrV V a b 3) a 10) i → ∀ m6, mr s.2 m6 → f_X7_behind_l3 (nI a) (nI b) (f + 1) s.1 (nI i) s.2 = f_X7_behind_j10 (nI a) (nI b) (f_X7_behind_l3 (nI a) (nI b) f) (nI i) (-1) m6 → ∃ a' : Int32 × IM, f_X7_behind_l3 (nI a) (nI b) (f + 1) s.1 (nI i) s.2 = f_X7_behind_l3 (nI a) (nI b) f a'.1 (nI (i + 1)) a'.2 ∧ (lk m2 a'.2 ∧ ((a'.1 = -1 ∧ ∀ j, 1 ≤ j → j < i + 1 → ¬ hitB a b (letV (clrV V a b 3) a 10) j) ∨ (2 ≤ i + 1 ∧ a'.1 = nI (i + 1 - 1) ∧ hitB a b (letV (clrV V a b 3) a 10) (i + 1 - 1) ∧ ∀ j, 1 ≤ j → j < i + 1 - 1 → ¬ hitB a b (letV (clrV V a b 3) a 10) j))) := by
        intro nh m6 q6 e6
        obtain ⟨m7, e7, c7⟩ := putsBack_r m6
        refine ⟨(-1, m7), ?_, lk_back c1 p1 q6 c7, Or.inl ⟨rfl, fun j h1 hj => ?_⟩⟩
        · rw [e6]
          unfold f_X7_behind_j10
          rw [e7, Option.bind_some, bnd_eq, nI_1]
        · by_cases e : j = i
          · subst e; exact nh
          · exact p3 j h1 (by omega)
      rcases h5 with ⟨z, h5, r5⟩ | ⟨z, j, h5, h6⟩
      · have z : r = 1 := z
        have r5 : RR m5 83 (itV (letV (clrV V a b 3) a 10) i) := r5
        have okn := it_ok okR i
        have hbn : b < vN (itV (letV (clrV V a b 3) a 10) i) := by rw [it_N]; exact hb
        have okW : OkL (letV (itV (letV (clrV V a b 3) a 10) i) b 10) := letV_ok okn hbn (by rw [(rest_it (by rw [tb2]; exact rb.1) i).2, tb2]; exact rb.2)
        obtain ⟨⟨y, m6⟩, e6, q6, h6⟩ := play_r (a := a) (b := b) (k4 := f_X7_behind_l3 (nI a) (nI b) f) (x4 := nI i) (letV_r (sp := 10) r5 okn.1 hbn) okW
        have e6 : f_X7_behind_l7 (nI a) (nI b) (f_X7_behind_l3 (nI a) (nI b) f) xF (nI i) 1 0 (up (up m5 83 (67 + 9 * b + 6) 1) 83 (67 + 9 * b + 5) 10) = f_X7_behind_j8 (nI a) (nI b) (f_X7_behind_l3 (nI a) (nI b) f) (nI i) y m6 := e6
        have q6 : mr s.2 m6 := mr_trans (mr_83 (mr_83 q5)) q6
        rw [z, if_neg i10] at e0
        unfold f_X7_behind_j6 at e0
        rw [letsGo_r (by omega), Option.bind_some, e6] at e0
        rcases h6 with ⟨z6, k, fm, r6⟩ | ⟨z6, j, h6, h7⟩
        · have z6 : y = 1 := z6
          have r6 : RR m6 83 (itV (letV (itV (letV (clrV V a b 3) a 10) i) b 10) k) := r6
          have okk := it_ok okW k
          have eN : vN (itV (letV (itV (letV (clrV V a b 3) a 10) i) b 10) k) = vN V := by
            rw [it_N]
            show vN (itV (letV (clrV V a b 3) a 10) i) = _
            rw [it_N]
            rfl
          rw [z6, end_r r6 okk.1 (by rw [eN]; exact ha) (by rw [eN]; exact hb)] at e0
          by_cases c : vT (itV (letV (itV (letV (clrV V a b 3) a 10) i) b 10) k) a 6 = 0 ∧ vT (itV (letV (itV (letV (clrV V a b 3) a 10) i) b 10) k) b 6 = 0 ∧ vT (itV (letV (itV (letV (clrV V a b 3) a 10) i) b 10) k) a 4 = 30 ∧ vT (itV (letV (itV (letV (clrV V a b 3) a 10) i) b 10) k) b 4 = 30
          · rw [if_pos c] at e0
            obtain ⟨m7, e7, c7⟩ := putsBack_r m6
            refine Or.inr ⟨(nI i, m7), ?_, lk_back c1 p1 q6 c7, Or.inr ⟨by omega, rfl, ⟨h5, k, fm, c⟩, p3⟩⟩
            show f_X7_behind_l3 (nI a) (nI b) (f + 1) s.1 (nI i) s.2 = f_X7_behind_l3 (nI a) (nI b) f (nI i) (nI (i + 1)) m7
            rw [e0]
            unfold f_X7_behind_j10
            rw [e7, Option.bind_some, bnd_eq, nI_1]
          · rw [if_neg c] at e0
            refine Or.inr (no ?_ m6 q6 e0)
            rintro ⟨-, l, l1, l2⟩
            rw [FM_u l1 fm] at l2
            exact c l2
        · have z6 : y = 0 := z6
          rw [z6] at e0
          refine Or.inr (no ?_ m6 q6 ?_)
          · rintro ⟨-, l, l1, l2⟩
            exact h7 (FM_0 l1 j h6)
          · rw [e0]
            unfold f_X7_behind_j8 f_X7_behind_j9
            rw [if_pos rfl]
      · have z : r = 0 := z
        rw [z, if_pos rfl] at e0
        refine Or.inr (no (fun y => h6 (y.1 j h5)) _ (mr_83 (mr_83 (i := 67 + 9 * b + 6) (x := 1) q5) (i := 67 + 9 * b + 5) (x := 0)) ?_)
        rw [e0]
        unfold f_X7_behind_j6
        rw [letsGo_r (by omega), Option.bind_some]
        show f_X7_behind_l7b (nI a) (nI b) _ _ (nI i) 0 0 _ = _
        unfold f_X7_behind_l7b f_X7_behind_j8 f_X7_behind_j9
        rw [if_neg (by decide), if_pos rfl, if_pos rfl]
    · refine Or.inl ⟨(i - 1, s.2), ?_, p1, by show 1 ≤ i - 1; omega, by show i - 1 ≤ 60; omega, p5, fun _ => p4⟩
      show f_X7_behind_l3b (nI a) (nI b) _ s.1 (nI i) s.2 = f_X7_behind_j4 (nI a) (nI b) (if i - 1 = 60 then -1 else nI (i - 1)) s.2
      unfold f_X7_behind_l3b
      rw [if_neg n60, p3, if_pos (nI_pos' (by omega)), if_neg (by omega)]
