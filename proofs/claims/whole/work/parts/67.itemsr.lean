/-! items of the reference -/
def rdR (m m' : IM) (X : TK) (r : Nat × Option TV) : Prop := rfr m m' ∧ ((∃ V', r.2 = some V' ∧ rst m' X r.1 ∧ RR m' 83 V') ∨ (r.2 = none ∧ rwr m' X r.1))
theorem rst_83 {m m' : IM} {X : TK} {j : Nat} (h : rst m X j) (o : ∀ a, a ≠ 83 → m' a = m a) : rst m' X j := ⟨h.1, by rw [o 82 (by decide)]; exact h.2.1, by rw [o 82 (by decide)]; exact h.2.2.1, by rw [o 82 (by decide)]; exact h.2.2.2.1, by rw [o 82 (by decide)]; exact h.2.2.2.2.1, fun i hi => by rw [o 89 (by decide)]; exact h.2.2.2.2.2 i hi⟩
theorem o83_r {m m' : IM} (o : ∀ a, a ≠ 83 → m' a = m a) : rfr m m' := ⟨fun a _ h2 => o a h2, fun k _ => by rw [o 82 (by decide)]⟩
theorem RR_c {m m' : IM} {V : TV} (v : RR m 83 V) (h : cfr m m') : RR m' 83 V := v.cg (h.1 83 (by decide))
theorem groundI_r {m : IM} {X : TK} {j : Nat} {V : TV} {s : Int32} (hX : tks X) (h : rst m X j) (v : RR m 83 V) (h10 : vN V ≤ 10) : ∃ m', f_X7_groundItem s m = some m' ∧ rdR m m' X (pGr X (go X j) s V) := by
  obtain ⟨m1, e1, c1, h1⟩ := cells_r hX h
  have v1 := RR_c v c1
  have ps := pCells_s (X := X) (j := go X j)
  unfold f_X7_groundItem
  rw [e1, Option.bind_some, bnd_eq]
  rcases h1 with ⟨a, b, p, r1, e21, e22⟩ | ⟨p, r1⟩
  · obtain ⟨hab, hb⟩ := ps.2 a b p
    rw [e21]
    have key1 : ∃ m2, f_X7_groundItem_l1 s xF (nI a) m1 = some m2 ∧ (RR m2 83 (fG V a (b + 1) s) ∧ (∀ k, k ≠ 83 → m2 k = m1 k)) := by
      refine loopG (fun f m i => f_X7_groundItem_l1 s f i m) some a (nI a) rfl (b + 1) (by omega) (by omega) (fun i m2 => RR m2 83 (fG V a i s) ∧ (∀ k, k ≠ 83 → m2 k = m1 k)) _ (fun f m2 hP => ⟨m2, ?_, hP⟩) (fun f m2 i hi0 hi hP => Or.inr ⟨up m2 83 (36 + i) s, ?_, ?_, fun k hk => by rw [up_row hk]; exact hP.2 k hk⟩) m1 ⟨by rw [fG_0]; exact v1, fun _ _ => rfl⟩
      · show f_X7_groundItem_l1b s _ (nI (b + 1)) m2 = _
        unfold f_X7_groundItem_l1b
        rw [hP.2 82 (by decide), e22, if_pos (nI_lt (by omega) (by omega))]
      · obtain ⟨i1, i2⟩ := in36 (show i < 31 by omega)
        show f_X7_groundItem_l1b s _ (nI i) m2 = _
        unfold f_X7_groundItem_l1b
        rw [hP.2 82 (by decide), e22, if_neg (nI_nlt (by omega) (by omega)), if_pos r1.2.2.2.1, if_pos i1, i2, bnd_eq, bnd_eq, nI_1]
      · rw [← fG_s hi0]
        exact RR_G hP.1 h10 (by omega)
    obtain ⟨m2, e2, r2, o2⟩ := key1
    refine ⟨m2, e2, rfr_trans (cfr_r c1) (o83_r o2), Or.inl ⟨fillG V a b s, ?_, rst_83 r1 o2, r2⟩⟩
    show (pCells X (go X j)).2.map _ = _
    rw [p]
    rfl
  · refine ⟨m1, ?_, cfr_r c1, Or.inr ⟨?_, r1⟩⟩
    · show f_X7_groundItem_l1b s _ (m1 82 21) m1 = _
      unfold f_X7_groundItem_l1b
      by_cases z : m1 82 22 < m1 82 21
      · rw [if_pos z]
      · rw [if_neg z, if_neg (by rw [r1.2.2.2.1]; decide)]
    · show (pCells X (go X j)).2.map _ = none
      rw [p]
      rfl
theorem in5 {c : Nat} (hc : c < 31) : inb (5 + nI c) 167 = true ∧ ix (5 + nI c) = 5 + c := by
  rw [lit_add 5 (k := 5) rfl]
  exact ⟨inb_nI (by omega) (by decide), ix_nI (by omega)⟩
theorem fallW_r {m : IM} {X : TK} {j : Nat} (hX : tks X) (r : rwr m X j) (s : Int32) : f_X7_fallItem_j4 s m = some m := by
  unfold f_X7_fallItem_j4
  rw [number_w r, Option.bind_some, bnd_eq]
  show f_X7_fallItem_l5b _ s (m 82 21) m = _
  unfold f_X7_fallItem_l5b
  by_cases z : m 82 22 < m 82 21
  · rw [if_pos z]
  · rw [if_neg z, if_neg (by rw [r.2.2.2.1]; decide)]
theorem fallI_r {m : IM} {X : TK} {j : Nat} {V : TV} (hX : tks X) (h : rst m X j) (v : RR m 83 V) (h10 : vN V ≤ 10) : ∃ m', f_X7_fallItem m = some m' ∧ rdR m m' X (pFall X (go X j) V) := by
  obtain ⟨m1, e1, c1, h1⟩ := cells_r hX h
  have v1 := RR_c v c1
  have ps := pCells_s (X := X) (j := go X j)
  unfold f_X7_fallItem pFall
  rw [e1, Option.bind_some]
  rcases h1 with ⟨a, b, p, r1, e21, e22⟩ | ⟨p, r1⟩
  · obtain ⟨hab, hb⟩ := ps.2 a b p
    rw [p]
    show ∃ m', _ ∧ rdR m m' X (pFall2 X (pCells X (go X j)).1 V (a, b))
    generalize (pCells X (go X j)).1 = i at r1
    obtain ⟨w, ew, hw⟩ := word_r hX r1
    rw [ew, Option.bind_some]
    have w2 := lK 2 w 89 rfl (hw 2 (by omega))
    unfold pFall2
    by_cases c2 : wB X 2 i = true
    · rw [if_pos (w2.mpr c2), if_pos c2]
      obtain ⟨m2, e2, r2, v2, -⟩ := needs_1 hX r1
      have d21 : m2 82 21 = nI a := by rw [v2.2 21 (by omega)]; exact e21
      have d22 : m2 82 22 = nI b := by rw [v2.2 22 (by omega)]; exact e22
      have c12 := cfr_trans c1 (vfr_c v2)
      -- behind the sign
      have tail : ∀ (y : Int32) (m3 : IM) (z : Int32), rst m3 X (sgn X (go X i)) → cfr m m3 → m3 82 21 = nI a → m3 82 22 = nI b → (y = 0 ∨ y = 1) → z = (if y = 0 then nI (vl X (sgn X (go X i))) else -(nI (vl X (sgn X (go X i))))) → ∃ m', f_X7_fallItem_j4 y m3 = some m' ∧ rdR m m' X (if nB X (sgn X (go X i)) 0 9 = true then (go X (sgn X (go X i)), some (fillF V a b z)) else (sgn X (go X i), none)) := by
        intro y m3 z g3 w3 f21 f22 hy hz
        obtain ⟨m4, e4, v4, h4⟩ := number_r (lo := 0) (hi := 9) hX g3 0 9 rfl rfl (by omega) (by omega)
        have c4 := cfr_trans w3 (vfr_c v4)
        unfold f_X7_fallItem_j4
        rw [e4, Option.bind_some, bnd_eq]
        rcases h4 with ⟨n1, r4, e19⟩ | ⟨n1, r4⟩
        · rw [if_pos n1]
          have g21 : m4 82 21 = nI a := by rw [v4.2 21 (by omega)]; exact f21
          have g22 : m4 82 22 = nI b := by rw [v4.2 22 (by omega)]; exact f22
          rw [g21]
          have key1 : ∃ m5, f_X7_fallItem_l5 xF y (nI a) m4 = some m5 ∧ (RR m5 83 (fF V a (b + 1) z) ∧ (∀ k, k ≠ 83 → m5 k = m4 k)) := by
            refine loopG (fun f m i => f_X7_fallItem_l5 f y i m) some a (nI a) rfl (b + 1) (by omega) (by omega) (fun i m2 => RR m2 83 (fF V a i z) ∧ (∀ k, k ≠ 83 → m2 k = m4 k)) _ (fun f m2 hP => ⟨m2, ?_, hP⟩) (fun f m2 i hi0 hi hP => Or.inr ⟨up m2 83 (5 + i) z, ?_, ?_, fun k hk => by rw [up_row hk]; exact hP.2 k hk⟩) m4 ⟨by rw [fF_0]; exact RR_c v c4, fun _ _ => rfl⟩
            · show f_X7_fallItem_l5b _ y (nI (b + 1)) m2 = _
              unfold f_X7_fallItem_l5b
              rw [hP.2 82 (by decide), g22, if_pos (nI_lt (by omega) (by omega))]
            · obtain ⟨i1, i2⟩ := in5 (show i < 31 by omega)
              show f_X7_fallItem_l5b _ y (nI i) m2 = _
              unfold f_X7_fallItem_l5b f_X7_fallItem_j6
              rw [hP.2 82 (by decide), g22, if_neg (nI_nlt (by omega) (by omega)), if_pos r4.2.2.2.1, e19, i2, hz]
              simp only [bnd_eq, nI_1, if_pos i1, Int32.zero_sub]
              by_cases y0 : y = 0
              · rw [if_pos y0, if_pos y0]
              · rw [if_neg y0, if_neg y0]
            · rw [← fF_s hi0]
              exact RR_F hP.1 h10 (by omega)
          obtain ⟨m5, e5, r5, o5⟩ := key1
          exact ⟨m5, e5, rfr_trans (cfr_r c4) (o83_r o5), Or.inl ⟨fillF V a b z, rfl, rst_83 r4 o5, r5⟩⟩
        · rw [if_neg n1]
          have ew := fallW_r hX r4 y
          unfold f_X7_fallItem_j4 at ew
          rw [number_w r4, Option.bind_some, bnd_eq] at ew
          exact ⟨m4, ew, cfr_r c4, Or.inr ⟨rfl, r4⟩⟩
      unfold f_X7_fallItem_j1 f_X7_fallItem_j2 f_X7_fallItem_j3
      rw [e2, Option.bind_some, if_pos r2.2.2.2.1, r2.2.1, byte_r hX r2.2.2.2.2.1 r2.2.2.2.2.2 (by have := kbe hX r2.1; omega), Option.bind_some, if_neg i10, if_pos rfl]
      have gi : ((if kb X (go X i) < kq X then nI (kB X (kb X (go X i))) else -1) = (45 : Int32)) ↔ gB X (go X i) 45 = true := by
        rw [gB_iff]
        by_cases z : go X i < kJ X
        · rw [if_pos (hX.2.2.2.1 _ z), nI_eq_lit (n := 45) 45 (by decide) (by have := hX.2.2.1 (kb X (go X i)); omega)]
          exact ⟨fun y => ⟨z, y⟩, fun y => y.2⟩
        · have e : go X i = kJ X := by have := r2.1; omega
          rw [if_neg (by rw [e, hX.2.2.2.2.2.1]; omega)]
          exact ⟨fun y => absurd y (by decide), fun y => absurd y.1 z⟩
      by_cases c3 : gB X (go X i) 45 = true
      · rw [if_pos (gi.mpr c3), if_pos c3]
        have es : sgn X (go X i) = go X (go X i) := by unfold sgn; rw [if_pos c3]
        obtain ⟨m3, e3, r3, v3, -⟩ := needs_1 hX r2
        rw [e3, Option.bind_some]
        exact tail 1 m3 _ (by rw [es]; exact r3) (cfr_trans c12 (vfr_c v3)) (by rw [v3.2 21 (by omega)]; exact d21) (by rw [v3.2 22 (by omega)]; exact d22) (Or.inr rfl) (by rw [if_neg i10])
      · rw [if_neg (fun z => c3 (gi.mp z)), if_neg c3]
        have es : sgn X (go X i) = go X i := by unfold sgn; rw [if_neg c3]
        exact tail 0 m2 _ (by rw [es]; exact r2) c12 d21 d22 (Or.inl rfl) (by rw [if_pos rfl])
    · rw [if_neg (fun z => c2 (w2.mp z)), if_neg c2]
      obtain ⟨e0, w0⟩ := needs_0 r1
      refine ⟨up m1 82 20 1, ?_, cfr_r (cfr_trans c1 (cfr_82 (by omega))), Or.inr ⟨rfl, w0⟩⟩
      unfold f_X7_fallItem_j1 f_X7_fallItem_j2 f_X7_fallItem_j3
      rw [e0, Option.bind_some, if_neg (by rw [w0.2.2.2.1]; decide), if_pos rfl, fallW_r hX w0]
  · rw [p]
    refine ⟨m1, ?_, cfr_r c1, Or.inr ⟨rfl, r1⟩⟩
    rw [word_w hX r1, Option.bind_some, if_neg (show ¬ lg_cmp 0 89 = 0 from w0_ne 2 (by omega))]
    unfold f_X7_fallItem_j1 f_X7_fallItem_j2 f_X7_fallItem_j3
    rw [needs_w r1, Option.bind_some, if_neg (by rw [r1.2.2.2.1]; decide), if_pos rfl, fallW_r hX r1]
theorem shutW_r {m : IM} {X : TK} {j : Nat} (r : rwr m X j) (x s : Int32) : f_X7_shutItem_j2 x s m = some m := by
  unfold f_X7_shutItem_j2
  rw [needs_w r, Option.bind_some, number_w r, Option.bind_some, if_neg (by rw [r.2.2.2.1]; decide)]
theorem shutW1_r {m : IM} {X : TK} {j : Nat} (hX : tks X) (r : rwr m X j) : f_X7_shutItem_j1 0 m = some m := by
  unfold f_X7_shutItem_j1
  rw [needs_w r, Option.bind_some, number_w r, Option.bind_some, bnd_eq, word_w hX r, Option.bind_some, if_neg (show ¬ lg_cmp 0 655 = 0 from w0_ne 3 (by omega)), shutW_r r]
theorem shutI_r {m : IM} {X : TK} {j : Nat} {V : TV} (hX : tks X) (h : rst m X j) (v : RR m 83 V) (h10 : vN V ≤ 10) : ∃ m', f_X7_shutItem m = some m' ∧ rdR m m' X (if wB X 1 j = true then pShut X (go X j) V else (j, none)) := by
  obtain ⟨w, ew, hw⟩ := word_r hX h
  have w1 := lK 1 w 631476 rfl (hw 1 (by omega))
  unfold f_X7_shutItem
  rw [ew, Option.bind_some]
  by_cases c1 : wB X 1 j = true
  · rw [if_pos (w1.mpr c1), if_pos c1]
    unfold f_X7_shutItem_j1 pShut
    obtain ⟨m1, e1, r1, v1, -⟩ := needs_1 hX h
    rw [e1, Option.bind_some]
    generalize go X j = i at r1
    obtain ⟨m2, e2, v2, h2⟩ := number_r (lo := 0) (hi := 59) hX r1 0 59 rfl rfl (by omega) (by omega)
    rw [e2, Option.bind_some, bnd_eq]
    have c12 := cfr_trans (vfr_c v1) (vfr_c v2)
    rcases h2 with ⟨n1, r2, e19⟩ | ⟨n1, r2⟩
    · rw [if_pos n1, e19]
      obtain ⟨w', ew', hw'⟩ := word_r hX r2
      have w3 := lK 3 w' 655 rfl (hw' 3 (by omega))
      rw [ew', Option.bind_some]
      by_cases c3 : wB X 3 (go X i) = true
      · rw [if_pos (w3.mpr c3), if_pos c3]
        unfold f_X7_shutItem_j2
        obtain ⟨m3, e3, r3, v3, -⟩ := needs_1 hX r2
        obtain ⟨m4, e4, v4, h4⟩ := number_r (lo := 0) (hi := 59) hX r3 0 59 rfl rfl (by omega) (by omega)
        have c4 := cfr_trans c12 (cfr_trans (vfr_c v3) (vfr_c v4))
        rw [e3, Option.bind_some, e4, Option.bind_some]
        rcases h4 with ⟨n4, r4, d19⟩ | ⟨n4, r4⟩
        · rw [if_pos n4, if_pos r4.2.2.2.1, bnd_eq, bnd_eq, up_row (show (82 : Nat) ≠ 83 by decide), d19]
          have o5 : ∀ a, a ≠ 83 → up (up m4 83 2 (nI (vl X i))) 83 3 (nI (vl X (go X (go X i)))) a = m4 a := fun a ha => by rw [up_row ha, up_row ha]
          refine ⟨_, rfl, rfr_trans (cfr_r c4) (o83_r o5), Or.inl ⟨_, rfl, rst_83 r4 o5, ?_⟩⟩
          obtain ⟨h1, h2, h3, h4, h5, h6, h7, h8, h9⟩ := RR_c v c4
          show RR (up (up m4 83 2 (nI (vl X i))) 83 3 (nI (vl X (go X (go X i))))) 83 (setAB V (nI (vl X i)) (nI (vl X (go X (go X i)))))
          have rk : ∀ k, k ≠ 2 → k ≠ 3 → up (up m4 83 2 (nI (vl X i))) 83 3 (nI (vl X (go X (go X i)))) 83 k = m4 83 k := fun k k1 k2 => by rw [up_ne k2, up_ne k1]
          exact ⟨fun c hc => by rw [rk _ (by omega) (by omega)]; exact h1 c hc, fun c hc => by rw [rk _ (by omega) (by omega)]; exact h2 c hc, fun t ht w hw => by rw [rk _ (by omega) (by omega)]; exact h3 t ht w hw, fun k hk => by rw [rk _ (by omega) (by omega)]; exact h4 k hk, by rw [rk _ (by omega) (by omega)]; exact h5, by rw [up_ne (by decide), up_same]; rfl, by rw [up_same]; rfl, by rw [rk _ (by omega) (by omega)]; exact h8, by rw [rk _ (by omega) (by omega)]; exact h9⟩
        · rw [if_neg n4, if_neg (by rw [r4.2.2.2.1]; decide)]
          exact ⟨m4, rfl, cfr_r c4, Or.inr ⟨rfl, r4⟩⟩
      · rw [if_neg (fun z => c3 (w3.mp z)), if_neg c3]
        obtain ⟨e0, w0⟩ := needs_0 r2
        refine ⟨up m2 82 20 1, ?_, cfr_r (cfr_trans c12 (cfr_82 (by omega))), Or.inr ⟨rfl, w0⟩⟩
        unfold f_X7_shutItem_j2
        rw [e0, Option.bind_some, number_w w0, Option.bind_some, if_neg (by rw [w0.2.2.2.1]; decide)]
    · rw [if_neg n1, word_w hX r2, Option.bind_some, if_neg (show ¬ lg_cmp 0 655 = 0 from w0_ne 3 (by omega)), shutW_r r2]
      exact ⟨m2, rfl, cfr_r c12, Or.inr ⟨rfl, r2⟩⟩
  · rw [if_neg (fun z => c1 (w1.mp z)), if_neg c1]
    obtain ⟨e0, w0⟩ := needs_0 h
    refine ⟨up m 82 20 1, ?_, cfr_r (cfr_82 (by omega)), Or.inr ⟨rfl, w0⟩⟩
    have := shutW1_r hX w0
    unfold f_X7_shutItem_j1 at this ⊢
    rw [needs_w w0, Option.bind_some] at this
    rw [e0, Option.bind_some]
    exact this
/-! things of the reference -/
theorem opt_r {m : IM} {X : TK} {a j lo hi d : Nat} (hX : tks X) (h : rst m X j) (ha : a < 19) (L H D : Int32) (hL : L = nI lo) (hH : H = nI hi) (hD : D = nI d) (hl : lo ≤ 99) (hh : hi ≤ 99) : ∃ (x : Int32) (m' : IM), f_X7_perhaps (if wB X a j = true then 1 else 0) L H D m = some (x, m') ∧ (cfr m m' ∧ ((∃ y, (pOpt X a lo hi d j).2 = some y ∧ x = nI y ∧ rst m' X (pOpt X a lo hi d j).1) ∨ ((pOpt X a lo hi d j).2 = none ∧ rwr m' X (pOpt X a lo hi d j).1))) := by
  unfold f_X7_perhaps pOpt
  by_cases c : wB X a j = true
  · rw [if_pos c, if_pos c, if_neg i10]
    obtain ⟨m1, e1, r1, v1, -⟩ := needs_1 hX h
    obtain ⟨m2, e2, v2, h2⟩ := number_r (lo := lo) (hi := hi) hX r1 L H hL hH hl hh
    rw [e1, Option.bind_some, e2, Option.bind_some]
    refine ⟨_, m2, rfl, cfr_trans (vfr_c v1) (vfr_c v2), ?_⟩
    rcases h2 with ⟨n1, r2, e19⟩ | ⟨n1, r2⟩
    · rw [if_pos n1]
      exact Or.inl ⟨vl X (go X j), rfl, e19, r2⟩
    · rw [if_neg n1]
      exact Or.inr ⟨rfl, r2⟩
  · rw [if_neg c, if_neg c, if_pos rfl]
    exact ⟨D, m, rfl, ⟨fun _ _ => rfl, fun _ _ => rfl⟩, Or.inl ⟨d, rfl, hD, h⟩⟩
theorem thW3 {m : IM} {X : TK} {j : Nat} (r : rwr m X j) (k x y : Int32) : f_X7_thingItem_j4 k x y 0 m = some m := by
  unfold f_X7_thingItem_j4 f_X7_perhaps
  rw [if_pos rfl, Option.bind_some]
  show (if m 82 20 = 0 then _ else some m) = _
  rw [if_neg (by rw [r.2.2.2.1]; decide)]
theorem thW2 {m : IM} {X : TK} {j : Nat} (hX : tks X) (r : rwr m X j) (k x : Int32) : f_X7_thingItem_j3 k x 0 m = some m := by
  unfold f_X7_thingItem_j3 f_X7_perhaps
  rw [if_pos rfl, Option.bind_some]
  show ((f_X7_word m).bind fun r6 => if (lg_cmp r6 398382) = 0 then f_X7_thingItem_j4 k x 4 1 m else f_X7_thingItem_j4 k x 4 0 m) = _
  rw [word_w hX r, Option.bind_some, if_neg (show ¬ lg_cmp 0 398382 = 0 from w0_ne 6 (by omega)), thW3 r]
theorem thW1 {m : IM} {X : TK} {j : Nat} (hX : tks X) (r : rwr m X j) (k : Int32) : f_X7_thingItem_j2 k 0 m = some m := by
  unfold f_X7_thingItem_j2 f_X7_perhaps
  rw [if_pos rfl, Option.bind_some]
  show ((f_X7_word m).bind fun r6 => if (lg_cmp r6 19378579) = 0 then f_X7_thingItem_j3 k 10 1 m else f_X7_thingItem_j3 k 10 0 m) = _
  rw [word_w hX r, Option.bind_some, if_neg (show ¬ lg_cmp 0 19378579 = 0 from w0_ne 5 (by omega)), thW2 hX r]
theorem th3_r {m m0 : IM} {X : TK} {j w r : Nat} {V : TV} {k : Int32} (hX : tks X) (h : rst m X j) (c0 : cfr m0 m) (v : RR m0 83 V) (hN : vN V < 10) : ∃ m', f_X7_thingItem_j4 k (nI w) (nI r) (if wB X 6 j = true then 1 else 0) m = some m' ∧ rdR m0 m' X (pTh3 X j k V w r) := by
  obtain ⟨x, m1, e1, c1, h1⟩ := opt_r (lo := 0) (hi := 9) (d := 0) hX h (a := 6) (by omega) 0 9 0 rfl rfl rfl (by omega) (by omega)
  have c01 := cfr_trans c0 c1
  unfold f_X7_thingItem_j4 pTh3
  rw [e1, Option.bind_some]
  rcases h1 with ⟨y, p, ex, r1⟩ | ⟨p, r1⟩
  · obtain ⟨m2, e2, r2, o2⟩ := newThing_r (RR_c v c01) hN k (nI w) (nI r) (nI y)
    refine ⟨m2, ?_, rfr_trans (cfr_r c01) (o83_r o2), Or.inl ⟨_, by rw [p]; rfl, rst_83 r1 o2, r2⟩⟩
    show (if m1 82 20 = 0 then (f_X7_newThing k (nI w) (nI r) x m1).bind fun r8 => some r8.2 else some m1) = _
    rw [if_pos r1.2.2.2.1, ex, e2, Option.bind_some]
  · refine ⟨m1, ?_, cfr_r c01, Or.inr ⟨by rw [p]; rfl, r1⟩⟩
    show (if m1 82 20 = 0 then _ else some m1) = _
    rw [if_neg (by rw [r1.2.2.2.1]; decide)]
theorem th2_r {m m0 : IM} {X : TK} {j w : Nat} {V : TV} {k : Int32} (hX : tks X) (h : rst m X j) (c0 : cfr m0 m) (v : RR m0 83 V) (hN : vN V < 10) : ∃ m', f_X7_thingItem_j3 k (nI w) (if wB X 5 j = true then 1 else 0) m = some m' ∧ rdR m0 m' X (pTh2 X j k V w) := by
  obtain ⟨x, m1, e1, c1, h1⟩ := opt_r (lo := 1) (hi := 9) (d := 4) hX h (a := 5) (by omega) 1 9 4 rfl rfl rfl (by omega) (by omega)
  have c01 := cfr_trans c0 c1
  unfold f_X7_thingItem_j3 pTh2
  rw [e1, Option.bind_some]
  rcases h1 with ⟨y, p, ex, r1⟩ | ⟨p, r1⟩
  · rw [p]
    obtain ⟨wd, ew, hw⟩ := word_r hX r1
    have w6 := lK 6 wd 398382 rfl (hw 6 (by omega))
    obtain ⟨m2, e2, hr⟩ := th3_r (w := w) (r := y) (k := k) hX r1 c01 v hN
    refine ⟨m2, ?_, hr⟩
    show ((f_X7_word m1).bind fun r6 => if (lg_cmp r6 398382) = 0 then f_X7_thingItem_j4 k (nI w) x 1 m1 else f_X7_thingItem_j4 k (nI w) x 0 m1) = _
    rw [ew, Option.bind_some, ex, ← e2]
    by_cases c : wB X 6 (pOpt X 5 1 9 4 j).1 = true
    · rw [if_pos (w6.mpr c), if_pos c]
    · rw [if_neg (fun z => c (w6.mp z)), if_neg c]
  · rw [p]
    refine ⟨m1, ?_, cfr_r c01, Or.inr ⟨rfl, r1⟩⟩
    show ((f_X7_word m1).bind fun r6 => if (lg_cmp r6 398382) = 0 then f_X7_thingItem_j4 k (nI w) x 1 m1 else f_X7_thingItem_j4 k (nI w) x 0 m1) = _
    rw [word_w hX r1, Option.bind_some, if_neg (show ¬ lg_cmp 0 398382 = 0 from w0_ne 6 (by omega)), thW3 r1]
theorem th1_r {m m0 : IM} {X : TK} {j : Nat} {V : TV} {k : Int32} (hX : tks X) (h : rst m X j) (c0 : cfr m0 m) (v : RR m0 83 V) (hN : vN V < 10) : ∃ m', f_X7_thingItem_j2 k (if wB X 4 j = true then 1 else 0) m = some m' ∧ rdR m0 m' X (pTh1 X j k V) := by
  obtain ⟨x, m1, e1, c1, h1⟩ := opt_r (lo := 1) (hi := 99) (d := 10) hX h (a := 4) (by omega) 1 99 10 rfl rfl rfl (by omega) (by omega)
  have c01 := cfr_trans c0 c1
  unfold f_X7_thingItem_j2 pTh1
  rw [e1, Option.bind_some]
  rcases h1 with ⟨y, p, ex, r1⟩ | ⟨p, r1⟩
  · rw [p]
    obtain ⟨wd, ew, hw⟩ := word_r hX r1
    have w5 := lK 5 wd 19378579 rfl (hw 5 (by omega))
    obtain ⟨m2, e2, hr⟩ := th2_r (w := y) (k := k) hX r1 c01 v hN
    refine ⟨m2, ?_, hr⟩
    show ((f_X7_word m1).bind fun r6 => if (lg_cmp r6 19378579) = 0 then f_X7_thingItem_j3 k x 1 m1 else f_X7_thingItem_j3 k x 0 m1) = _
    rw [ew, Option.bind_some, ex, ← e2]
    by_cases c : wB X 5 (pOpt X 4 1 99 10 j).1 = true
    · rw [if_pos (w5.mpr c), if_pos c]
    · rw [if_neg (fun z => c (w5.mp z)), if_neg c]
  · rw [p]
    refine ⟨m1, ?_, cfr_r c01, Or.inr ⟨rfl, r1⟩⟩
    show ((f_X7_word m1).bind fun r6 => if (lg_cmp r6 19378579) = 0 then f_X7_thingItem_j3 k x 1 m1 else f_X7_thingItem_j3 k x 0 m1) = _
    rw [word_w hX r1, Option.bind_some, if_neg (show ¬ lg_cmp 0 19378579 = 0 from w0_ne 5 (by omega)), thW2 hX r1]
theorem thingI_r {m : IM} {X : TK} {j : Nat} {V : TV} {k : Int32} (hX : tks X) (h : rst m X j) (v : RR m 83 V) (h10 : vN V ≤ 10) : ∃ m', f_X7_thingItem k m = some m' ∧ rdR m m' X (pThing X j k V) := by
  unfold f_X7_thingItem pThing
  rw [v.2.2.2.2.1]
  by_cases hN : vN V < 10
  · rw [if_neg (by rw [nI_ge_lit (n := 10) 10 (by decide) (by omega)]; omega), if_pos hN]
    unfold f_X7_thingItem_j1
    obtain ⟨m1, e1, r1, v1, -⟩ := needs_1 hX h
    obtain ⟨wd, ew, hw⟩ := word_r hX r1
    have w4 := lK 4 wd 777297172 rfl (hw 4 (by omega))
    obtain ⟨m2, e2, hr⟩ := th1_r (k := k) hX r1 (vfr_c v1) v hN
    refine ⟨m2, ?_, hr⟩
    rw [e1, Option.bind_some, ew, Option.bind_some, ← e2]
    by_cases c : wB X 4 (go X j) = true
    · rw [if_pos (w4.mpr c), if_pos c]
    · rw [if_neg (fun z => c (w4.mp z)), if_neg c]
  · rw [if_pos (by rw [nI_ge_lit (n := 10) 10 (by decide) (by omega)]; omega), if_neg hN]
    obtain ⟨e0, w0⟩ := needs_0 h
    refine ⟨up m 82 20 1, ?_, cfr_r (cfr_82 (by omega)), Or.inr ⟨rfl, w0⟩⟩
    unfold f_X7_thingItem_j1
    rw [e0, Option.bind_some, word_w hX w0, Option.bind_some, if_neg (show ¬ lg_cmp 0 777297172 = 0 from w0_ne 4 (by omega)), thW1 hX w0]
