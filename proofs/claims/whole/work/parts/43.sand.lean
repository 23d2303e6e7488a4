/-! ground laid for a try -/
theorem wgr_c {im : IM} {V : TV} {t c : Nat} {g : Int32} (v : RC im 1 V) (ok : OkL V) (hg : wi g 0 4) (ht : t < vN V) (hc : c < 31) (h : canS V t) : ∃ m, f_X6_rollWithGround (nI t) (nI c) g im = some m ∧ aC im m ∧ ∀ w, w < 8 → m 62 w = (alV (setG V c g) t 10).2.1 w := by
  have h10 := ok.1
  have ib := inb_nI (show t < 10 by omega) (show 10 < 2 ^ 31 by decide)
  have ic := inb_nI (show c < 31 by omega) (show 31 < 2 ^ 31 by decide)
  have okg : OkL (setG V c g) := by
    obtain ⟨h1, h2, h3, h4⟩ := ok
    refine ⟨h1, h2, fun d hd => ?_, h4⟩
    rw [setG_G]
    by_cases e : d = c
    · rw [if_pos e]; exact hg
    · rw [if_neg e]; exact h3 d hd
  obtain ⟨m, e, r⟩ := runV_c (im := up im 3 c g) (T := 1) (t := t) (V := setG V c g) (sp := 10) (by omega) (RC_G v) okg ht h
  refine ⟨up m 3 c (im 3 c), ?_, fun a h1 h2 => ?_, fun w hw => ?_⟩
  · unfold f_X6_rollWithGround f_X2_run
    rw [if_pos ic, bnd_eq, if_pos ic, bnd_eq, if_pos ib, ix_nI (show c < 2 ^ 31 by omega), ix_nI (show t < 2 ^ 31 by omega), show f_X2_runFrom 1 (6 + t) 10 (up im 3 c g) = some m from e, Option.bind_some, Option.bind_some, if_pos ic, bnd_eq]
  · by_cases e3 : a = 3
    · subst e3
      funext k
      by_cases ek : k = c
      · subst ek; rw [up_same]
      · rw [up_ne ek, r.1 3 (by decide) (by decide), up_ne ek]
    · rw [up_row e3, r.1 a h1 h2, up_row e3]
  · rw [up_row (by decide)]; exact r.2.2.2.2 w hw
theorem wgr_r {im : IM} {V : TV} {t c : Nat} {g : Int32} (v : RR im 83 V) (ok : OkL V) (hg : wi g 0 4) (ht : t < vN V) (hc : c < 31) (h : canS V t) : ∃ m, f_X7_alone (nI t) 10 (up im 83 (36 + c) g) = some m ∧ aR im (up m 83 (36 + c) (im 83 (36 + c))) ∧ m 82 7 = eCell (alV (setG V c g) t 10).2.1 ∧ m 82 8 = (alV (setG V c g) t 10).2.1 6 := by
  have okg : OkL (setG V c g) := by
    obtain ⟨h1, h2, h3, h4⟩ := ok
    refine ⟨h1, h2, fun d hd => ?_, h4⟩
    rw [setG_G]
    by_cases e : d = c
    · rw [if_pos e]; exact hg
    · rw [if_neg e]; exact h3 d hd
  obtain ⟨m, e, o⟩ := aloneV_r (im := up im 83 (36 + c) g) (t := t) (V := setG V c g) (sp := 10) (RR_G v ok.1 hc) okg ht h
  refine ⟨m, e, ⟨fun a ha => ?_, fun k hk => ?_⟩, o.2.2.2.1, o.2.2.2.2.1⟩
  · by_cases e83 : a = 83
    · subst e83
      funext k
      by_cases ek : k = 36 + c
      · subst ek; rw [up_same]
      · rw [up_ne ek, o.1, up_ne ek]
    · rw [up_row e83, o.2.1 a ha e83, up_row e83]
  · rw [up_row (by decide), o.2.2.1 k hk, up_row (by decide)]
theorem in36 {c : Nat} (hc : c < 31) : inb (36 + nI c) 167 = true ∧ ix (36 + nI c) = 36 + c := by
  rw [lit_add 36 (k := 36) rfl]
  exact ⟨inb_nI (by omega) (by decide), ix_nI (by omega)⟩
theorem first_u {P : Nat → Prop} {N a b : Nat} (ha : a ≤ N) (hb : b ≤ N) (a1 : ∀ j, j < a → ¬ P j) (b1 : ∀ j, j < b → ¬ P j) (a2 : a < N → P a) (b2 : b < N → P b) : a = b := by
  rcases Nat.lt_trichotomy a b with h | h | h
  · exact absurd (a2 (by omega)) (b1 a h)
  · exact h
  · exact absurd (b2 (by omega)) (a1 b h)
theorem w04_0 : wi (0 : Int32) 0 4 := by unfold wi; decide
theorem w04_1 : wi (1 : Int32) 0 4 := by unfold wi; decide
theorem cell_1 {a : Int32} (h : wi a 0 30) : f_X6_isCell a = 1 := by unfold f_X6_isCell; rw [within_1 h, zb_1]
theorem cell_0 {a : Int32} (h : ¬ wi a 0 30) : f_X6_isCell a = 0 := by unfold f_X6_isCell; rw [within_0 h, zb_0]
theorem cell7_1 {a : Int32} (h : wi a 0 30) : f_X7_isCell a = 1 := by unfold f_X7_isCell; rw [in_0_30, within_1 h, zb_1]
theorem cell7_0 {a : Int32} (h : ¬ wi a 0 30) : f_X7_isCell a = 0 := by unfold f_X7_isCell; rw [in_0_30, within_0 h, zb_0]
def hitS (V : TV) (t : Nat) (a2 : Int32) (c : Nat) : Prop := (alV (setG V c 1) t 10).2.1 6 = 0 ∧ (alV (setG V c 1) t 10).2.1 4 = a2
theorem sand_c {im : IM} {V : TV} {t : Nat} {a2 : Int32} (v : RC im 1 V) (ok : OkL V) (ht : t < vN V) (h : canS V t) : ∃ c : Nat × IM, f_X6_sand_l1 (nI t) a2 xF 0 im = (if c.1 = 31 then (f_X6_refuse (-1000004) c.2).bind fun r2 => some (r2.1, r2.2) else some (nI c.1, c.2)) ∧ (aC im c.2 ∧ c.1 ≤ 31 ∧ (∀ j, j < c.1 → ¬ hitS V t a2 j) ∧ (c.1 < 31 → hitS V t a2 c.1)) := by
  refine loopG (fun f m i => f_X6_sand_l1 (nI t) a2 f i m) (fun c : Nat × IM => if c.1 = 31 then (f_X6_refuse (-1000004) c.2).bind fun r2 => some (r2.1, r2.2) else some (nI c.1, c.2)) 0 0 rfl 31 (by omega) (by omega) (fun i m => aC im m ∧ ∀ j, j < i → ¬ hitS V t a2 j) _ (fun f m hP => ⟨(31, m), ?_, hP.1, Nat.le_refl _, hP.2, fun z => absurd z (Nat.lt_irrefl _)⟩) (fun f m i hi0 hi hP => ?_) im ⟨aC_refl, fun j hj => absurd hj (Nat.not_lt_zero _)⟩
  · show f_X6_sand_l1b (nI t) a2 _ (nI 31) m = if (31 : Nat) = 31 then _ else _
    unfold f_X6_sand_l1b
    rw [if_pos (by decide), if_pos rfl]
  · obtain ⟨m', e, o, r⟩ := wgr_c (v.cg (fun a h1 h2 => hP.1 a (by omega) (by omega)) ok.1) ok w04_1 ht hi h
    have e0 : f_X6_sand_l1 (nI t) a2 (f + 1) (nI i) m = if f_X2_endsOn a2 m' = 0 then f_X6_sand_l1 (nI t) a2 f (nI (i + 1)) m' else some (nI i, m') := by
      show f_X6_sand_l1b (nI t) a2 _ (nI i) m = _
      unfold f_X6_sand_l1b
      rw [if_neg (by rw [nI_ge_lit (n := 31) 31 (by decide) (by omega)]; omega), e, Option.bind_some, bnd_eq, nI_1]
    by_cases c : hitS V t a2 i
    · rw [endsOn_1 r c, if_neg i10] at e0
      refine Or.inl ⟨(i, m'), ?_, aC_trans hP.1 o, by show i ≤ 31; omega, hP.2, fun _ => c⟩
      show f_X6_sand_l1 (nI t) a2 (f + 1) (nI i) m = if i = 31 then _ else some (nI i, m')
      rw [if_neg (by omega), e0]
    · rw [endsOn_0 r c, if_pos rfl] at e0
      refine Or.inr ⟨m', e0, aC_trans hP.1 o, fun j hj => ?_⟩
      by_cases e : j = i
      · subst e; exact c
      · exact hP.2 j (by omega)
theorem sand_r {im : IM} {V : TV} {t : Nat} {a2 : Int32} (v : RR im 83 V) (ok : OkL V) (ht : t < vN V) (h : canS V t) : ∃ c : Nat × IM, f_X7_sand_l1 (nI t) a2 xF (-1) 0 im = f_X7_sand_j2 (nI t) a2 (if c.1 = 31 then -1 else nI c.1) c.2 ∧ (aR im c.2 ∧ c.1 ≤ 31 ∧ (∀ j, j < c.1 → ¬ hitS V t a2 j) ∧ (c.1 < 31 → hitS V t a2 c.1)) := by
  refine loopG (fun f (s : Int32 × IM) i => f_X7_sand_l1 (nI t) a2 f s.1 i s.2) (fun c : Nat × IM => f_X7_sand_j2 (nI t) a2 (if c.1 = 31 then -1 else nI c.1) c.2) 0 0 rfl 31 (by omega) (by omega) (fun i s => aR im s.2 ∧ ((s.1 = -1 ∧ ∀ j, j < i → ¬ hitS V t a2 j) ∨ (1 ≤ i ∧ s.1 = nI (i - 1) ∧ hitS V t a2 (i - 1) ∧ ∀ j, j < i - 1 → ¬ hitS V t a2 j))) _ (fun f s hP => ?_) (fun f s i hi0 hi hP => ?_) (-1, im) ⟨aR_refl, Or.inl ⟨rfl, fun j hj => absurd hj (Nat.not_lt_zero _)⟩⟩
  · have e0 : f_X7_sand_l1 (nI t) a2 (f + 1) s.1 (nI 31) s.2 = f_X7_sand_j2 (nI t) a2 s.1 s.2 := by
      show f_X7_sand_l1b (nI t) a2 _ s.1 (nI 31) s.2 = _
      unfold f_X7_sand_l1b
      rw [if_pos (by decide)]
    obtain ⟨p1, ⟨p2, p3⟩ | ⟨p2, p3, p4, p5⟩⟩ := hP
    · refine ⟨(31, s.2), ?_, p1, Nat.le_refl _, p3, fun z => absurd z (Nat.lt_irrefl _)⟩
      show f_X7_sand_l1 (nI t) a2 (f + 1) s.1 (nI 31) s.2 = f_X7_sand_j2 (nI t) a2 (if (31 : Nat) = 31 then -1 else nI 31) s.2
      rw [e0, if_pos rfl, p2]
    · refine ⟨(30, s.2), ?_, p1, by show 30 ≤ 31; omega, p5, fun _ => p4⟩
      show f_X7_sand_l1 (nI t) a2 (f + 1) s.1 (nI 31) s.2 = f_X7_sand_j2 (nI t) a2 (if (30 : Nat) = 31 then -1 else nI 30) s.2
      rw [e0, if_neg (by decide), p3]
  · obtain ⟨p1, ⟨p2, p3⟩ | ⟨p2, p3, p4, p5⟩⟩ := hP
    · have v' : RR s.2 83 V := v.cg (p1.1 83 (by decide))
      obtain ⟨m', e, o, r7, r8⟩ := wgr_r v' ok w04_1 ht hi h
      obtain ⟨i1, i2⟩ := in36 hi
      have o2 := aR_trans p1 o
      have e0 : f_X7_sand_l1 (nI t) a2 (f + 1) s.1 (nI i) s.2 = if (alV (setG V i 1) t 10).2.1 6 = 0 then if eCell (alV (setG V i 1) t 10).2.1 = a2 then f_X7_sand_l1 (nI t) a2 f (nI i) (nI (i + 1)) (up m' 83 (36 + i) (s.2 83 (36 + i))) else f_X7_sand_l1 (nI t) a2 f (-1) (nI (i + 1)) (up m' 83 (36 + i) (s.2 83 (36 + i))) else f_X7_sand_l1 (nI t) a2 f (-1) (nI (i + 1)) (up m' 83 (36 + i) (s.2 83 (36 + i))) := by
        show f_X7_sand_l1b (nI t) a2 _ s.1 (nI i) s.2 = _
        unfold f_X7_sand_l1b f_X7_sand_j3 f_X7_sand_j4
        rw [if_neg (by rw [nI_ge_lit (n := 31) 31 (by decide) (by omega)]; omega), p2, if_neg (by decide), if_pos i1, bnd_eq, if_pos i1, bnd_eq, i2, e, Option.bind_some, if_pos i1, bnd_eq, up_row (by decide), r7, r8, bnd_eq, bnd_eq, nI_1]
      by_cases c : hitS V t a2 i
      · obtain ⟨c6, c4⟩ := id c
        rw [if_pos c6, if_pos (by unfold eCell; rw [if_neg (by rw [c6]; decide)]; exact c4)] at e0
        exact Or.inr ⟨(nI i, _), e0, o2, Or.inr ⟨by omega, rfl, c, p3⟩⟩
      · have e1 : f_X7_sand_l1 (nI t) a2 (f + 1) s.1 (nI i) s.2 = f_X7_sand_l1 (nI t) a2 f (-1) (nI (i + 1)) (up m' 83 (36 + i) (s.2 83 (36 + i))) := by
          rw [e0]
          by_cases c6 : (alV (setG V i 1) t 10).2.1 6 = 0
          · rw [if_pos c6, if_neg (fun z => c ⟨c6, by unfold eCell at z; rw [if_neg (by rw [c6]; decide)] at z; exact z⟩)]
          · rw [if_neg c6]
        refine Or.inr ⟨(-1, _), e1, o2, Or.inl ⟨rfl, fun j hj => ?_⟩⟩
        by_cases e : j = i
        · subst e; exact c
        · exact p3 j (by omega)
    · refine Or.inl ⟨(i - 1, s.2), ?_, p1, by show i - 1 ≤ 31; omega, p5, fun _ => p4⟩
      show f_X7_sand_l1b (nI t) a2 _ s.1 (nI i) s.2 = f_X7_sand_j2 (nI t) a2 (if i - 1 = 31 then -1 else nI (i - 1)) s.2
      unfold f_X7_sand_l1b
      rw [if_neg (by rw [nI_ge_lit (n := 31) 31 (by decide) (by omega)]; omega), p3, if_pos (nI_pos' (by omega)), if_neg (by omega)]
theorem lp_sand : LP_sand Inv := by
  intro im hI a a2
  by_cases hw : wi a2 0 30
  · have eC : f_X6_sand a a2 im = (f_X6_againstRoll a im).bind fun r1 => if r1 = 0 then f_X6_sand_l1 a a2 xF 0 im else (f_X6_refuse r1 im).bind fun r5 => some (r5.1, r5.2) := by
      unfold f_X6_sand
      rw [cell_1 hw, if_neg i10]
    have eR : ∀ m, f_X7_sand a a2 m = (f_X7_rollWrong a m).bind fun r1 => if r1.1 = 0 then f_X7_sand_l1 a a2 xF (-1) 0 r1.2 else (f_X7_finds r1.1 r1.2).bind fun r8 => some (r8.1, r8.2) := by
      intro m
      unfold f_X7_sand
      rw [cell7_1 hw, if_neg i10]
    refine alone_lp hI (fm1 := fun m => f_X7_sand_l1 a a2 xF (-1) 0 m) eC eR (fun V t v1 v2 v3 ht ha hc => ?_)
    have h10 := v3.1
    rw [ha]
    obtain ⟨⟨c, m⟩, e, o, c1, c2, c3⟩ := sand_c (a2 := a2) v1 v3.l ht hc
    have e : f_X6_sand_l1 (nI t) a2 xF 0 im = (if c = 31 then (f_X6_refuse (-1000004) m).bind fun r2 => some (r2.1, r2.2) else some (nI c, m)) := e
    have o : aC im m := o
    by_cases g : c = 31
    · rw [if_pos g, refuse_4, Option.bind_some] at e
      refine ⟨-1000004, up m 73 3 (m 73 3 + 1), e, by rw [up_row (by decide), o 83 (by decide) (by decide)], fun m' q => ?_⟩
      obtain ⟨⟨d, n⟩, e2, o2, d1, d2, d3⟩ := sand_r (im := m') (a2 := a2) (v2.cg (by rw [q.1, up_row (by decide), o 83 (by decide) (by decide)])) v3.l ht hc
      have e2 : f_X7_sand_l1 (nI t) a2 xF (-1) 0 m' = f_X7_sand_j2 (nI t) a2 (if d = 31 then -1 else nI d) n := e2
      have cd : c = d := first_u c1 d1 c2 d2 c3 d3
      refine ⟨up n 86 3 (n 86 3 + 1), ?_, fin_ref (by decide) hI (aC_agr o) (aR_agr (aR_trans (out_aR q) o2))⟩
      show f_X7_sand_l1 (nI t) a2 xF (-1) 0 m' = _
      rw [e2, ← cd, if_pos g]
      unfold f_X7_sand_j2
      rw [if_neg (by decide), finds_4, Option.bind_some]
    · rw [if_neg g] at e
      refine ⟨_, _, e, by rw [o 83 (by decide) (by decide)], fun m' q => ?_⟩
      obtain ⟨⟨d, n⟩, e2, o2, d1, d2, d3⟩ := sand_r (im := m') (a2 := a2) (v2.cg (by rw [q.1, o 83 (by decide) (by decide)])) v3.l ht hc
      have e2 : f_X7_sand_l1 (nI t) a2 xF (-1) 0 m' = f_X7_sand_j2 (nI t) a2 (if d = 31 then -1 else nI d) n := e2
      have cd : c = d := first_u c1 d1 c2 d2 c3 d3
      have c1 : c ≤ 31 := c1
      refine ⟨n, ?_, hI.agr ((aC_agr o).trans (aR_agr (aR_trans (out_aR q) o2)))⟩
      show f_X7_sand_l1 (nI t) a2 xF (-1) 0 m' = _
      rw [e2, ← cd, if_neg g]
      unfold f_X7_sand_j2
      rw [if_pos (nI_pos' (by omega))]
  · refine bref1 hI ?_ (fun m hm => ?_)
    · unfold f_X6_sand
      rw [cell_0 hw, if_pos rfl, refuse_1, Option.bind_some]
    · unfold f_X7_sand
      rw [cell7_0 hw, if_pos rfl, finds_1, Option.bind_some]
/-! which cells matter -/
noncomputable def matS (V : TV) (t : Nat) (z : Int32) : Nat → Int32
  | 0 => 0
  | i + 1 => if eCell (alV (setG V i 0) t 10).2.1 = z then matS V t z i else matS V t z i ||| jshl 1 (nI i)
theorem lp_matters : LP_matters Inv := by
  intro im hI a
  refine alone_lp hI (fx1 := if inb a 10 = true then (f_X2_run 1 (6 + ix a) im).bind fun r3 => bnd (f_X2_place r3) fun v4 => f_X6_matters_l1 a xF v4 0 0 r3 else none) (fm1 := fun m => bnd (m 82 7) fun v2 => f_X7_matters_l1 a xF v2 0 0 m) rfl (fun m => rfl) (fun V t v1 v2 v3 ht ha hc => ?_)
  have h10 := v3.1
  have ok := v3.l
  obtain ⟨m, e, h⟩ := runV_c (T := 1) (sp := 10) (by omega) v1 v3.l ht hc
  rw [ha, if_pos (inb_nI (show t < 10 by omega) (show 10 < 2 ^ 31 by decide)), ix_nI (by omega)]
  have ec : ((f_X2_run 1 (6 + t) im).bind fun r3 => bnd (f_X2_place r3) fun v4 => f_X6_matters_l1 (nI t) xF v4 0 0 r3) = f_X6_matters_l1 (nI t) xF (eCell (alV V t 10).2.1) 0 0 m := by
    unfold f_X2_run
    rw [show f_X2_runFrom 1 (6 + t) 10 im = some m from e, Option.bind_some, Option.bind_some, bnd_eq, place_c h.2.2.2.2]
  have key : ∃ m1, f_X6_matters_l1 (nI t) xF (eCell (alV V t 10).2.1) 0 0 m = some (matS V t (eCell (alV V t 10).2.1) 31, m1) ∧ aC im m1 := by
    refine loopG (fun f (s : Int32 × IM) i => f_X6_matters_l1 (nI t) f (eCell (alV V t 10).2.1) s.1 i s.2) (fun m1 : IM => some (matS V t (eCell (alV V t 10).2.1) 31, m1)) 0 0 rfl 31 (by omega) (by omega) (fun i s => s.1 = matS V t (eCell (alV V t 10).2.1) i ∧ aC im s.2) _ (fun f s hP => ⟨s.2, ?_, hP.2⟩) (fun f s i hi0 hi hP => Or.inr ?_) (0, m) ⟨rfl, h.1⟩
    · show f_X6_matters_l1b (nI t) _ _ s.1 (nI 31) s.2 = _
      unfold f_X6_matters_l1b
      rw [if_pos (by decide), hP.1]
    · obtain ⟨m', e, o, r⟩ := wgr_c (v1.cg (fun a h1 h2 => hP.2 a (by omega) (by omega)) ok.1) ok w04_0 ht hi hc
      refine ⟨(matS V t (eCell (alV V t 10).2.1) (i + 1), m'), ?_, rfl, aC_trans hP.2 o⟩
      show f_X6_matters_l1b (nI t) _ _ s.1 (nI i) s.2 = f_X6_matters_l1 (nI t) f _ (if eCell (alV (setG V i 0) t 10).2.1 = eCell (alV V t 10).2.1 then matS V t (eCell (alV V t 10).2.1) i else matS V t (eCell (alV V t 10).2.1) i ||| jshl 1 (nI i)) (nI (i + 1)) m'
      unfold f_X6_matters_l1b f_X6_matters_j2
      rw [if_neg (by rw [nI_ge_lit (n := 31) 31 (by decide) (by omega)]; omega), e, Option.bind_some, place_c r, hP.1, bnd_eq, bnd_eq, bnd_eq, nI_1]
      by_cases c : eCell (alV (setG V i 0) t 10).2.1 = eCell (alV V t 10).2.1
      · rw [if_pos c, if_pos c]
      · rw [if_neg c, if_neg c]
  obtain ⟨m1, e1, o1⟩ := key
  refine ⟨_, m1, ec.trans e1, o1 83 (by decide) (by decide), fun m' q => ?_⟩
  have key2 : ∃ m2, f_X7_matters_l1 (nI t) xF (eCell (alV V t 10).2.1) 0 0 m' = some (matS V t (eCell (alV V t 10).2.1) 31, m2) ∧ aR m' m2 := by
    refine loopG (fun f (s : Int32 × IM) i => f_X7_matters_l1 (nI t) f (eCell (alV V t 10).2.1) s.1 i s.2) (fun m1 : IM => some (matS V t (eCell (alV V t 10).2.1) 31, m1)) 0 0 rfl 31 (by omega) (by omega) (fun i s => s.1 = matS V t (eCell (alV V t 10).2.1) i ∧ aR m' s.2) _ (fun f s hP => ⟨s.2, ?_, hP.2⟩) (fun f s i hi0 hi hP => Or.inr ?_) (0, m') ⟨rfl, aR_refl⟩
    · show f_X7_matters_l1b (nI t) _ _ s.1 (nI 31) s.2 = _
      unfold f_X7_matters_l1b
      rw [if_pos (by decide), hP.1]
    · obtain ⟨m3, e3, o3, r7, r8⟩ := wgr_r (im := s.2) (v2.cg (by rw [hP.2.1 83 (by decide), q.1, o1 83 (by decide) (by decide)])) ok w04_0 ht hi hc
      obtain ⟨i1, i2⟩ := in36 hi
      refine ⟨(matS V t (eCell (alV V t 10).2.1) (i + 1), up m3 83 (36 + i) (s.2 83 (36 + i))), ?_, rfl, aR_trans hP.2 o3⟩
      show f_X7_matters_l1b (nI t) _ _ s.1 (nI i) s.2 = f_X7_matters_l1 (nI t) f _ (if eCell (alV (setG V i 0) t 10).2.1 = eCell (alV V t 10).2.1 then matS V t (eCell (alV V t 10).2.1) i else matS V t (eCell (alV V t 10).2.1) i ||| jshl 1 (nI i)) (nI (i + 1)) _
      unfold f_X7_matters_l1b f_X7_matters_j2
      rw [if_neg (by rw [nI_ge_lit (n := 31) 31 (by decide) (by omega)]; omega), if_pos i1, bnd_eq, if_pos i1, bnd_eq, i2, e3, Option.bind_some, if_pos i1, bnd_eq, up_row (by decide), r7, bnd_eq, bnd_eq, bnd_eq, bnd_eq, nI_1, hP.1]
      by_cases c : eCell (alV (setG V i 0) t 10).2.1 = eCell (alV V t 10).2.1
      · rw [if_pos c, if_pos c, Int32.or_zero]
      · rw [if_neg c, if_neg c]
  obtain ⟨m2, e2, o2⟩ := key2
  refine ⟨m2, ?_, hI.agr ((aC_agr o1).trans (aR_agr (aR_trans (out_aR q) o2)))⟩
  show (bnd (m' 82 7) fun v2 => f_X7_matters_l1 (nI t) xF v2 0 0 m') = _
  rw [bnd_eq, q.2.2.2.1]
  exact e2
