/-! a roll alone in a town's value -/
def alV (V : TV) (t : Nat) (sp : Int32) : Nat × AS := alR (vF V) (vG V) (vA V) (vB V) (vM V) (vT V t) sp
def canS (V : TV) (t : Nat) : Prop := (vT V t 6 = 0 ∨ vT V t 6 = 1) ∧ ¬ vT V t 4 = 30
theorem cell_29 {x : Nat → Int32} (ok : OkT x) (h : ¬ x 4 = 30) : ∃ c, c ≤ 29 ∧ x 4 = nI c := by
  obtain ⟨c, hc, e⟩ := rng_of (n := 30) 30 (by decide) ok.2.2.2.2.1.1 ok.2.2.2.2.1.2
  refine ⟨c, ?_, e⟩
  by_cases q : c = 30
  · rw [e, q] at h; exact absurd rfl h
  · omega
theorem runV_c {im : IM} {T t : Nat} {V : TV} {sp : Int32} (hT : T + 15 ≤ 61) (v : RC im T V) (ok : OkL V) (ht : t < vN V) (h : canS V t) : ∃ m, f_X2_runFrom T (T + 5 + t) sp im = some m ∧ relC im m (alV V t sp).1 (alV V t sp).2 := by
  obtain ⟨c, hc, e⟩ := cell_29 (ok.2.2.2.1 t ht) h.2
  exact run_c hT (by have := ok.1; omega) v.1 v.2.1 ok.2.2.1 v.2.2.2.2.2.1 v.2.2.2.2.2.2.1 v.2.2.2.2.2.2.2.1 (v.2.2.1 t ht) h.1 e hc
theorem aloneV_r {im : IM} {t : Nat} {V : TV} {sp : Int32} (v : RR im 83 V) (ok : OkL V) (ht : t < vN V) (h : canS V t) : ∃ m, f_X7_alone (nI t) sp im = some m ∧ aloneOut im m (alV V t sp) := by
  obtain ⟨c, hc, e⟩ := cell_29 (ok.2.2.2.1 t ht) h.2
  exact alone_r (by have := ok.1; omega) v.1 v.2.1 v.2.2.2.2.2.1 v.2.2.2.2.2.2.1 v.2.2.2.2.2.2.2.1 (v.2.2.1 t ht) h.1 e hc
/-- rows that the class, the reference leave as they are -/
def aC (im m : IM) : Prop := ∀ a, a ≠ 61 → a ≠ 62 → m a = im a
def aR (im m : IM) : Prop := (∀ a, a ≠ 82 → m a = im a) ∧ ∀ k, (k < 7 ∨ 11 < k) → m 82 k = im 82 k
theorem aC_refl {im : IM} : aC im im := fun _ _ _ => rfl
theorem aC_trans {a b c : IM} (h : aC a b) (g : aC b c) : aC a c := fun x h1 h2 => (g x h1 h2).trans (h x h1 h2)
theorem aR_refl {im : IM} : aR im im := ⟨fun _ _ => rfl, fun _ _ => rfl⟩
theorem aR_trans {a b c : IM} (h : aR a b) (g : aR b c) : aR a c := ⟨fun x h1 => (g.1 x h1).trans (h.1 x h1), fun k hk => (g.2 k hk).trans (h.2 k hk)⟩
theorem relC_aC {im m : IM} {i : Nat} {s : AS} (h : relC im m i s) : aC im m := h.1
theorem out_aR {im m : IM} {R : Nat × AS} (h : aloneOut im m R) : aR im m := by
  obtain ⟨h1, h2, h3, -⟩ := h
  refine ⟨fun a ha => ?_, h3⟩
  by_cases e : a = 83
  · rw [e]; exact h1
  · exact h2 a ha e
theorem aC_agr {im m : IM} (h : aC im m) : agr im m := by
  refine ⟨fun a g1 g2 g3 g4 => h a (fun e => g1 ?_) (fun e => g1 ?_), ?_, ?_, ?_, ?_⟩
  · unfold scr; omega
  · unfold scr; omega
  · rw [h 0 (by decide) (by decide)]
  · rw [h 66 (by decide) (by decide)]
  · rw [h 82 (by decide) (by decide)]
  · rw [h 82 (by decide) (by decide)]
theorem aR_agr {im m : IM} (h : aR im m) : agr im m := by
  refine ⟨fun a g1 g2 g3 g4 => h.1 a g4, ?_, ?_, ?_, ?_⟩
  · rw [h.1 0 (by decide)]
  · rw [h.1 66 (by decide)]
  · exact h.2 4 (by decide)
  · exact h.2 16 (by decide)
/-- what holds at the end of a roll alone -/
def fok (x : Nat → Int32) : Prop := (x 6 = 0 ∨ x 6 = 1 ∨ x 6 = 2) ∧ (∃ c, c ≤ 30 ∧ x 4 = nI c) ∧ rok x
theorem fok_R {F G : Nat → Int32} {sh : Int32} {x : Nat → Int32} (h : fok x) (h6 : x 6 = 1) : fok (pR F G sh x) := by
  obtain ⟨c, hc, e⟩ := h.2.2 h6
  have ok := okS_roll (F := F) (G := G) (sh := sh) e hc
  exact ⟨ok.2.2.1, ⟨_, ok.1, rfl⟩, rok_R h.2.2 h6⟩
theorem fok_go {F G : Nat → Int32} {A B M : Int32} : ∀ (d i : Nat) (s : AS), fok s.1 → fok (alGo F G A B M d i s).2.1
  | 0, i, s, h => h
  | d + 1, i, s, h => by
    show fok (if s.1 6 = 1 then alGo F G A B M d (i + 1) (alS F G A B M i s) else (i, s)).2.1
    by_cases c : s.1 6 = 1
    · rw [if_pos c]
      exact fok_go d (i + 1) _ (fok_R h c)
    · rw [if_neg c]; exact h
theorem fok_V {V : TV} {t : Nat} {sp : Int32} (ok : OkT (vT V t)) (h : canS V t) : fok (alV V t sp).2.1 := by
  obtain ⟨c, hc, e⟩ := cell_29 ok h.2
  refine fok_go 200 0 _ ?_
  unfold al0
  rcases h.1 with z | z
  · rw [if_pos z]
    exact ⟨Or.inr (Or.inl rfl), ⟨c, by omega, e⟩, fun _ => ⟨c, hc, e⟩⟩
  · rw [if_neg (by rw [z]; decide)]
    exact ⟨Or.inr (Or.inl z), ⟨c, by omega, e⟩, fun _ => ⟨c, hc, e⟩⟩
/-- the end cell -/
def eCell (x : Nat → Int32) : Int32 := if x 6 = 2 then -1 else x 4
theorem place_c {m : IM} {x : Nat → Int32} (h : ∀ w, w < 8 → m 62 w = x w) : f_X2_place m = eCell x := by
  unfold f_X2_place eCell
  rw [h 6 (by decide), h 4 (by decide)]
theorem endsOn_1 {m : IM} {x : Nat → Int32} {a : Int32} (h : ∀ w, w < 8 → m 62 w = x w) (q : x 6 = 0 ∧ x 4 = a) : f_X2_endsOn a m = 1 := by
  unfold f_X2_endsOn
  rw [h 6 (by decide), h 4 (by decide), if_pos q.1, if_pos q.2]
theorem endsOn_0 {m : IM} {x : Nat → Int32} {a : Int32} (h : ∀ w, w < 8 → m 62 w = x w) (q : ¬ (x 6 = 0 ∧ x 4 = a)) : f_X2_endsOn a m = 0 := by
  unfold f_X2_endsOn f_X2_endsOn_j1
  rw [h 6 (by decide), h 4 (by decide)]
  by_cases c : x 6 = 0
  · rw [if_pos c, if_neg (fun e => q ⟨c, e⟩)]
  · rw [if_neg c]
theorem eCell_30 {x : Nat → Int32} (h : fok x) : eCell x = 30 ↔ (x 6 = 0 ∧ x 4 = 30) := by
  unfold eCell
  obtain ⟨h1, h2, h3⟩ := h
  rcases h1 with z | z | z
  · rw [if_neg (by rw [z]; decide)]; exact ⟨fun q => ⟨z, q⟩, fun q => q.2⟩
  · rw [if_neg (by rw [z]; decide)]
    obtain ⟨c, hc, e⟩ := h3 z
    refine ⟨fun q => ?_, fun q => q.2⟩
    rw [e, nI_eq_lit (n := 30) 30 (by decide) (by omega)] at q
    omega
  · rw [if_pos z]
    refine ⟨fun q => absurd q (by decide), fun q => ?_⟩
    rw [z] at q
    exact absurd q.1 (by decide)
theorem eCell_neg {x : Nat → Int32} (h : fok x) : 0 ≤ eCell x ↔ ¬ x 6 = 2 := by
  unfold eCell
  by_cases z : x 6 = 2
  · rw [if_pos z]
    exact ⟨fun q => absurd q (by decide), fun q => absurd z q⟩
  · rw [if_neg z]
    obtain ⟨c, hc, e⟩ := h.2.1
    exact ⟨fun _ => z, fun _ => by rw [e]; exact nI_pos' (by omega)⟩
theorem eCell_m2 {x : Nat → Int32} (h : fok x) : ¬ eCell x ≤ -2 := by
  unfold eCell
  by_cases z : x 6 = 2
  · rw [if_pos z]; decide
  · rw [if_neg z]
    obtain ⟨c, hc, e⟩ := h.2.1
    intro q
    have h0 : (0 : Int32) ≤ x 4 := by rw [e]; exact nI_pos' (by omega)
    exact absurd (Int32.le_trans h0 q) (by decide)
/-! when it may roll -/
theorem std_iff {x : Int32} : pStd x = true ↔ x = 0 ∨ x = 1 := by
  unfold pStd
  rw [Bool.or_eq_true, decide_eq_true_iff, decide_eq_true_iff]
theorem late9799 {V : TV} (v3 : OkV V) : vM V ≤ 9799 ↔ vM V + 200 ≤ 9999 := (late_iff v3.2.2.2.2.2.2.2 (n := 200) (by omega) 9799 rfl).1
theorem alone_lp {im : IM} (hI : Inv im) {a : Int32} {fx fx1 : Option (Int32 × IM)} {fm fm1 : IM → Option (Int32 × IM)}
    (C : fx = (f_X6_againstRoll a im).bind fun r1 => if r1 = 0 then fx1 else (f_X6_refuse r1 im).bind fun r5 => some (r5.1, r5.2))
    (R : ∀ m, fm m = (f_X7_rollWrong a m).bind fun r1 => if r1.1 = 0 then fm1 r1.2 else (f_X7_finds r1.1 r1.2).bind fun r3 => some (r3.1, r3.2))
    (H : ∀ V t, RC im 1 V → RR im 83 V → OkV V → t < vN V → a = nI t → canS V t → ∃ r m1, fx1 = some (r, m1) ∧ m1 83 = im 83 ∧ ∀ m', aloneOut m1 m' (alV V t 10) → ∃ m2, fm1 m' = some (r, m2) ∧ Inv m2) :
    ∃ (r : Int32) (m1 m2 : IM), fx = some (r, m1) ∧ fm m1 = some (r, m2) ∧ Inv m2 := by
  obtain ⟨⟨V, v1, v2, v3⟩, -⟩ := id hI
  have h10 := v3.1
  by_cases ht : ∃ t, t < vN V ∧ a = nI t
  · obtain ⟨t, ht, ha⟩ := ht
    have ib := inb_nI (show t < 10 by omega) (show 10 < 2 ^ 31 by decide)
    have it : ix (nI t) = t := ix_nI (by omega)
    have r6 : im (6 + t) 6 = vT V t 6 := v1.2.2.1 t ht 6 (by decide)
    have r4 : im (6 + t) 4 = vT V t 4 := v1.2.2.1 t ht 4 (by decide)
    have k6 : im 83 (67 + 9 * t + 6) = vT V t 6 := v2.2.2.1 t ht 6 (by decide)
    have k4 : im 83 (67 + 9 * t + 4) = vT V t 4 := v2.2.2.1 t ht 4 (by decide)
    by_cases hc : canS V t ∧ vM V ≤ 9799
    · obtain ⟨r, m1, e1, e83, h⟩ := H V t v1 v2 v3 ht ha hc.1
      obtain ⟨m', e', o'⟩ := aloneV_r (v2.cg e83) v3.l ht hc.1 (sp := 10)
      obtain ⟨m2, e2, i2⟩ := h m' o'
      refine ⟨r, m1, m2, ?_, ?_, i2⟩
      · rw [C, ha]
        unfold f_X6_againstRoll f_X6_isTooLateToRoll
        rw [thing_1 h10 v1.2.2.2.2.1 ht, if_neg i10, if_pos ib, it, std_c, r6, if_pos (std_iff.mpr hc.1.1), if_neg i10, r4, if_neg hc.1.2, v1.2.2.2.2.2.2.2.1, if_pos hc.2, if_pos rfl, Option.bind_some, if_pos rfl, e1]
      · rw [R, ha]
        unfold f_X7_rollWrong f_X7_isTooLate
        rw [thing7_1 h10 (by rw [e83]; exact v2.2.2.2.2.1) ht, if_neg i10, lane_r (by omega), Option.bind_some, e83, k6, if_pos (std_iff.mpr hc.1.1), if_neg i10, its_w (w := 4) 4 rfl (by omega) (by decide), Option.bind_some, e83, k4, if_neg hc.1.2, v2.2.2.2.2.2.2.2.1, if_pos ((late9799 v3).mp hc.2), if_pos rfl, e', Option.bind_some, Option.bind_some]
        show (if (0 : Int32) = 0 then fm1 m' else _) = _
        rw [if_pos rfl, e2]
    · have e5 : f_X6_againstRoll (nI t) im = some (-1000005) := by
        unfold f_X6_againstRoll f_X6_isTooLateToRoll f_X6_againstRoll_j1
        rw [thing_1 h10 v1.2.2.2.2.1 ht, if_neg i10, if_pos ib, it, std_c, r6, r4, v1.2.2.2.2.2.2.2.1]
        by_cases c1 : pStd (vT V t 6) = true
        · rw [if_pos c1, if_neg i10]
          by_cases c2 : vT V t 4 = 30
          · rw [if_pos c2]
          · rw [if_neg c2, if_neg (fun z => hc ⟨⟨std_iff.mp c1, c2⟩, z⟩), if_neg i10]
        · rw [if_neg c1, if_pos rfl]
      refine bref5 hI ?_ (fun m hm => ?_)
      · rw [C, ha, e5, Option.bind_some, if_neg (by decide), refuse_5, Option.bind_some]
      · have h83 : m 83 = im 83 := by rw [hm, up_row (by decide)]
        have e7 : f_X7_rollWrong (nI t) m = some (-1000005, m) := by
          unfold f_X7_rollWrong f_X7_isTooLate f_X7_rollWrong_j1
          rw [thing7_1 h10 (by rw [h83]; exact v2.2.2.2.2.1) ht, if_neg i10, lane_r (by omega), Option.bind_some, its_w (w := 4) 4 rfl (by omega) (by decide), h83, k6, k4, v2.2.2.2.2.2.2.2.1, Option.bind_some]
          by_cases c1 : pStd (vT V t 6) = true
          · rw [if_pos c1, if_neg i10]
            by_cases c2 : vT V t 4 = 30
            · rw [if_pos c2]
            · rw [if_neg c2, if_neg (fun z => hc ⟨⟨std_iff.mp c1, c2⟩, (late9799 v3).mpr z⟩), if_neg i10]
          · rw [if_neg c1, if_pos rfl]
        rw [R, ha, e7, Option.bind_some]
        show (if (-1000005 : Int32) = 0 then _ else (f_X7_finds (-1000005) m).bind fun r3 => some (r3.1, r3.2)) = _
        rw [if_neg (by decide), finds_5, Option.bind_some]
  · refine bref1 hI ?_ (fun m hm => ?_)
    · rw [C]
      unfold f_X6_againstRoll
      rw [thing_0 h10 v1.2.2.2.2.1 ht, if_pos rfl, Option.bind_some, if_neg (by decide), refuse_1, Option.bind_some]
    · have h83 : m 83 = im 83 := by rw [hm, up_row (by decide)]
      rw [R]
      unfold f_X7_rollWrong
      rw [thing7_0 h10 (by rw [h83]; exact v2.2.2.2.2.1) ht, if_pos rfl, Option.bind_some]
      show (if (-1000001 : Int32) = 0 then _ else (f_X7_finds (-1000001) m).bind fun r3 => some (r3.1, r3.2)) = _
      rw [if_neg (by decide), finds_1, Option.bind_some]
theorem nowC {t : Nat} : 6 + t = 1 + 5 + t := rfl
/-- the answer of a roll alone, taken from what it leaves -/
theorem lp_ends : LP_ends Inv := by
  intro im hI a
  refine alone_lp hI (fx1 := if inb a 10 = true then (f_X2_run 1 (6 + ix a) im).bind fun r3 => if (f_X2_goesStill r3) = 0 then some (f_X2_place r3, r3) else (f_X6_refuse (-1000004) r3).bind fun r4 => some (r4.1, r4.2) else none) (fm1 := fun m => if (m 82 8) = 1 then (f_X7_finds (-1000004) m).bind fun r2 => some (r2.1, r2.2) else some (m 82 7, m)) rfl (fun m => rfl) (fun V t v1 v2 v3 ht ha hc => ?_)
  have h10 := v3.1
  obtain ⟨m, e, h⟩ := runV_c (T := 1) (sp := 10) (by omega) v1 v3.l ht hc
  have q5 := h.2.2.2.2
  rw [ha, if_pos (inb_nI (show t < 10 by omega) (show 10 < 2 ^ 31 by decide)), ix_nI (by omega)]
  unfold f_X2_run f_X2_goesStill
  rw [show f_X2_runFrom 1 (6 + t) 10 im = some m from e, Option.bind_some, Option.bind_some, q5 6 (by decide), place_c q5]
  by_cases g : (alV V t 10).2.1 6 = 1
  · rw [if_pos g, if_neg i10, refuse_4, Option.bind_some]
    refine ⟨-1000004, up m 73 3 (m 73 3 + 1), rfl, by rw [up_row (by decide), h.1 83 (by decide) (by decide)], fun m' o => ⟨up m' 86 3 (m' 86 3 + 1), ?_, fin_ref (by decide) hI (aC_agr h.1) (aR_agr (out_aR o))⟩⟩
    show (if (m' 82 8) = 1 then _ else _) = _
    rw [o.2.2.2.2.1, if_pos g, finds_4, Option.bind_some]
  · rw [if_neg g, if_pos rfl]
    refine ⟨_, _, rfl, by rw [h.1 83 (by decide) (by decide)], fun m' o => ⟨m', ?_, hI.agr ((aC_agr h.1).trans (aR_agr (out_aR o)))⟩⟩
    show (if (m' 82 8) = 1 then _ else _) = _
    rw [o.2.2.2.2.1, if_neg g, o.2.2.2.1]
    rfl
theorem lp_takes : LP_takes Inv := by
  intro im hI a
  refine alone_lp hI (fx1 := if inb a 10 = true then (f_X2_run 1 (6 + ix a) im).bind fun r3 => if (f_X2_goesStill r3) = 0 then some (r3 61 1, r3) else (f_X6_refuse (-1000004) r3).bind fun r4 => some (r4.1, r4.2) else none) (fm1 := fun m => if (m 82 8) = 1 then (f_X7_finds (-1000004) m).bind fun r2 => some (r2.1, r2.2) else some (m 82 9, m)) rfl (fun m => rfl) (fun V t v1 v2 v3 ht ha hc => ?_)
  have h10 := v3.1
  obtain ⟨m, e, h⟩ := runV_c (T := 1) (sp := 10) (by omega) v1 v3.l ht hc
  have q5 := h.2.2.2.2
  rw [ha, if_pos (inb_nI (show t < 10 by omega) (show 10 < 2 ^ 31 by decide)), ix_nI (by omega)]
  unfold f_X2_run f_X2_goesStill
  rw [show f_X2_runFrom 1 (6 + t) 10 im = some m from e, Option.bind_some, Option.bind_some, q5 6 (by decide), h.2.1]
  by_cases g : (alV V t 10).2.1 6 = 1
  · rw [if_pos g, if_neg i10, refuse_4, Option.bind_some]
    refine ⟨-1000004, up m 73 3 (m 73 3 + 1), rfl, by rw [up_row (by decide), h.1 83 (by decide) (by decide)], fun m' o => ⟨up m' 86 3 (m' 86 3 + 1), ?_, fin_ref (by decide) hI (aC_agr h.1) (aR_agr (out_aR o))⟩⟩
    show (if (m' 82 8) = 1 then _ else _) = _
    rw [o.2.2.2.2.1, if_pos g, finds_4, Option.bind_some]
  · rw [if_neg g, if_pos rfl]
    refine ⟨_, _, rfl, by rw [h.1 83 (by decide) (by decide)], fun m' o => ⟨m', ?_, hI.agr ((aC_agr h.1).trans (aR_agr (out_aR o)))⟩⟩
    show (if (m' 82 8) = 1 then _ else _) = _
    rw [o.2.2.2.2.1, if_neg g, o.2.2.2.2.2.1]
theorem lp_speed : LP_speed Inv := by
  intro im hI a
  refine alone_lp hI (fx1 := if inb a 10 = true then (f_X2_run 1 (6 + ix a) im).bind fun r3 => some (r3 61 2, r3) else none) (fm1 := fun m => some (m 82 10, m)) rfl (fun m => rfl) (fun V t v1 v2 v3 ht ha hc => ?_)
  have h10 := v3.1
  obtain ⟨m, e, h⟩ := runV_c (T := 1) (sp := 10) (by omega) v1 v3.l ht hc
  rw [ha, if_pos (inb_nI (show t < 10 by omega) (show 10 < 2 ^ 31 by decide)), ix_nI (by omega)]
  unfold f_X2_run
  rw [show f_X2_runFrom 1 (6 + t) 10 im = some m from e, Option.bind_some, Option.bind_some, h.2.2.1]
  refine ⟨_, _, rfl, by rw [h.1 83 (by decide) (by decide)], fun m' o => ⟨m', ?_, hI.agr ((aC_agr h.1).trans (aR_agr (out_aR o)))⟩⟩
  show some (m' 82 10, m') = _
  rw [o.2.2.2.2.2.2.1]
theorem lp_seen : LP_seen Inv := by
  intro im hI a
  refine alone_lp hI (fx1 := if inb a 10 = true then (f_X2_run 1 (6 + ix a) im).bind fun r3 => some (r3 61 3, r3) else none) (fm1 := fun m => some (m 82 11, m)) rfl (fun m => rfl) (fun V t v1 v2 v3 ht ha hc => ?_)
  have h10 := v3.1
  obtain ⟨m, e, h⟩ := runV_c (T := 1) (sp := 10) (by omega) v1 v3.l ht hc
  rw [ha, if_pos (inb_nI (show t < 10 by omega) (show 10 < 2 ^ 31 by decide)), ix_nI (by omega)]
  unfold f_X2_run
  rw [show f_X2_runFrom 1 (6 + t) 10 im = some m from e, Option.bind_some, Option.bind_some, h.2.2.2.1]
  refine ⟨_, _, rfl, by rw [h.1 83 (by decide) (by decide)], fun m' o => ⟨m', ?_, hI.agr ((aC_agr h.1).trans (aR_agr (out_aR o)))⟩⟩
  show some (m' 82 11, m') = _
  rw [o.2.2.2.2.2.2.2]
