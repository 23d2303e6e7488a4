/-! a thing let go -/
def letV (V : TV) (t : Nat) (sp : Int32) : TV := setR V t (letRow (vT V t) sp)
theorem letRow_ok {x : Nat → Int32} (h : OkT x) (h4 : ¬ x 4 = 30) : OkT (letRow x 10) := by
  obtain ⟨c, hc, e⟩ := cell_29 h h4
  refine ⟨h.1, h.2.1, h.2.2.1, h.2.2.2.1, h.2.2.2.2.1, ?_, ?_, fun _ => ?_⟩
  · show wi (10 : Int32) 0 99; unfold wi; decide
  · show wi (1 : Int32) 0 3; unfold wi; decide
  · show x 4 ≤ 29
    rw [e]
    exact (nI_le_lit (n := 29) 29 (by decide) (by omega)).mpr hc
theorem letV_ok {V : TV} {t : Nat} (ok : OkL V) (ht : t < vN V) (h4 : ¬ vT V t 4 = 30) : OkL (letV V t 10) := ok.R (letRow_ok (ok.2.2.2.1 t ht) h4)
theorem letV_c {im : IM} {T t : Nat} {V : TV} {sp : Int32} (v : RC im T V) (h10 : vN V ≤ 10) (ht : t < vN V) : RC (f_X4_letGo (T + 5 + t) sp im) T (letV V t sp) ∧ ∀ a, a ≠ T + 5 + t → f_X4_letGo (T + 5 + t) sp im a = im a := by
  refine ⟨RC_row v h10 (letRow (vT V t) sp) (fun w hw => ?_) (fun a h1 h2 h3 => letGo_row h3), fun a ha => letGo_row ha⟩
  rw [letGo_w]
  unfold letRow
  rw [v.2.2.1 t ht w hw]
theorem letsGo_r {im : IM} {t : Nat} {sp : Int32} (ht : t < 10) : f_X7_letsGo (nI t) sp im = some (up (up im 83 (67 + 9 * t + 6) 1) 83 (67 + 9 * t + 5) sp) := by
  unfold f_X7_letsGo
  rw [if_pos (at_in (w := 6) 6 rfl ht (by decide)), at_ix (w := 6) 6 rfl ht (by decide), bnd_eq, if_pos (at_in (w := 5) 5 rfl ht (by decide)), at_ix (w := 5) 5 rfl ht (by decide), bnd_eq]
theorem letV_r {im : IM} {t : Nat} {V : TV} {sp : Int32} (v : RR im 83 V) (h10 : vN V ≤ 10) (ht : t < vN V) : RR (up (up im 83 (67 + 9 * t + 6) 1) 83 (67 + 9 * t + 5) sp) 83 (letV V t sp) := by
  refine RR_row v h10 (by omega) (letRow (vT V t) sp) (fun w hw => ?_) (fun k hk => by rw [up_ne (by omega), up_ne (by omega)])
  unfold letRow
  by_cases c5 : w = 5
  · subst c5; rw [up_same, if_pos rfl]
  · rw [up_ne (by omega), if_neg c5]
    by_cases c6 : w = 6
    · subst c6; rw [up_same, if_pos rfl]
    · rw [up_ne (by omega), if_neg c6]; exact v.2.2.1 t ht w hw
theorem rest_min {V : TV} {t : Nat} (h : vT V t 6 = 0) : vT (minV V) t 6 = 0 ∧ vT (minV V) t 4 = vT V t 4 := by
  have e : rollW V t = vT V t := rollW_n (by unfold bgV; rw [h]; decide)
  show metW V t 6 = 0 ∧ metW V t 4 = vT V t 4
  unfold metW stW
  by_cases q : qm (rollW V) (bgV V) (vN V) (vN V) t = true
  · rw [if_pos q, e]; exact ⟨rfl, rfl⟩
  · rw [if_neg q, e]; exact ⟨h, rfl⟩
theorem rest_it {V : TV} {t : Nat} (h : vT V t 6 = 0) : ∀ n, vT (itV V n) t 6 = 0 ∧ vT (itV V n) t 4 = vT V t 4
  | 0 => ⟨h, rfl⟩
  | n + 1 => by
    obtain ⟨h1, h2⟩ := rest_it h n
    obtain ⟨h3, h4⟩ := rest_min h1
    exact ⟨h3, h4.trans h2⟩
/-! quiet minutes of the reference -/
theorem quiet_r {m : IM} {V : TV} (v : RR m 83 V) (ok : OkL V) {N : Nat} (hN : N < 5000) : ∃ c : Int32 × IM, f_X7_isQuiet (nI N) m = some (c.1, c.2) ∧ (mr m c.2 ∧ ((c.1 = 1 ∧ (∀ i, i < N → minMet (itV V i) = 0) ∧ RR c.2 83 (itV V N)) ∨ (c.1 = 0 ∧ ∃ i, i < N ∧ ¬ minMet (itV V i) = 0))) := by
  unfold f_X7_isQuiet
  refine loopG (fun f (s : Int32 × IM) i => f_X7_isQuiet_l1 (nI N) f s.1 i s.2) (fun c : Int32 × IM => some (c.1, c.2)) 0 0 rfl N hN (by omega) (fun i s => mr m s.2 ∧ ((s.1 = 1 ∧ (∀ j, j < i → minMet (itV V j) = 0) ∧ RR s.2 83 (itV V i)) ∨ (s.1 = 0 ∧ ∃ j, j < i ∧ ¬ minMet (itV V j) = 0))) _ (fun f s hP => ?_) (fun f s i hi0 hi hP => ?_) (1, m) ⟨mr_refl, Or.inl ⟨rfl, fun j hj => absurd hj (Nat.not_lt_zero _), v⟩⟩
  · have e0 : f_X7_isQuiet_l1 (nI N) (f + 1) s.1 (nI N) s.2 = some (zb s.1, s.2) := by
      show f_X7_isQuiet_l1b (nI N) _ s.1 (nI N) s.2 = _
      unfold f_X7_isQuiet_l1b f_X7_isQuiet_j2
      rw [if_pos (Int32.le_refl _)]
    refine ⟨(s.1, s.2), ?_, hP⟩
    show f_X7_isQuiet_l1 (nI N) (f + 1) s.1 (nI N) s.2 = some (s.1, s.2)
    rw [e0]
    rcases hP.2 with z | z
    · rw [z.1, zb_1]
    · rw [z.1, zb_0]
  · obtain ⟨p1, ⟨p2, p3, p4⟩ | ⟨p2, j, p3, p4⟩⟩ := hP
    · obtain ⟨m', e, r, x5, x6, o, o2⟩ := minute_r p4 (it_ok ok i)
      have e0 : f_X7_isQuiet_l1 (nI N) (f + 1) s.1 (nI i) s.2 = if nI (minMet (itV V i)) = 0 then f_X7_isQuiet_l1 (nI N) f 1 (nI (i + 1)) m' else f_X7_isQuiet_l1 (nI N) f 0 (nI (i + 1)) m' := by
        show f_X7_isQuiet_l1b (nI N) _ s.1 (nI i) s.2 = _
        unfold f_X7_isQuiet_l1b f_X7_isQuiet_j3
        rw [if_neg (nI_ge hi (by omega)), p2, if_neg i10, e, Option.bind_some, x5, bnd_eq, bnd_eq, nI_1]
      by_cases c : minMet (itV V i) = 0
      · rw [c, if_pos (by decide)] at e0
        refine Or.inr ⟨(1, m'), e0, mr_trans p1 ⟨o, o2⟩, Or.inl ⟨rfl, fun j hj => ?_, r⟩⟩
        by_cases e : j = i
        · subst e; exact c
        · exact p3 j (by omega)
      · rw [if_neg (nI_ne0 (by omega) (by have := minMet_le (it_ok ok i).1; omega))] at e0
        exact Or.inr ⟨(0, m'), e0, mr_trans p1 ⟨o, o2⟩, Or.inr ⟨rfl, i, by omega, c⟩⟩
    · refine Or.inl ⟨(0, s.2), ?_, p1, Or.inr ⟨rfl, j, by omega, p4⟩⟩
      show f_X7_isQuiet_l1b (nI N) _ s.1 (nI i) s.2 = some (0, s.2)
      unfold f_X7_isQuiet_l1b f_X7_isQuiet_j2
      rw [if_neg (nI_ge hi (by omega)), p2, if_pos rfl, zb_0]
theorem FM_n0 {V : TV} {r k : Nat} (h : FM V r k) (hr : ¬ r = 0) : ∃ i, i < 200 ∧ ¬ minMet (itV V i) = 0 := by
  obtain ⟨h1, h2, h3⟩ := h
  rcases h3 with ⟨h4, -⟩ | ⟨h4, h5, h6, -⟩
  · exact absurd h4 hr
  · exact ⟨r - 1, by omega, h6⟩
/-- looks of the reference that begin and end with the row 85 -/
def lk (m2 m : IM) : Prop := mr m2 m ∧ ∀ k, k < 167 → m 83 k = m2 83 k
theorem lk_refl {m : IM} : lk m m := ⟨mr_refl, fun _ _ => rfl⟩
theorem lk_back {im m2 m m3 m4 : IM} (c1 : cpR im m2 85 83 167) (h : lk m2 m) (g : mr m m3) (c2 : cpR m3 m4 83 85 167) : lk m2 m4 := by
  have e := mr_trans h.1 g
  refine ⟨⟨fun a h1 h2 => by rw [c2.1 a h2]; exact e.1 a h1 h2, fun k h1 h2 => by rw [c2.1 82 (by decide)]; exact e.2 k h1 h2⟩, fun k hk => ?_⟩
  rw [c2.2 k hk, e.1 85 (by decide) (by decide), c1.2 k hk, c1.1 83 (by decide)]
theorem lk_agR {im m2 m : IM} (c1 : cpR im m2 85 83 167) (h : lk m2 m) : agR im m := by
  refine ⟨fun a g1 g2 g3 g4 g5 => ?_, ⟨?_, ?_, ?_, ?_⟩, fun k hk => ?_⟩
  · have h85 : a ≠ 85 := fun e => g1 (by unfold scr; omega)
    rw [h.1.1 a g4 g5, c1.1 a h85]
  · rw [h.1.1 0 (by decide) (by decide), c1.1 0 (by decide)]
  · rw [h.1.1 66 (by decide) (by decide), c1.1 66 (by decide)]
  · rw [h.1.2 4 (by decide) (by decide), c1.1 82 (by decide)]
  · rw [h.1.2 16 (by decide) (by decide), c1.1 82 (by decide)]
  · rw [h.2 k hk, c1.1 83 (by decide)]
theorem mr_83 {a b : IM} (h : mr a b) {i : Nat} {x : Int32} : mr a (up b 83 i x) := ⟨fun y h1 h2 => by rw [up_row h2]; exact h.1 y h1 h2, fun k h5 h6 => by rw [up_row (by decide)]; exact h.2 k h5 h6⟩
theorem two_agR {im m : IM} (o : ∀ a, ¬ (31 ≤ a ∧ a < 61) → m a = im a) : agR im m := agR_rows (fun x hx => o x (fun h => hx (by unfold scr; omega)))
theorem late9740 {V : TV} (v3 : OkV V) : vM V ≤ 9740 ↔ vM V + 259 ≤ 9999 := (late_iff v3.2.2.2.2.2.2.2 (n := 259) (by omega) 9740 rfl).1
def hitW (V : TV) (t n : Nat) : Prop := ∀ i, i < 200 → minMet (itV (letV (itV V n) t 10) i) = 0
theorem wait_c {im : IM} {V : TV} {t : Nat} (v : RC im 31 V) (ok : OkL V) (ht : t < vN V) (hr : rdy V t) : ∃ c : Nat × IM, f_X6_wait_l2 (nI t) xF 0 im = (if c.1 = 60 then (f_X6_refuse (-1000004) c.2).bind fun r4 => some (r4.1, r4.2) else some (nI c.1, c.2)) ∧ ((∀ a, ¬ (31 ≤ a ∧ a < 61) → c.2 a = im a) ∧ c.1 ≤ 60 ∧ (∀ j, j < c.1 → ¬ hitW V t j) ∧ (c.1 < 60 → hitW V t c.1)) := by
  have h10 := ok.1
  have ib := inb_nI (show t < 10 by omega) (show 10 < 2 ^ 31 by decide)
  have it : ix (nI t) = t := ix_nI (by omega)
  refine loopG (fun f m i => f_X6_wait_l2 (nI t) f i m) (fun c : Nat × IM => if c.1 = 60 then (f_X6_refuse (-1000004) c.2).bind fun r4 => some (r4.1, r4.2) else some (nI c.1, c.2)) 0 0 rfl 60 (by omega) (by omega) (fun i m => RC m 31 (itV V i) ∧ (∀ a, ¬ (31 ≤ a ∧ a < 61) → m a = im a) ∧ ∀ j, j < i → ¬ hitW V t j) _ (fun f m hP => ⟨(60, m), ?_, hP.2.1, Nat.le_refl _, hP.2.2, fun z => absurd z (Nat.lt_irrefl _)⟩) (fun f m i hi0 hi hP => ?_) im ⟨v, fun _ _ => rfl, fun j hj => absurd hj (Nat.not_lt_zero _)⟩
  · show f_X6_wait_l2b (nI t) _ (nI 60) m = if (60 : Nat) = 60 then _ else _
    unfold f_X6_wait_l2b
    rw [if_pos (by decide), if_pos rfl]
  · obtain ⟨p1, p2, p3⟩ := hP
    have okn := it_ok ok i
    have htn : t < vN (itV V i) := by rw [it_N]; exact ht
    obtain ⟨mb, eb, rb, ob⟩ := become_c (im := m) (T := 46) (S := 31) (by omega) p1 okn.1
    obtain ⟨rl, ol⟩ := letV_c (sp := 10) rb okn.1 htn
    obtain ⟨⟨r, k, m2⟩, e2, fm, r2, o2⟩ := first_c rl (letV_ok okn htn (by rw [(rest_it hr.1 i).2]; exact hr.2))
    have e2 : f_X5_firstMeeting 46 200 (f_X4_letGo (51 + t) 10 mb) = some (nI r, m2) := e2
    have fm : FM (letV (itV V i) t 10) r k := fm
    have o2 : ∀ a, ¬ (46 ≤ a ∧ a < 46 + 15) → m2 a = f_X4_letGo (46 + 5 + t) 10 mb a := o2
    have oo : ∀ a, ¬ (46 ≤ a ∧ a < 61) → m2 a = m a := fun a ha => by rw [o2 a (by omega), ol a (by omega), ob a (by omega)]
    obtain ⟨m3, e3, r3, o3⟩ := minute_c (im := m2) (T := 31) (V := itV V i) (p1.cg (fun a h1 h2 => oo a (by omega)) okn.1) okn
    have e0 : f_X6_wait_l2 (nI t) (f + 1) (nI i) m = if nI r = 0 then some (nI i, m2) else f_X6_wait_l2 (nI t) f (nI (i + 1)) m3 := by
      show f_X6_wait_l2b (nI t) _ (nI i) m = _
      unfold f_X6_wait_l2b
      rw [if_neg (by rw [nI_gt_lit (n := 59) 59 (by decide) (by omega)]; omega), eb, Option.bind_some, if_pos ib, bnd_eq, it, e2, Option.bind_some, e3, Option.bind_some, bnd_eq, nI_1]
    have hr200 : r ≤ 200 := by
      obtain ⟨f1, f2, f3⟩ := fm
      rcases f3 with ⟨f3, -⟩ | ⟨f3, -⟩
      · omega
      · omega
    by_cases c : r = 0
    · subst c
      rw [if_pos (by decide)] at e0
      refine Or.inl ⟨(i, m2), ?_, fun a ha => ?_, by show i ≤ 60; omega, p3, fun _ => FM_0 fm⟩
      · show f_X6_wait_l2 (nI t) (f + 1) (nI i) m = if i = 60 then _ else some (nI i, m2)
        rw [if_neg (by omega), e0]
      · exact (oo a (by omega)).trans (p2 a ha)
    · rw [if_neg (nI_ne0 (by omega) (by omega))] at e0
      refine Or.inr ⟨m3, e0, r3, fun a ha => ?_, fun j hj => ?_⟩
      · rw [o3 a (by omega), oo a (by omega)]; exact p2 a ha
      · by_cases e : j = i
        · subst e
          intro z
          obtain ⟨q, h1, h2⟩ := FM_n0 fm c
          exact h2 (z q h1)
        · exact p3 j (by omega)
theorem wait_r {im m2 : IM} {V : TV} {t : Nat} (c1 : cpR im m2 85 83 167) (v : RR m2 83 V) (ok : OkL V) (ht : t < vN V) (hr : rdy V t) : ∃ c : Nat × IM, f_X7_wait_l2 (nI t) xF (-1) 0 m2 = f_X7_wait_j3 (nI t) (if c.1 = 60 then -1 else nI c.1) c.2 ∧ (lk m2 c.2 ∧ c.1 ≤ 60 ∧ (∀ j, j < c.1 → ¬ hitW V t j) ∧ (c.1 < 60 → hitW V t c.1)) := by
  have h10 := ok.1
  refine loopG (fun f (s : Int32 × IM) i => f_X7_wait_l2 (nI t) f s.1 i s.2) (fun c : Nat × IM => f_X7_wait_j3 (nI t) (if c.1 = 60 then -1 else nI c.1) c.2) 0 0 rfl 60 (by omega) (by omega) (fun i s => lk m2 s.2 ∧ ((s.1 = -1 ∧ ∀ j, j < i → ¬ hitW V t j) ∨ (1 ≤ i ∧ s.1 = nI (i - 1) ∧ hitW V t (i - 1) ∧ ∀ j, j < i - 1 → ¬ hitW V t j))) _ (fun f s hP => ?_) (fun f s i hi0 hi hP => ?_) (-1, m2) ⟨lk_refl, Or.inl ⟨rfl, fun j hj => absurd hj (Nat.not_lt_zero _)⟩⟩
  · have e0 : f_X7_wait_l2 (nI t) (f + 1) s.1 (nI 60) s.2 = f_X7_wait_j3 (nI t) s.1 s.2 := by
      show f_X7_wait_l2b (nI t) _ s.1 (nI 60) s.2 = _
      unfold f_X7_wait_l2b
      rw [if_pos (by decide)]
    obtain ⟨p1, ⟨p2, p3⟩ | ⟨p2, p3, p4, p5⟩⟩ := hP
    · refine ⟨(60, s.2), ?_, p1, Nat.le_refl _, p3, fun z => absurd z (Nat.lt_irrefl _)⟩
      show f_X7_wait_l2 (nI t) (f + 1) s.1 (nI 60) s.2 = f_X7_wait_j3 (nI t) (if (60 : Nat) = 60 then -1 else nI 60) s.2
      rw [e0, if_pos rfl, p2]
    · refine ⟨(59, s.2), ?_, p1, by show 59 ≤ 60; omega, p5, fun _ => p4⟩
      show f_X7_wait_l2 (nI t) (f + 1) s.1 (nI 60) s.2 = f_X7_wait_j3 (nI t) (if (59 : Nat) = 60 then -1 else nI 59) s.2
      rw [e0, if_neg (by decide), p3]
  · obtain ⟨p1, ⟨p2, p3⟩ | ⟨p2, p3, p4, p5⟩⟩ := hP
    · have vs : RR s.2 83 V := v.pt h10 p1.2
      -- the minutes that are waited
      have key : ∃ m3, f_X7_wait_l4 (nI t) (f_X7_wait_l2 (nI t) f) xF (nI i) 0 s.2 = ((f_X7_letsGo (nI t) 10 m3).bind fun r5 => (f_X7_isQuiet 200 r5).bind fun r6 => if r6.1 = 0 then f_X7_wait_j5 (nI t) (f_X7_wait_l2 (nI t) f) (nI i) (-1) r6.2 else f_X7_wait_j5 (nI t) (f_X7_wait_l2 (nI t) f) (nI i) (nI i) r6.2) ∧ (RR m3 83 (itV V i) ∧ mr s.2 m3) := by
        refine loopG (fun g m k => f_X7_wait_l4 (nI t) (f_X7_wait_l2 (nI t) f) g (nI i) k m) (fun m3 : IM => (f_X7_letsGo (nI t) 10 m3).bind fun r5 => (f_X7_isQuiet 200 r5).bind fun r6 => if r6.1 = 0 then f_X7_wait_j5 (nI t) (f_X7_wait_l2 (nI t) f) (nI i) (-1) r6.2 else f_X7_wait_j5 (nI t) (f_X7_wait_l2 (nI t) f) (nI i) (nI i) r6.2) 0 0 rfl i (by omega) (by omega) (fun k m => RR m 83 (itV V k) ∧ mr s.2 m) _ (fun g m hP => ⟨m, ?_, hP⟩) (fun g m k hk0 hk hP => Or.inr ?_) s.2 ⟨vs, mr_refl⟩
        · show f_X7_wait_l4b (nI t) _ _ (nI i) (nI i) m = _
          unfold f_X7_wait_l4b
          rw [if_pos (Int32.le_refl _)]
        · obtain ⟨m', e, r, x5, x6, o, o2⟩ := minute_r hP.1 (it_ok ok k)
          refine ⟨m', ?_, r, mr_trans hP.2 ⟨o, o2⟩⟩
          show f_X7_wait_l4b (nI t) _ _ (nI i) (nI k) m = _
          unfold f_X7_wait_l4b
          rw [if_neg (nI_ge hk (by omega)), e, Option.bind_some, bnd_eq, nI_1]
      obtain ⟨m3, e3, r3, q3⟩ := key
      have okn := it_ok ok i
      have htn : t < vN (itV V i) := by rw [it_N]; exact ht
      have okl : OkL (letV (itV V i) t 10) := letV_ok okn htn (by rw [(rest_it hr.1 i).2]; exact hr.2)
      obtain ⟨⟨r, m5⟩, e5, q5, h5⟩ := quiet_r (N := 200) (letV_r (sp := 10) r3 okn.1 htn) okl (by omega)
      have e5 : f_X7_isQuiet 200 (up (up m3 83 (67 + 9 * t + 6) 1) 83 (67 + 9 * t + 5) 10) = some (r, m5) := e5
      have q5 : mr s.2 m5 := mr_trans (mr_83 (mr_83 q3)) q5
      obtain ⟨m6, e6, c6⟩ := putsBack_r m5
      have lk6 : lk m2 m6 := lk_back c1 p1 q5 c6
      have e0 : f_X7_wait_l2 (nI t) (f + 1) s.1 (nI i) s.2 = if r = 0 then f_X7_wait_l2 (nI t) f (-1) (nI (i + 1)) m6 else f_X7_wait_l2 (nI t) f (nI i) (nI (i + 1)) m6 := by
        show f_X7_wait_l2b (nI t) _ s.1 (nI i) s.2 = _
        unfold f_X7_wait_l2b
        rw [if_neg (by rw [nI_ge_lit (n := 60) 60 (by decide) (by omega)]; omega), p2, if_neg (by decide), e3, letsGo_r (by omega), Option.bind_some, e5, Option.bind_some]
        unfold f_X7_wait_j5
        rw [e6, Option.bind_some, Option.bind_some, bnd_eq, bnd_eq, nI_1]
      rcases h5 with ⟨z, h5, -⟩ | ⟨z, j, h5, h6⟩
      · have z : r = 1 := z
        rw [z, if_neg i10] at e0
        exact Or.inr ⟨(nI i, m6), e0, lk6, Or.inr ⟨by omega, rfl, h5, p3⟩⟩
      · have z : r = 0 := z
        rw [z, if_pos rfl] at e0
        refine Or.inr ⟨(-1, m6), e0, lk6, Or.inl ⟨rfl, fun j' hj => ?_⟩⟩
        by_cases e : j' = i
        · subst e
          exact fun y => h6 (y j h5)
        · exact p3 j' (by omega)
    · refine Or.inl ⟨(i - 1, s.2), ?_, p1, by show i - 1 ≤ 60; omega, p5, fun _ => p4⟩
      show f_X7_wait_l2b (nI t) _ s.1 (nI i) s.2 = f_X7_wait_j3 (nI t) (if i - 1 = 60 then -1 else nI (i - 1)) s.2
      unfold f_X7_wait_l2b
      rw [if_neg (by rw [nI_ge_lit (n := 60) 60 (by decide) (by omega)]; omega), p3, if_pos (nI_pos' (by omega)), if_neg (by omega)]
theorem lp_wait : LP_wait Inv := by
  intro im hI a1
  obtain ⟨⟨V, v1, v2, v3⟩, -⟩ := id hI
  have h10 := v3.1
  have ok := v3.l
  by_cases ht : ∃ t, t < vN V ∧ a1 = nI t
  · obtain ⟨t, ht, rfl⟩ := ht
    have ib := inb_nI (show t < 10 by omega) (show 10 < 2 ^ 31 by decide)
    have it : ix (nI t) = t := ix_nI (by omega)
    have r6 : im (6 + t) 6 = vT V t 6 := v1.2.2.1 t ht 6 (by decide)
    have r4 : im (6 + t) 4 = vT V t 4 := v1.2.2.1 t ht 4 (by decide)
    have k6 : im 83 (67 + 9 * t + 6) = vT V t 6 := v2.2.2.1 t ht 6 (by decide)
    have k4 : im 83 (67 + 9 * t + 4) = vT V t 4 := v2.2.2.1 t ht 4 (by decide)
    have w4 : wi (im 83 (67 + 9 * t + 4)) 0 30 := by rw [k4]; exact (ok.2.2.2.1 t ht).2.2.2.2.1
    have eC : f_X6_wait (nI t) im = if f_X4_canBeLetGo (6 + t) im = 0 then f_X6_wait_j1 (nI t) im else if f_X6_isTooLateToWait im = 0 then (f_X5_become 31 1 im).bind fun r3 => f_X6_wait_l2 (nI t) xF 0 r3 else f_X6_wait_j1 (nI t) im := by
      unfold f_X6_wait
      rw [thing_1 h10 v1.2.2.2.2.1 ht, if_neg i10, if_pos ib, it]
    have eR : ∀ m : IM, m 83 = im 83 → f_X7_wait (nI t) m = (f_X7_isReady (nI t) m).bind fun r1 => if r1 = 0 then f_X7_wait_j1 (nI t) m else if f_X7_isTooLate 259 m = 0 then (f_X7_puts m).bind fun r3 => f_X7_wait_l2 (nI t) xF (-1) 0 r3 else f_X7_wait_j1 (nI t) m := by
      intro m hm
      unfold f_X7_wait
      rw [thing7_1 h10 (by rw [hm]; exact v2.2.2.2.2.1) ht, if_neg i10]
    by_cases hc : rdy V t ∧ vM V ≤ 9740
    · obtain ⟨mb, eb, rb, ob⟩ := become_c (im := im) (T := 31) (S := 1) (by omega) v1 h10
      obtain ⟨⟨c, m⟩, e, o, d1, d2, d3⟩ := wait_c rb ok ht hc.1
      have e : f_X6_wait_l2 (nI t) xF 0 mb = (if c = 60 then (f_X6_refuse (-1000004) m).bind fun r4 => some (r4.1, r4.2) else some (nI c, m)) := e
      have oo : ∀ a, ¬ (31 ≤ a ∧ a < 61) → m a = im a := fun a ha => (o a ha).trans (ob a (by omega))
      have d1 : c ≤ 60 := d1
      have eC2 : f_X6_wait (nI t) im = (if c = 60 then (f_X6_refuse (-1000004) m).bind fun r4 => some (r4.1, r4.2) else some (nI c, m)) := by
        rw [eC, ready_1 (by rw [r6, r4]; exact hc.1), if_neg i10]
        unfold f_X6_isTooLateToWait
        rw [v1.2.2.2.2.2.2.2.1, if_pos hc.2, if_pos rfl, eb, Option.bind_some, e]
      have eR2 : ∀ x : IM, x 83 = im 83 → ∃ n, f_X7_wait (nI t) x = f_X7_wait_j3 (nI t) (if c = 60 then -1 else nI c) n ∧ agR x n := by
        intro x hx
        obtain ⟨x2, e2, c2⟩ := puts_r x
        have vx : RR x2 83 V := v2.cg (by rw [c2.1 83 (by decide), hx])
        obtain ⟨⟨d, n⟩, e3, l3, g1, g2, g3⟩ := wait_r c2 vx ok ht hc.1
        have e3 : f_X7_wait_l2 (nI t) xF (-1) 0 x2 = f_X7_wait_j3 (nI t) (if d = 60 then -1 else nI d) n := e3
        have cd : c = d := first_u d1 g1 d2 g2 d3 g3
        refine ⟨n, ?_, lk_agR c2 l3⟩
        rw [eR x hx, ready7_1 (by omega) (by rw [hx]; exact w4) (by rw [hx, k6, k4]; exact hc.1), Option.bind_some, if_neg i10]
        unfold f_X7_isTooLate
        rw [hx, v2.2.2.2.2.2.2.2.1, if_pos ((late9740 v3).mp hc.2), if_pos rfl, e2, Option.bind_some, e3, cd]
      by_cases g : c = 60
      · rw [if_pos g, refuse_4, Option.bind_some] at eC2
        obtain ⟨n, e2, a2⟩ := eR2 (up m 73 3 (m 73 3 + 1)) (by rw [up_row (by decide), oo 83 (by omega)])
        refine ⟨-1000004, up m 73 3 (m 73 3 + 1), up n 86 3 (n 86 3 + 1), eC2, ?_, ref4_2 hI (two_agR oo) a2⟩
        rw [e2, if_pos g]
        unfold f_X7_wait_j3
        rw [if_neg (by decide), finds_4, Option.bind_some]
      · rw [if_neg g] at eC2
        obtain ⟨n, e2, a2⟩ := eR2 m (oo 83 (by omega))
        refine ⟨nI c, m, n, eC2, ?_, hI.agR (agR_trans (two_agR oo) a2)⟩
        rw [e2, if_neg g]
        unfold f_X7_wait_j3
        rw [if_pos (nI_pos' (by omega))]
    · refine bref5 hI ?_ (fun m hm => ?_)
      · rw [eC]
        unfold f_X6_wait_j1 f_X6_isTooLateToWait
        by_cases c : rdy V t
        · rw [ready_1 (by rw [r6, r4]; exact c), if_neg i10, v1.2.2.2.2.2.2.2.1, if_neg (fun z => hc ⟨c, z⟩), if_neg i10, refuse_5, Option.bind_some]
        · rw [ready_0 (by rw [r6, r4]; exact c), if_pos rfl, refuse_5, Option.bind_some]
      · have h83 : m 83 = im 83 := by rw [hm, up_row (by decide)]
        rw [eR m h83]
        unfold f_X7_wait_j1 f_X7_isTooLate
        by_cases c : rdy V t
        · rw [ready7_1 (by omega) (by rw [h83]; exact w4) (by rw [h83, k6, k4]; exact c), Option.bind_some, if_neg i10, h83, v2.2.2.2.2.2.2.2.1, if_neg (fun z => hc ⟨c, (late9740 v3).mpr z⟩), if_neg i10, finds_5, Option.bind_some]
        · rw [ready7_0 (by omega) (by rw [h83]; exact w4) (by rw [h83, k6, k4]; exact c), Option.bind_some, if_pos rfl, finds_5, Option.bind_some]
  · refine bref1 hI ?_ (fun m hm => ?_)
    · unfold f_X6_wait
      rw [thing_0 h10 v1.2.2.2.2.1 ht, if_pos rfl, refuse_1, Option.bind_some]
    · have h83 : m 83 = im 83 := by rw [hm, up_row (by decide)]
      unfold f_X7_wait
      rw [thing7_0 h10 (by rw [h83]; exact v2.2.2.2.2.1) ht, if_pos rfl, finds_1, Option.bind_some]
