/-! a thing changed for a try -/
def pl (x : Nat → Int32) (k : Nat) (v : Int32) : Nat → Int32 := fun w => if w = k then v else x w
theorem pl_same {x : Nat → Int32} {k : Nat} {v : Int32} : pl x k v k = v := if_pos rfl
theorem pl_ne {x : Nat → Int32} {k w : Nat} {v : Int32} (h : w ≠ k) : pl x k v w = x w := if_neg h
theorem pl_id {x : Nat → Int32} {k : Nat} : pl x k (x k) = x := by
  funext w
  unfold pl
  by_cases e : w = k
  · rw [if_pos e, e]
  · rw [if_neg e]
def tryV (V : TV) (t k : Nat) (v : Int32) : TV := setR V t (pl (vT V t) k v)
theorem tryV_T {V : TV} {t k : Nat} {v : Int32} : vT (tryV V t k v) t = pl (vT V t) k v := if_pos rfl
theorem setR_2 {V : TV} {t : Nat} {x y : Nat → Int32} : setR (setR V t x) t y = setR V t y := by
  unfold setR
  show (V.1, V.2.1, (fun s => if s = t then y else (if s = t then x else vT V s)), V.2.2.2) = _
  congr 3
  funext s
  by_cases e : s = t
  · rw [if_pos e, if_pos e]
  · rw [if_neg e, if_neg e, if_neg e]
theorem setR_id {V : TV} {t : Nat} : setR V t (vT V t) = V := by
  unfold setR
  have : (fun s => if s = t then vT V t else vT V s) = vT V := by
    funext s
    by_cases e : s = t
    · rw [if_pos e, e]
    · rw [if_neg e]
  rw [this]
theorem tryV_id {V : TV} {t k : Nat} : tryV V t k (vT V t k) = V := by
  unfold tryV
  rw [pl_id, setR_id]
theorem tryV_2 {V : TV} {t k : Nat} {u v : Int32} : setR (tryV V t k u) t (pl (vT (tryV V t k u) t) k v) = tryV V t k v := by
  rw [tryV_T]
  unfold tryV
  rw [setR_2]
  congr 1
  funext w
  unfold pl
  by_cases e : w = k
  · rw [if_pos e, if_pos e]
  · rw [if_neg e, if_neg e, if_neg e]
theorem OkL.R {V : TV} (h : OkL V) {t : Nat} {x : Nat → Int32} (hx : OkT x) : OkL (setR V t x) := by
  obtain ⟨h1, h2, h3, h4, h5⟩ := h
  refine ⟨h1, h2, h3, fun s hs => ?_, h5⟩
  rw [setR_T]
  by_cases e : s = t
  · rw [if_pos e]; exact hx
  · rw [if_neg e]; exact h4 s hs
theorem pl_ok2 {x : Nat → Int32} (h : OkT x) {v : Int32} (hv : wi v 1 9) : OkT (pl x 2 v) := ⟨h.1, h.2.1, hv, h.2.2.2⟩
theorem pl_ok0 {x : Nat → Int32} (h : OkT x) {v : Int32} (hv : wi v 0 6) : OkT (pl x 0 v) := ⟨hv, h.2⟩
theorem canS_try {V : TV} {t k : Nat} {v : Int32} (h : canS V t) (h4 : k ≠ 4) (h6 : k ≠ 6) : canS (tryV V t k v) t := by
  unfold canS at h ⊢
  rw [tryV_T, pl_ne h4.symm, pl_ne h6.symm]
  exact h
/-- rows that the class leaves when it tries on later -/
def aL (im m : IM) : Prop := ∀ a, ¬ (31 ≤ a ∧ a < 31 + 15) → a ≠ 61 → a ≠ 62 → m a = im a
theorem aL_agr {im m : IM} (h : aL im m) : agr im m := by
  refine ⟨fun a g1 g2 g3 g4 => h a (fun e => g1 ?_) (fun e => g1 ?_) (fun e => g1 ?_), ?_, ?_, ?_, ?_⟩
  · unfold scr; omega
  · unfold scr; omega
  · unfold scr; omega
  · rw [h 0 (by omega) (by decide) (by decide)]
  · rw [h 66 (by omega) (by decide) (by decide)]
  · rw [h 82 (by omega) (by decide) (by decide)]
  · rw [h 82 (by omega) (by decide) (by decide)]
theorem try_c {m : IM} {V : TV} {t k : Nat} {u v : Int32} (hk : k < 8) (r : RC m 31 (tryV V t k u)) (ok : OkL (tryV V t k v)) (ht : t < vN V) (h : canS (tryV V t k v) t) : ∃ m', f_X2_run 31 (36 + t) (up m (36 + t) k v) = some m' ∧ RC m' 31 (tryV V t k v) ∧ (∀ a, ¬ (31 ≤ a ∧ a < 31 + 15) → a ≠ 61 → a ≠ 62 → m' a = m a) ∧ ∀ w, w < 8 → m' 62 w = (alV (tryV V t k v) t 10).2.1 w := by
  have h10 : vN V ≤ 10 := ok.1
  have r2 : RC (up m (36 + t) k v) 31 (tryV V t k v) := by
    have := RC_row (im' := up m (36 + t) k v) (t := t) r h10 (pl (vT (tryV V t k u) t) k v) (fun w hw => ?_) (fun a h1 h2 h3 => up_row (by omega))
    · rw [tryV_2] at this; exact this
    · show up m (36 + t) k v (36 + t) w = _
      by_cases e : w = k
      · subst e; rw [up_same, pl_same]
      · rw [up_ne e, pl_ne e]; exact r.2.2.1 t ht w hw
  obtain ⟨m', e, q⟩ := runV_c (T := 31) (sp := 10) (by omega) r2 ok ht h
  refine ⟨m', ?_, r2.cg (fun a h1 h2 => q.1 a (by omega) (by omega)) h10, fun a h1 h2 h3 => ?_, q.2.2.2.2⟩
  · unfold f_X2_run
    rw [show f_X2_runFrom 31 (36 + t) 10 (up m (36 + t) k v) = some m' from e, Option.bind_some]
  · rw [q.1 a h2 h3, up_row (by omega)]
/-- what the reference leaves when it tries -/
def aT (im m : IM) (p : Nat) : Prop := (∀ a, a ≠ 82 → a ≠ 83 → m a = im a) ∧ (∀ k, (k < 7 ∨ 11 < k) → m 82 k = im 82 k) ∧ ∀ k, k ≠ p → m 83 k = im 83 k
theorem aT_refl {im : IM} {p : Nat} : aT im im p := ⟨fun _ _ _ => rfl, fun _ _ => rfl, fun _ _ => rfl⟩
theorem aT_back {im m : IM} {p : Nat} (h : aT im m p) : aR im (up m 83 p (im 83 p)) := by
  refine ⟨fun a ha => ?_, fun k hk => by rw [up_row (by decide)]; exact h.2.1 k hk⟩
  by_cases e : a = 83
  · subst e
    funext k
    by_cases ek : k = p
    · subst ek; rw [up_same]
    · rw [up_ne ek]; exact h.2.2 k ek
  · rw [up_row e]; exact h.1 a ha e
theorem try_r {im m : IM} {V : TV} {t k : Nat} {u v : Int32} (hk : k < 8) (r : RR m 83 (tryV V t k u)) (o : aT im m (67 + 9 * t + k)) (ok : OkL (tryV V t k v)) (ht : t < vN V) (h : canS (tryV V t k v) t) : ∃ m', f_X7_alone (nI t) 10 (up m 83 (67 + 9 * t + k) v) = some m' ∧ RR m' 83 (tryV V t k v) ∧ aT im m' (67 + 9 * t + k) ∧ m' 82 7 = eCell (alV (tryV V t k v) t 10).2.1 ∧ m' 82 8 = (alV (tryV V t k v) t 10).2.1 6 := by
  have h10 : vN V ≤ 10 := ok.1
  have r2 : RR (up m 83 (67 + 9 * t + k) v) 83 (tryV V t k v) := by
    have := RR_row (im' := up m 83 (67 + 9 * t + k) v) (t := t) r h10 (by omega) (pl (vT (tryV V t k u) t) k v) (fun w hw => ?_) (fun j hj => up_ne (by omega))
    · rw [tryV_2] at this; exact this
    · by_cases e : w = k
      · subst e; rw [up_same, pl_same]
      · rw [up_ne (by omega), pl_ne e]; exact r.2.2.1 t ht w hw
  obtain ⟨m', e, q⟩ := aloneV_r (sp := 10) r2 ok ht h
  refine ⟨m', e, r2.cg q.1, ⟨fun a h1 h2 => ?_, fun j hj => ?_, fun j hj => ?_⟩, q.2.2.2.1, q.2.2.2.2.1⟩
  · rw [q.2.1 a h1 h2, up_row h2]; exact o.1 a h1 h2
  · rw [q.2.2.1 j hj, up_row (by decide)]; exact o.2.1 j hj
  · rw [q.1, up_ne hj]; exact o.2.2 j hj
def hitR (V : TV) (t : Nat) (v : Nat) : Prop := eCell (alV (tryV V t 2 (nI v)) t 10).2.1 = 30
theorem w19 {i : Nat} (h1 : 1 ≤ i) (h2 : i < 10) : wi (nI i) 1 9 := ⟨(nI_ge_lit (n := 1) 1 (by decide) (by omega)).mpr h1, (nI_le_lit (n := 9) 9 (by decide) (by omega)).mpr (by omega)⟩
theorem lp_rollsFor : LP_rollsFor Inv := by
  intro im hI a
  refine alone_lp hI (fx1 := (f_X5_become 31 1 im).bind fun r2 => f_X6_rollsFor_l1 a xF 1 r2) (fm1 := fun m => (f_X7_its a 2 m).bind fun r2 => f_X7_rollsFor_l1 a xF r2 (-1) 1 m) rfl (fun m => rfl) (fun V t v1 v2 v3 ht ha hc => ?_)
  have h10 := v3.1
  have ok := v3.l
  have ib := inb_nI (show t < 10 by omega) (show 10 < 2 ^ 31 by decide)
  have it : ix (nI t) = t := ix_nI (by omega)
  obtain ⟨mb, eb, rb, ob⟩ := become_c (im := im) (T := 31) (S := 1) (by omega) v1 h10
  have okt : ∀ i, 1 ≤ i → i < 10 → OkL (tryV V t 2 (nI i)) := fun i h1 h2 => ok.R (pl_ok2 (ok.2.2.2.1 t ht) (w19 h1 h2))
  have cat : ∀ v, canS (tryV V t 2 v) t := fun v => canS_try hc (by decide) (by decide)
  have fk : ∀ i, 1 ≤ i → i < 10 → fok (alV (tryV V t 2 (nI i)) t 10).2.1 := fun i h1 h2 => fok_V (by rw [tryV_T]; exact pl_ok2 (ok.2.2.2.1 t ht) (w19 h1 h2)) (cat _)
  rw [ha, eb, Option.bind_some]
  have key : ∃ c : Nat × IM, f_X6_rollsFor_l1 (nI t) xF 1 mb = (if c.1 = 10 then (f_X6_refuse (-1000004) c.2).bind fun r2 => some (r2.1, r2.2) else some (nI c.1, c.2)) ∧ (aL im c.2 ∧ 1 ≤ c.1 ∧ c.1 ≤ 10 ∧ (∀ j, 1 ≤ j → j < c.1 → ¬ hitR V t j) ∧ (c.1 < 10 → hitR V t c.1)) := by
    refine loopG (fun f m i => f_X6_rollsFor_l1 (nI t) f i m) (fun c : Nat × IM => if c.1 = 10 then (f_X6_refuse (-1000004) c.2).bind fun r2 => some (r2.1, r2.2) else some (nI c.1, c.2)) 1 1 rfl 10 (by omega) (by omega) (fun i m => aL im m ∧ (∃ u, RC m 31 (tryV V t 2 u)) ∧ ∀ j, 1 ≤ j → j < i → ¬ hitR V t j) _ (fun f m hP => ⟨(10, m), ?_, hP.1, by show 1 ≤ 10; omega, Nat.le_refl _, hP.2.2, fun z => absurd z (Nat.lt_irrefl _)⟩) (fun f m i hi0 hi hP => ?_) mb ⟨fun a h1 _ _ => ob a h1, ⟨vT V t 2, by rw [tryV_id]; exact rb⟩, fun j h1 hj => absurd hj (by omega)⟩
    · show f_X6_rollsFor_l1b (nI t) _ (nI 10) m = if (10 : Nat) = 10 then _ else _
      unfold f_X6_rollsFor_l1b
      rw [if_pos (by decide), if_pos rfl]
    · obtain ⟨p1, ⟨u, pu⟩, p3⟩ := hP
      obtain ⟨m', e, r, o, rw62⟩ := try_c (by decide) pu (okt i hi0 hi) ht (cat _)
      have o2 : aL im m' := fun a h1 h2 h3 => (o a h1 h2 h3).trans (p1 a h1 h2 h3)
      have e0 : f_X6_rollsFor_l1 (nI t) (f + 1) (nI i) m = if f_X2_endsOn 30 m' = 0 then f_X6_rollsFor_l1 (nI t) f (nI (i + 1)) m' else some (nI i, m') := by
        show f_X6_rollsFor_l1b (nI t) _ (nI i) m = _
        unfold f_X6_rollsFor_l1b
        rw [if_neg (by rw [nI_gt_lit (n := 9) 9 (by decide) (by omega)]; omega), if_pos ib, bnd_eq, if_pos ib, it, e, Option.bind_some, bnd_eq, nI_1]
      by_cases c : hitR V t i
      · rw [endsOn_1 rw62 ((eCell_30 (fk i hi0 hi)).mp c), if_neg i10] at e0
        refine Or.inl ⟨(i, m'), ?_, o2, hi0, by show i ≤ 10; omega, p3, fun _ => c⟩
        show f_X6_rollsFor_l1 (nI t) (f + 1) (nI i) m = if i = 10 then _ else some (nI i, m')
        rw [if_neg (by omega), e0]
      · rw [endsOn_0 rw62 (fun z => c ((eCell_30 (fk i hi0 hi)).mpr z)), if_pos rfl] at e0
        refine Or.inr ⟨m', e0, o2, ⟨_, r⟩, fun j h1 hj => ?_⟩
        by_cases e : j = i
        · subst e; exact c
        · exact p3 j h1 (by omega)
  have keyR : ∀ n : IM, n 83 = im 83 → ∃ c : Nat × IM, f_X7_rollsFor_l1 (nI t) xF (n 83 (67 + 9 * t + 2)) (-1) 1 n = f_X7_rollsFor_j2 (nI t) (n 83 (67 + 9 * t + 2)) (if c.1 = 10 then -1 else nI c.1) c.2 ∧ (aT n c.2 (67 + 9 * t + 2) ∧ 1 ≤ c.1 ∧ c.1 ≤ 10 ∧ (∀ j, 1 ≤ j → j < c.1 → ¬ hitR V t j) ∧ (c.1 < 10 → hitR V t c.1)) := by
    intro n hn
    have v2n : RR n 83 V := v2.cg hn
    refine loopG (fun f (s : Int32 × IM) i => f_X7_rollsFor_l1 (nI t) f (n 83 (67 + 9 * t + 2)) s.1 i s.2) (fun c : Nat × IM => f_X7_rollsFor_j2 (nI t) (n 83 (67 + 9 * t + 2)) (if c.1 = 10 then -1 else nI c.1) c.2) 1 1 rfl 10 (by omega) (by omega) (fun i s => aT n s.2 (67 + 9 * t + 2) ∧ (∃ u, RR s.2 83 (tryV V t 2 u)) ∧ ((s.1 = -1 ∧ ∀ j, 1 ≤ j → j < i → ¬ hitR V t j) ∨ (2 ≤ i ∧ s.1 = nI (i - 1) ∧ hitR V t (i - 1) ∧ ∀ j, 1 ≤ j → j < i - 1 → ¬ hitR V t j))) _ (fun f s hP => ?_) (fun f s i hi0 hi hP => ?_) (-1, n) ⟨aT_refl, ⟨vT V t 2, by rw [tryV_id]; exact v2n⟩, Or.inl ⟨rfl, fun j h1 hj => absurd hj (by omega)⟩⟩
    · have e0 : f_X7_rollsFor_l1 (nI t) (f + 1) (n 83 (67 + 9 * t + 2)) s.1 (nI 10) s.2 = f_X7_rollsFor_j2 (nI t) (n 83 (67 + 9 * t + 2)) s.1 s.2 := by
        show f_X7_rollsFor_l1b (nI t) _ _ s.1 (nI 10) s.2 = _
        unfold f_X7_rollsFor_l1b
        rw [if_pos (by decide)]
      obtain ⟨p1, -, ⟨p2, p3⟩ | ⟨p2, p3, p4, p5⟩⟩ := hP
      · refine ⟨(10, s.2), ?_, p1, by show 1 ≤ 10; omega, Nat.le_refl _, p3, fun z => absurd z (Nat.lt_irrefl _)⟩
        show f_X7_rollsFor_l1 (nI t) (f + 1) (n 83 (67 + 9 * t + 2)) s.1 (nI 10) s.2 = f_X7_rollsFor_j2 (nI t) _ (if (10 : Nat) = 10 then -1 else nI 10) s.2
        rw [e0, if_pos rfl, p2]
      · refine ⟨(9, s.2), ?_, p1, by show 1 ≤ 9; omega, by show 9 ≤ 10; omega, p5, fun _ => p4⟩
        show f_X7_rollsFor_l1 (nI t) (f + 1) (n 83 (67 + 9 * t + 2)) s.1 (nI 10) s.2 = f_X7_rollsFor_j2 (nI t) _ (if (9 : Nat) = 10 then -1 else nI 9) s.2
        rw [e0, if_neg (by decide), p3]
    · obtain ⟨p1, ⟨u, pu⟩, ⟨p2, p3⟩ | ⟨p2, p3, p4, p5⟩⟩ := hP
      · obtain ⟨m', e, r, o, r7, r8⟩ := try_r (by decide) pu p1 (okt i hi0 hi) ht (cat _)
        have e0 : f_X7_rollsFor_l1 (nI t) (f + 1) (n 83 (67 + 9 * t + 2)) s.1 (nI i) s.2 = if eCell (alV (tryV V t 2 (nI i)) t 10).2.1 = 30 then f_X7_rollsFor_l1 (nI t) f (n 83 (67 + 9 * t + 2)) (nI i) (nI (i + 1)) m' else f_X7_rollsFor_l1 (nI t) f (n 83 (67 + 9 * t + 2)) (-1) (nI (i + 1)) m' := by
          show f_X7_rollsFor_l1b (nI t) _ _ s.1 (nI i) s.2 = _
          unfold f_X7_rollsFor_l1b f_X7_rollsFor_j3
          rw [if_neg (by rw [nI_ge_lit (n := 10) 10 (by decide) (by omega)]; omega), p2, if_neg (by decide), if_pos (at_in (w := 2) 2 rfl (by omega) (by decide)), bnd_eq, at_ix (w := 2) 2 rfl (by omega) (by decide), e, Option.bind_some, r7, bnd_eq, bnd_eq, nI_1]
        by_cases c : hitR V t i
        · rw [if_pos (show eCell (alV (tryV V t 2 (nI i)) t 10).2.1 = 30 from c)] at e0
          exact Or.inr ⟨(nI i, m'), e0, o, ⟨_, r⟩, Or.inr ⟨by omega, rfl, c, p3⟩⟩
        · rw [if_neg (show ¬ eCell (alV (tryV V t 2 (nI i)) t 10).2.1 = 30 from c)] at e0
          refine Or.inr ⟨(-1, m'), e0, o, ⟨_, r⟩, Or.inl ⟨rfl, fun j h1 hj => ?_⟩⟩
          by_cases e : j = i
          · subst e; exact c
          · exact p3 j h1 (by omega)
      · refine Or.inl ⟨(i - 1, s.2), ?_, p1, by show 1 ≤ i - 1; omega, by show i - 1 ≤ 10; omega, p5, fun _ => p4⟩
        show f_X7_rollsFor_l1b (nI t) _ _ s.1 (nI i) s.2 = f_X7_rollsFor_j2 (nI t) _ (if i - 1 = 10 then -1 else nI (i - 1)) s.2
        unfold f_X7_rollsFor_l1b
        rw [if_neg (by rw [nI_ge_lit (n := 10) 10 (by decide) (by omega)]; omega), p3, if_pos (nI_pos' (by omega)), if_neg (by omega)]
  obtain ⟨⟨c, m⟩, e, o, c0, c1, c2, c3⟩ := key
  have e : f_X6_rollsFor_l1 (nI t) xF 1 mb = (if c = 10 then (f_X6_refuse (-1000004) m).bind fun r2 => some (r2.1, r2.2) else some (nI c, m)) := e
  have o : aL im m := o
  have c0 : 1 ≤ c := c0
  have c1 : c ≤ 10 := c1
  have uniq : ∀ d, 1 ≤ d → d ≤ 10 → (∀ j, 1 ≤ j → j < d → ¬ hitR V t j) → (d < 10 → hitR V t d) → c = d := by
    intro d d0 d1 d2 d3
    rcases Nat.lt_trichotomy c d with h | h | h
    · exact absurd (c3 (by show c < 10; omega)) (d2 c c0 h)
    · exact h
    · exact absurd (d3 (by omega)) (c2 d d0 h)
  by_cases g : c = 10
  · rw [if_pos g, refuse_4, Option.bind_some] at e
    refine ⟨-1000004, up m 73 3 (m 73 3 + 1), e, by rw [up_row (by decide), o 83 (by omega) (by decide) (by decide)], fun m' q => ?_⟩
    obtain ⟨⟨d, n⟩, e2, o2, d0, d1, d2, d3⟩ := keyR m' (by rw [q.1, up_row (by decide), o 83 (by omega) (by decide) (by decide)])
    have e2 : f_X7_rollsFor_l1 (nI t) xF (m' 83 (67 + 9 * t + 2)) (-1) 1 m' = f_X7_rollsFor_j2 (nI t) (m' 83 (67 + 9 * t + 2)) (if d = 10 then -1 else nI d) n := e2
    have cd : c = d := uniq d d0 d1 d2 d3
    refine ⟨up (up n 83 (67 + 9 * t + 2) (m' 83 (67 + 9 * t + 2))) 86 3 (up n 83 (67 + 9 * t + 2) (m' 83 (67 + 9 * t + 2)) 86 3 + 1), ?_, fin_ref (by decide) hI (aL_agr o) (aR_agr (aR_trans (out_aR q) (aT_back o2)))⟩
    show ((f_X7_its (nI t) 2 m').bind fun r2 => f_X7_rollsFor_l1 (nI t) xF r2 (-1) 1 m') = _
    rw [its_w (w := 2) 2 rfl (by omega) (by decide), Option.bind_some, e2, ← cd, if_pos g]
    unfold f_X7_rollsFor_j2
    rw [if_pos (at_in (w := 2) 2 rfl (by omega) (by decide)), bnd_eq, at_ix (w := 2) 2 rfl (by omega) (by decide), if_neg (by decide), finds_4, Option.bind_some]
  · rw [if_neg g] at e
    refine ⟨_, _, e, by rw [o 83 (by omega) (by decide) (by decide)], fun m' q => ?_⟩
    obtain ⟨⟨d, n⟩, e2, o2, d0, d1, d2, d3⟩ := keyR m' (by rw [q.1, o 83 (by omega) (by decide) (by decide)])
    have e2 : f_X7_rollsFor_l1 (nI t) xF (m' 83 (67 + 9 * t + 2)) (-1) 1 m' = f_X7_rollsFor_j2 (nI t) (m' 83 (67 + 9 * t + 2)) (if d = 10 then -1 else nI d) n := e2
    have cd : c = d := uniq d d0 d1 d2 d3
    refine ⟨up n 83 (67 + 9 * t + 2) (m' 83 (67 + 9 * t + 2)), ?_, hI.agr ((aL_agr o).trans (aR_agr (aR_trans (out_aR q) (aT_back o2))))⟩
    show ((f_X7_its (nI t) 2 m').bind fun r2 => f_X7_rollsFor_l1 (nI t) xF r2 (-1) 1 m') = _
    rw [its_w (w := 2) 2 rfl (by omega) (by decide), Option.bind_some, e2, ← cd, if_neg g]
    unfold f_X7_rollsFor_j2
    rw [if_pos (at_in (w := 2) 2 rfl (by omega) (by decide)), bnd_eq, at_ix (w := 2) 2 rfl (by omega) (by decide), if_pos (nI_pos' (by omega))]
/-! the best kind -/
def kE (V : TV) (t i : Nat) : Int32 := eCell (alV (tryV V t 0 (nI i)) t 10).2.1
def kF (V : TV) (t : Nat) : Nat → Int32 × Int32
  | 0 => (0, -2)
  | i + 1 => if kE V t i ≤ (kF V t i).2 then kF V t i else (nI i, kE V t i)
theorem w06 {i : Nat} (h2 : i < 7) : wi (nI i) 0 6 := ⟨nI_pos' (by omega), (nI_le_lit (n := 6) 6 (by decide) (by omega)).mpr (by omega)⟩
theorem kF_1 {V : TV} {t : Nat} (h : ¬ kE V t 0 ≤ -2) : kF V t 1 = (nI 0, kE V t 0) := by
  show (if kE V t 0 ≤ -2 then _ else _) = _
  rw [if_neg h]
theorem kF_pos {V : TV} {t : Nat} (h : ¬ kE V t 0 ≤ -2) : ∀ i, 1 ≤ i → i < 8 → ∃ j, j < 7 ∧ (kF V t i).1 = nI j
  | 0, h1, _ => absurd h1 (by omega)
  | 1, _, _ => ⟨0, by omega, by rw [kF_1 h]⟩
  | i + 2, _, h2 => by
    obtain ⟨j, hj, e⟩ := kF_pos h (i + 1) (by omega) (by omega)
    show ∃ j, j < 7 ∧ (if kE V t (i + 1) ≤ (kF V t (i + 1)).2 then kF V t (i + 1) else (nI (i + 1), kE V t (i + 1))).1 = nI j
    by_cases c : kE V t (i + 1) ≤ (kF V t (i + 1)).2
    · rw [if_pos c]; exact ⟨j, hj, e⟩
    · rw [if_neg c]; exact ⟨i + 1, by omega, rfl⟩
theorem lp_kindFor : LP_kindFor Inv := by
  intro im hI a
  refine alone_lp hI (fx1 := (f_X5_become 31 1 im).bind fun r2 => f_X6_kindFor_l1 a xF 0 (-2) 0 r2) (fm1 := fun m => (f_X7_its a 0 m).bind fun r2 => f_X7_kindFor_l1 a xF r2 (-1) 0 0 m) rfl (fun m => rfl) (fun V t v1 v2 v3 ht ha hc => ?_)
  have h10 := v3.1
  have ok := v3.l
  have ib := inb_nI (show t < 10 by omega) (show 10 < 2 ^ 31 by decide)
  have it : ix (nI t) = t := ix_nI (by omega)
  obtain ⟨mb, eb, rb, ob⟩ := become_c (im := im) (T := 31) (S := 1) (by omega) v1 h10
  have okt : ∀ i, i < 7 → OkL (tryV V t 0 (nI i)) := fun i h2 => ok.R (pl_ok0 (ok.2.2.2.1 t ht) (w06 h2))
  have cat : ∀ v, canS (tryV V t 0 v) t := fun v => canS_try hc (by decide) (by decide)
  have fk : ∀ i, i < 7 → fok (alV (tryV V t 0 (nI i)) t 10).2.1 := fun i h2 => fok_V (by rw [tryV_T]; exact pl_ok0 (ok.2.2.2.1 t ht) (w06 h2)) (cat _)
  have nm2 : ¬ kE V t 0 ≤ -2 := eCell_m2 (fk 0 (by omega))
  rw [ha, eb, Option.bind_some]
  have key : ∃ m1, f_X6_kindFor_l1 (nI t) xF 0 (-2) 0 mb = some ((kF V t 7).1, m1) ∧ aL im m1 := by
    refine loopG (fun f (s : (Int32 × Int32) × IM) i => f_X6_kindFor_l1 (nI t) f s.1.1 s.1.2 i s.2) (fun m1 : IM => some ((kF V t 7).1, m1)) 0 0 rfl 7 (by omega) (by omega) (fun i s => s.1 = kF V t i ∧ aL im s.2 ∧ ∃ u, RC s.2 31 (tryV V t 0 u)) _ (fun f s hP => ⟨s.2, ?_, hP.2.1⟩) (fun f s i hi0 hi hP => Or.inr ?_) ((0, -2), mb) ⟨rfl, fun a h1 _ _ => ob a h1, ⟨vT V t 0, by rw [tryV_id]; exact rb⟩⟩
    · show f_X6_kindFor_l1b (nI t) _ s.1.1 s.1.2 (nI 7) s.2 = _
      unfold f_X6_kindFor_l1b
      rw [if_pos (by decide), hP.1]
    · obtain ⟨p1, p2, u, pu⟩ := hP
      obtain ⟨m', e, r, o, rw62⟩ := try_c (by decide) pu (okt i hi) ht (cat _)
      refine ⟨(kF V t (i + 1), m'), ?_, rfl, fun a h1 h2 h3 => (o a h1 h2 h3).trans (p2 a h1 h2 h3), ⟨_, r⟩⟩
      show f_X6_kindFor_l1b (nI t) _ s.1.1 s.1.2 (nI i) s.2 = f_X6_kindFor_l1 (nI t) f (if kE V t i ≤ (kF V t i).2 then kF V t i else (nI i, kE V t i)).1 (if kE V t i ≤ (kF V t i).2 then kF V t i else (nI i, kE V t i)).2 (nI (i + 1)) m'
      unfold f_X6_kindFor_l1b f_X6_kindFor_j2
      rw [if_neg (by rw [nI_ge_lit (n := 7) 7 (by decide) (by omega)]; omega), if_pos ib, bnd_eq, if_pos ib, it, e, Option.bind_some, place_c rw62, p1, bnd_eq, bnd_eq, bnd_eq, nI_1]
      by_cases c : kE V t i ≤ (kF V t i).2
      · rw [if_pos c, if_pos (show eCell _ ≤ (kF V t i).2 from c)]
      · rw [if_neg c, if_neg (show ¬ eCell _ ≤ (kF V t i).2 from c)]
        rfl
  obtain ⟨m1, e1, o1⟩ := key
  refine ⟨_, m1, e1, o1 83 (by omega) (by decide) (by decide), fun m' q => ?_⟩
  have v2n : RR m' 83 V := v2.cg (by rw [q.1, o1 83 (by omega) (by decide) (by decide)])
  have key2 : ∃ m2, f_X7_kindFor_l1 (nI t) xF (m' 83 (67 + 9 * t + 0)) (-1) 0 0 m' = some ((kF V t 7).1, up m2 83 (67 + 9 * t + 0) (m' 83 (67 + 9 * t + 0))) ∧ aT m' m2 (67 + 9 * t + 0) := by
    refine loopG (fun f (s : (Int32 × Int32) × IM) i => f_X7_kindFor_l1 (nI t) f (m' 83 (67 + 9 * t + 0)) s.1.1 s.1.2 i s.2) (fun m2 : IM => some ((kF V t 7).1, up m2 83 (67 + 9 * t + 0) (m' 83 (67 + 9 * t + 0)))) 0 0 rfl 7 (by omega) (by omega) (fun i s => ((i = 0 ∧ s.1.1 = -1) ∨ (1 ≤ i ∧ s.1 = kF V t i)) ∧ aT m' s.2 (67 + 9 * t + 0) ∧ ∃ u, RR s.2 83 (tryV V t 0 u)) _ (fun f s hP => ⟨s.2, ?_, hP.2.1⟩) (fun f s i hi0 hi hP => Or.inr ?_) ((-1, 0), m') ⟨Or.inl ⟨rfl, rfl⟩, aT_refl, ⟨vT V t 0, by rw [tryV_id]; exact v2n⟩⟩
    · show f_X7_kindFor_l1b (nI t) _ _ s.1.1 s.1.2 (nI 7) s.2 = _
      unfold f_X7_kindFor_l1b
      rw [if_pos (by decide), if_pos (at_in (w := 0) 0 rfl (by omega) (by decide)), bnd_eq, at_ix (w := 0) 0 rfl (by omega) (by decide)]
      rcases hP.1 with z | z
      · exact absurd z.1 (by omega)
      · rw [z.2]
    · obtain ⟨p1, p2, u, pu⟩ := hP
      obtain ⟨m3, e, r, o, r7, r8⟩ := try_r (by decide) pu p2 (okt i hi) ht (cat _)
      refine ⟨(kF V t (i + 1), m3), ?_, Or.inr ⟨by omega, rfl⟩, o, ⟨_, r⟩⟩
      show f_X7_kindFor_l1b (nI t) _ _ s.1.1 s.1.2 (nI i) s.2 = f_X7_kindFor_l1 (nI t) f _ (kF V t (i + 1)).1 (kF V t (i + 1)).2 (nI (i + 1)) m3
      unfold f_X7_kindFor_l1b f_X7_kindFor_j2 f_X7_kindFor_j3
      rw [if_neg (by rw [nI_ge_lit (n := 7) 7 (by decide) (by omega)]; omega), if_pos (at_in (w := 0) 0 rfl (by omega) (by decide)), bnd_eq, at_ix (w := 0) 0 rfl (by omega) (by decide), e, Option.bind_some, r7, bnd_eq, bnd_eq, bnd_eq, nI_1]
      rcases p1 with ⟨z, p1⟩ | ⟨z, p1⟩
      · subst z
        rw [p1, if_pos (by decide), kF_1 nm2]
        rfl
      · obtain ⟨j, hj, ej⟩ := kF_pos nm2 i z (by omega)
        rw [p1, ej, if_neg (nI_pos (by omega)), ← ej]
        show _ = f_X7_kindFor_l1 (nI t) f _ (if kE V t i ≤ (kF V t i).2 then kF V t i else (nI i, kE V t i)).1 (if kE V t i ≤ (kF V t i).2 then kF V t i else (nI i, kE V t i)).2 (nI (i + 1)) m3
        by_cases c : kE V t i ≤ (kF V t i).2
        · rw [if_pos c, if_pos (show eCell _ ≤ (kF V t i).2 from c)]
        · rw [if_neg c, if_neg (show ¬ eCell _ ≤ (kF V t i).2 from c)]
          rfl
  obtain ⟨m2, e2, o2⟩ := key2
  refine ⟨_, ?_, hI.agr ((aL_agr o1).trans (aR_agr (aR_trans (out_aR q) (aT_back o2))))⟩
  show ((f_X7_its (nI t) 0 m').bind fun r2 => f_X7_kindFor_l1 (nI t) xF r2 (-1) 0 0 m') = _
  rw [its_w (w := 0) 0 rfl (by omega) (by decide), Option.bind_some]
  exact e2
