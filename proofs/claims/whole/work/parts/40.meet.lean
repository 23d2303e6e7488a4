/-! the first minute with a meeting -/
def rollg (V : TV) : Prop := ∃ t, t < vN V ∧ bgV V t = true
theorem quiet_b {V : TV} (h : ¬ rollg V) : ∀ t, t < vN V → bgV V t = false := fun t ht => by
  cases e : bgV V t with
  | false => rfl
  | true => exact absurd ⟨t, ht, e⟩ h
theorem quiet_met {V : TV} (h : ¬ rollg V) : minMet V = 0 := cn_none (fun t ht => qm_none (quiet_b h))
theorem quiet_row {V : TV} (h : ¬ rollg V) {t : Nat} (ht : t < vN V) : vT (minV V) t = vT V t := by
  show metW V t = _
  unfold metW stW
  rw [if_neg (by rw [qm_none (quiet_b h)]; decide), rollW_n (quiet_b h t ht)]
theorem quiet_next {V : TV} (h : ¬ rollg V) : ¬ rollg (minV V) := by
  rintro ⟨t, ht, e⟩
  have ht : t < vN V := ht
  unfold bgV at e
  rw [quiet_row h ht] at e
  exact h ⟨t, ht, e⟩
theorem quiet_it {V : TV} {k : Nat} (h : ¬ rollg (itV V k)) : ∀ d, ¬ rollg (itV V (k + d))
  | 0 => h
  | d + 1 => quiet_next (quiet_it h d)
theorem roll_sOf {V : TV} (h10 : vN V ≤ 10) : sOf (fun t => decide (vT V t 6 = 1)) (vN V) = 0 ↔ ¬ rollg V := by
  rw [sOf_0 (by omega)]
  constructor
  · rintro h ⟨t, ht, e⟩
    have := h t ht
    unfold bgV at e
    rw [this] at e
    exact absurd e (by decide)
  · intro h t ht
    exact quiet_b h t ht
theorem minMet_le {V : TV} (h10 : vN V ≤ 10) : minMet V ≤ 10 := Nat.le_trans cn_le h10
/-- r is the first minute with a meeting, k the last minute that was played -/
def FM (V : TV) (r k : Nat) : Prop := k ≤ 200 ∧ (∀ i, i < k → rollg (itV V i)) ∧ ((r = 0 ∧ (∀ i, i < k → minMet (itV V i) = 0) ∧ (k = 200 ∨ ¬ rollg (itV V k))) ∨ (r = k ∧ 1 ≤ r ∧ ¬ minMet (itV V (r - 1)) = 0 ∧ ∀ i, i + 1 < r → minMet (itV V i) = 0))
theorem FM_0 {V : TV} {k : Nat} (h : FM V 0 k) : ∀ i, i < 200 → minMet (itV V i) = 0 := by
  obtain ⟨h1, h2, h3⟩ := h
  rcases h3 with ⟨-, h4, h5⟩ | ⟨-, h4, -⟩
  · intro i hi
    by_cases c : i < k
    · exact h4 i c
    · rcases h5 with e | e
      · omega
      · have := quiet_it e (i - k)
        rw [show k + (i - k) = i by omega] at this
        exact quiet_met this
  · omega
theorem first_c {im : IM} {T : Nat} {V : TV} (v : RC im T V) (ok : OkL V) : ∃ c : Nat × Nat × IM, f_X5_firstMeeting T 200 im = some (nI c.1, c.2.2) ∧ (FM V c.1 c.2.1 ∧ RC c.2.2 T (itV V c.2.1) ∧ ∀ a, ¬ (T ≤ a ∧ a < T + 15) → c.2.2 a = im a) := by
  unfold f_X5_firstMeeting
  refine loopG (fun f m i => f_X5_firstMeeting_l1 T 200 f i m) (fun c : Nat × Nat × IM => some (nI c.1, c.2.2)) 1 1 rfl 201 (by omega) (by omega) (fun i m => RC m T (itV V (i - 1)) ∧ (∀ a, ¬ (T ≤ a ∧ a < T + 15) → m a = im a) ∧ ∀ j, j < i - 1 → minMet (itV V j) = 0 ∧ rollg (itV V j)) _ (fun f m hP => ⟨(0, 200, m), ?_, ⟨Nat.le_refl _, fun i hi => (hP.2.2 i hi).2, Or.inl ⟨rfl, fun i hi => (hP.2.2 i hi).1, Or.inl rfl⟩⟩, hP.1, hP.2.1⟩) (fun f m i hi0 hi hP => ?_) im ⟨v, fun _ _ => rfl, fun j hj => absurd hj (Nat.not_lt_zero _)⟩
  · show f_X5_firstMeeting_l1b T 200 _ (nI 201) m = _
    unfold f_X5_firstMeeting_l1b
    rw [if_pos (by decide)]
    rfl
  · obtain ⟨p1, p2, p3⟩ := hP
    have okn := it_ok ok (i - 1)
    have ni : ¬ (200 : Int32) < nI i := fun z => by
      have := (nI_gt_lit (n := 200) 200 (by decide) (by omega)).mp z
      omega
    by_cases q : rollg (itV V (i - 1))
    · obtain ⟨m', e, r, o⟩ := minute_c p1 okn
      have e0 : f_X5_firstMeeting_l1 T 200 (f + 1) (nI i) m = if nI (minMet (itV V (i - 1))) ≤ 0 then f_X5_firstMeeting_l1 T 200 f (nI (i + 1)) m' else some (nI i, m') := by
        show f_X5_firstMeeting_l1b T 200 _ (nI i) m = _
        unfold f_X5_firstMeeting_l1b
        rw [if_neg ni, allIn_V p1 okn.1, Option.bind_some, if_neg (fun z => (roll_sOf okn.1).mp z q), e, Option.bind_some]
        simp only [bnd_eq, nI_1]
      by_cases c : minMet (itV V (i - 1)) = 0
      · rw [c, if_pos (by decide)] at e0
        refine Or.inr ⟨m', e0, ?_, fun a ha => (o a ha).trans (p2 a ha), fun j hj => ?_⟩
        · rw [show i + 1 - 1 = (i - 1) + 1 by omega]; exact r
        · by_cases e : j = i - 1
          · subst e; exact ⟨c, q⟩
          · exact p3 j (by omega)
      · rw [if_neg (nI_nle (by omega) (by have := minMet_le okn.1; omega))] at e0
        refine Or.inl ⟨(i, i, m'), e0, ⟨by show i ≤ 200; omega, fun j hj => ?_, Or.inr ⟨rfl, hi0, c, fun j hj => (p3 j (by omega)).1⟩⟩, ?_, fun a ha => (o a ha).trans (p2 a ha)⟩
        · have hj : j < i := hj
          by_cases e : j = i - 1
          · subst e; exact q
          · exact (p3 j (by omega)).2
        · show RC m' T (itV V i)
          rw [show i = (i - 1) + 1 by omega]; exact r
    · refine Or.inl ⟨(0, i - 1, m), ?_, ⟨by show i - 1 ≤ 200; omega, fun j hj => (p3 j hj).2, Or.inl ⟨rfl, fun j hj => (p3 j hj).1, Or.inr q⟩⟩, p1, p2⟩
      show f_X5_firstMeeting_l1b T 200 _ (nI i) m = _
      unfold f_X5_firstMeeting_l1b f_X5_firstMeeting_j2
      rw [if_neg ni, allIn_V p1 okn.1, Option.bind_some, if_pos ((roll_sOf okn.1).mpr q)]
      rfl
noncomputable def lmt (V : TV) : Nat → Nat
  | 0 => 0
  | i + 1 => minMet (itV V i)
theorem mr_up5 {a b : IM} (h : mr a b) {x : Int32} : mr a (up b 82 5 x) := ⟨fun y h1 h2 => by rw [up_row h1]; exact h.1 y h1 h2, fun k h5 h6 => by rw [up_ne h5]; exact h.2 k h5 h6⟩
theorem meet_r {m : IM} {V : TV} (v : RR m 83 V) (ok : OkL V) : ∃ c : Nat × IM, f_X7_meet_l1 xF 0 (up m 82 5 0) = f_X7_meet_j2 (nI c.1) c.2 ∧ (RR c.2 83 (itV V c.1) ∧ mr m c.2 ∧ c.2 82 5 = nI (lmt V c.1) ∧ (∀ j, j + 1 < c.1 → minMet (itV V j) = 0) ∧ c.1 ≤ 200 ∧ (c.1 = 200 ∨ ¬ lmt V c.1 = 0)) := by
  refine loopG (fun f m i => f_X7_meet_l1 f i m) (fun c : Nat × IM => f_X7_meet_j2 (nI c.1) c.2) 0 0 rfl 200 (by omega) (by omega) (fun i x => RR x 83 (itV V i) ∧ mr m x ∧ x 82 5 = nI (lmt V i) ∧ ∀ j, j + 1 < i → minMet (itV V j) = 0) _ (fun f x hP => ⟨(200, x), ?_, hP.1, hP.2.1, hP.2.2.1, hP.2.2.2, Nat.le_refl _, Or.inl rfl⟩) (fun f x i hi0 hi hP => ?_) _ ⟨v.cg (up_row (by decide)), mr_up5 mr_refl, up_same, fun j hj => absurd hj (Nat.not_lt_zero _)⟩
  · show f_X7_meet_l1b _ (nI 200) x = _
    unfold f_X7_meet_l1b
    rw [if_pos (by decide)]
  · obtain ⟨p1, p2, p3, p4⟩ := hP
    have okn := it_ok ok i
    have ni : ¬ (200 : Int32) ≤ nI i := by rw [nI_ge_lit (n := 200) 200 (by decide) (by omega)]; omega
    have hl : lmt V i ≤ 10 := by
      cases i with
      | zero => exact Nat.zero_le _
      | succ i => exact minMet_le (it_ok ok i).1
    by_cases c : lmt V i = 0
    · obtain ⟨m', e, r, x5, x6, o, o2⟩ := minute_r p1 okn
      refine Or.inr ⟨m', ?_, r, mr_trans p2 ⟨o, o2⟩, x5, fun j hj => ?_⟩
      · show f_X7_meet_l1b _ (nI i) x = _
        unfold f_X7_meet_l1b
        rw [if_neg ni, p3, c, if_pos (by decide), e, Option.bind_some, bnd_eq, nI_1]
      · by_cases e : j + 1 = i
        · subst e; exact c
        · exact p4 j (by omega)
    · refine Or.inl ⟨(i, x), ?_, p1, p2, p3, p4, by show i ≤ 200; omega, Or.inr c⟩
      show f_X7_meet_l1b _ (nI i) x = _
      unfold f_X7_meet_l1b
      rw [if_neg ni, p3, if_neg (nI_ne0 (by omega) (by omega))]
theorem ref4_2 {im ims ms : IM} (hI : Inv im) (h1 : agR im ims) (h2 : agR (up ims 73 3 (ims 73 3 + 1)) ms) : Inv (up ms 86 3 (ms 86 3 + 1)) := fin_ref2 (by decide) hI h1 h2
theorem lp_meet : LP_meet Inv := by
  intro im hI
  obtain ⟨⟨V, v1, v2, v3⟩, -⟩ := id hI
  have ok := v3.l
  have wm : wi (vM V) 0 9999 := v3.2.2.2.2.2.2.2
  obtain ⟨lt1, -⟩ := late_iff wm (n := 200) (by omega) 9799 rfl
  by_cases h3 : vM V ≤ 9799
  · obtain ⟨mb, eb, rb, ob⟩ := become_c (im := im) (T := 31) (S := 1) (by omega) v1 ok.1
    obtain ⟨⟨r, k, m⟩, e1, fm, r1, o1⟩ := first_c rb ok
    have e1 : f_X5_firstMeeting 31 200 mb = some (nI r, m) := e1
    have fm : FM V r k := fm
    have o1 : ∀ a, ¬ (31 ≤ a ∧ a < 31 + 15) → m a = mb a := o1
    have oo : ∀ a, ¬ (31 ≤ a ∧ a < 31 + 15) → m a = im a := fun a ha => (o1 a ha).trans (ob a ha)
    have eC : f_X6_meet im = if nI r = 0 then (f_X6_refuse (-1000004) m).bind fun r3 => some (r3.1, r3.2) else some (nI r, m) := by
      unfold f_X6_meet
      rw [v1.2.2.2.2.2.2.2.1, if_pos h3, eb, Option.bind_some, e1, Option.bind_some]
    have eR : ∀ x : IM, x 83 = im 83 → ∃ (x2 : IM) (c : Nat × IM) (x4 : IM), f_X7_meet x = (if nI (lmt V c.1) ≤ 0 then (f_X7_finds (-1000004) x4).bind fun r4 => some (r4.1, r4.2) else some (nI c.1, x4)) ∧ ((∀ j, j + 1 < c.1 → minMet (itV V j) = 0) ∧ c.1 ≤ 200 ∧ (c.1 = 200 ∨ ¬ lmt V c.1 = 0)) ∧ agR x x4 := by
      intro x hx
      obtain ⟨x2, e2, c2⟩ := puts_r x
      have vx : RR x2 83 V := v2.cg (by rw [c2.1 83 (by decide), hx])
      obtain ⟨c, e3, q1, q2, q3, q4⟩ := meet_r vx ok
      obtain ⟨x4, e4, c4⟩ := putsBack_r c.2
      refine ⟨x2, c, x4, ?_, q4, look_back c2 q2 c4⟩
      unfold f_X7_meet f_X7_isTooLate
      rw [hx, v2.2.2.2.2.2.2.2.1, show (200 : Int32) = nI 200 from rfl, if_pos (lt1.mp h3), if_pos rfl, e2, Option.bind_some, bnd_eq, e3]
      unfold f_X7_meet_j2 f_X7_meet_j3
      rw [q3, e4]
      by_cases z : nI (lmt V c.1) ≤ 0
      · rw [if_pos z, if_pos z, Option.bind_some, if_pos rfl]
      · rw [if_neg z, if_neg z, Option.bind_some, if_neg i10]
    have hlm : ∀ i, lmt V i ≤ 10 := fun i => by
      cases i with
      | zero => exact Nat.zero_le _
      | succ i => exact minMet_le (it_ok ok i).1
    by_cases c0 : r = 0
    · subst c0
      have all := FM_0 fm
      let ms : IM := up m 73 3 (m 73 3 + 1)
      obtain ⟨x2, c, x4, e2, ⟨q1, q2, q3⟩, a4⟩ := eR ms (by show up m 73 3 (m 73 3 + 1) 83 = _; rw [up_row (by decide), oo 83 (by omega)])
      have z : lmt V c.1 = 0 := by
        cases hc : c.1 with
        | zero => rfl
        | succ i => exact all i (by omega)
      refine ⟨-1000004, ms, up x4 86 3 (x4 86 3 + 1), ?_, ?_, ref4_2 hI (later_agR oo) a4⟩
      · rw [eC, if_pos (by decide), refuse_4, Option.bind_some]
      · rw [e2, z, if_pos (by decide), finds_4, Option.bind_some]
    · have hr : r ≤ 200 := by
        obtain ⟨f1, f2, f3⟩ := fm
        rcases f3 with ⟨f3, -⟩ | ⟨f3, -⟩
        · omega
        · omega
      obtain ⟨x2, c, x4, e2, ⟨q1, q2, q3⟩, a4⟩ := eR m (oo 83 (by omega))
      obtain ⟨f1, f2, f3⟩ := fm
      rcases f3 with ⟨f3, -⟩ | ⟨f3, f4, f5, f6⟩
      · exact absurd f3 c0
      · have ec : c.1 = r := by
          rcases Nat.lt_trichotomy c.1 r with h | h | h
          · rcases q3 with g | g
            · omega
            · cases hc : c.1 with
              | zero => rw [hc] at g; exact absurd rfl g
              | succ i =>
                rw [hc] at g
                exact absurd (f6 i (by omega)) g
          · exact h
          · exact absurd (q1 (r - 1) (by omega)) f5
        have hz : ¬ lmt V c.1 = 0 := by
          rw [ec]
          obtain ⟨i, rfl⟩ : ∃ i, r = i + 1 := ⟨r - 1, by omega⟩
          exact f5
        refine ⟨nI r, m, x4, ?_, ?_, hI.agR (agR_trans (later_agR oo) a4)⟩
        · rw [eC, if_neg (nI_ne0 (by omega) (by omega))]
        · rw [e2, if_neg (nI_nle (by omega) (by have := hlm c.1; omega)), ec]
  · refine bref5 hI ?_ (fun m hm => ?_)
    · unfold f_X6_meet
      rw [v1.2.2.2.2.2.2.2.1, if_neg h3, refuse_5, Option.bind_some]
    · unfold f_X7_meet f_X7_isTooLate
      rw [show m 83 0 = vM V by rw [hm, up_row (by decide)]; exact v2.2.2.2.2.2.2.2.1, show (200 : Int32) = nI 200 from rfl, if_neg (fun z => h3 (lt1.mpr z)), if_neg i10, finds_5, Option.bind_some]
/-! judge -/
theorem judge_c {im : IM} {s t z : Nat} {V : TV} {num : Nat → Int32} (v : RC im 31 V) (ok : OkL V) (hs : s ≤ 3) (ht : t < vN V) (hz : z ≤ 40) (ez : im (74 + 2 * s) 2 = nI z) (en : ∀ k, k < 40 → im (75 + 2 * s) k = num k) : ∃ c : Nat × IM, f_X6_judge_l1 (nI s) (nI t) xF 0 im = some (nI c.1, c.2) ∧ ((∀ a, ¬ (31 ≤ a ∧ a < 31 + 15) → c.2 a = im a) ∧ ((c.1 = 0 ∧ ∀ j, j < z → vT (itV V (j + 1)) t 4 = num j) ∨ (1 ≤ c.1 ∧ c.1 ≤ z ∧ ¬ vT (itV V c.1) t 4 = num (c.1 - 1) ∧ ∀ j, j + 1 < c.1 → vT (itV V (j + 1)) t 4 = num j))) := by
  have ib := inb_nI (show s < 4 by omega) (show 4 < 2 ^ 31 by decide)
  have is : ix (nI s) = s := ix_nI (by omega)
  have jb := inb_nI (show t < 10 by have := ok.1; omega) (show 10 < 2 ^ 31 by decide)
  have js : ix (nI t) = t := ix_nI (by have := ok.1; omega)
  refine loopG (fun f m i => f_X6_judge_l1 (nI s) (nI t) f i m) (fun c : Nat × IM => some (nI c.1, c.2)) 0 0 rfl z (by omega) (by omega) (fun i m => RC m 31 (itV V i) ∧ (∀ a, ¬ (31 ≤ a ∧ a < 31 + 15) → m a = im a) ∧ ∀ j, j < i → vT (itV V (j + 1)) t 4 = num j) _ (fun f m hP => ⟨(0, m), ?_, hP.2.1, Or.inl ⟨rfl, hP.2.2⟩⟩) (fun f m i hi0 hi hP => ?_) im ⟨v, fun _ _ => rfl, fun j hj => absurd hj (Nat.not_lt_zero _)⟩
  · show f_X6_judge_l1b (nI s) (nI t) _ (nI z) m = _
    unfold f_X6_judge_l1b
    rw [if_pos ib, is, hP.2.1 _ (by omega), ez, if_pos (Int32.le_refl _)]
    rfl
  · obtain ⟨p1, p2, p3⟩ := hP
    obtain ⟨m', e, r, o⟩ := minute_c p1 (it_ok ok i)
    have oo : ∀ a, ¬ (31 ≤ a ∧ a < 31 + 15) → m' a = im a := fun a ha => (o a ha).trans (p2 a ha)
    have ec : m' (36 + t) 4 = vT (itV V (i + 1)) t 4 := r.2.2.1 t (by show t < vN (itV V i); rw [it_N]; exact ht) 4 (by decide)
    have e0 : f_X6_judge_l1 (nI s) (nI t) (f + 1) (nI i) m = if vT (itV V (i + 1)) t 4 = num i then f_X6_judge_l1 (nI s) (nI t) f (nI (i + 1)) m' else some (1 + nI i, m') := by
      show f_X6_judge_l1b (nI s) (nI t) _ (nI i) m = _
      unfold f_X6_judge_l1b
      rw [if_pos ib, is, p2 _ (by omega), ez, if_neg (nI_ge hi (by omega)), e, Option.bind_some, if_pos jb, if_pos ib, if_pos (inb_nI (show i < 40 by omega) (by decide)), js, ix_nI (by omega)]
      show (if m' (36 + t) 4 = m' (74 + 2 * s + 1) i then bnd (nI i + 1) fun v8 => f_X6_judge_l1 (nI s) (nI t) f v8 m' else some (1 + nI i, m')) = _
      rw [ec, show 74 + 2 * s + 1 = 75 + 2 * s by omega, oo _ (by omega), en i (by omega), bnd_eq, nI_1]
    by_cases c : vT (itV V (i + 1)) t 4 = num i
    · rw [if_pos c] at e0
      refine Or.inr ⟨m', e0, r, oo, fun j hj => ?_⟩
      by_cases e : j = i
      · subst e; exact c
      · exact p3 j (by omega)
    · rw [if_neg c, lit_add 1 (k := 1) rfl, Nat.add_comm 1 i] at e0
      exact Or.inl ⟨(i + 1, m'), e0, oo, Or.inr ⟨by show 1 ≤ i + 1; omega, by show i + 1 ≤ z; omega, c, fun j hj => p3 j (by have hj : j + 1 < i + 1 := hj; omega)⟩⟩
theorem judge_r {m : IM} {s t z : Nat} {V : TV} {num : Nat → Int32} (v : RR m 83 V) (ok : OkL V) (hs : s ≤ 3) (ht : t < vN V) (hz : z ≤ 40) (ez : m 91 s = nI z) (en : ∀ k, k < 40 → m 92 (40 * s + k) = num k) : ∃ c : Nat × IM, f_X7_judge_l1 (nI s) (nI t) xF 0 1 m = ((f_X7_putsBack c.2).bind fun r3 => some (nI c.1, r3)) ∧ (mr m c.2 ∧ ((c.1 = 0 ∧ ∀ j, j < z → vT (itV V (j + 1)) t 4 = num j) ∨ (1 ≤ c.1 ∧ c.1 ≤ z ∧ ¬ vT (itV V c.1) t 4 = num (c.1 - 1) ∧ ∀ j, j + 1 < c.1 → vT (itV V (j + 1)) t 4 = num j))) := by
  have ib := inb_nI (show s < 4 by omega) (show 4 < 2 ^ 31 by decide)
  have is : ix (nI s) = s := ix_nI (by omega)
  have ht10 : t < 10 := by have := ok.1; omega
  have key := loopM (fun f (a : Nat × Int32 × IM) => f_X7_judge_l1 (nI s) (nI t) f (nI a.1) a.2.1 a.2.2) (fun c : Nat × IM => (f_X7_putsBack c.2).bind fun r3 => some (nI c.1, r3)) (fun a => a.1 ≤ z ∧ mr m a.2.2 ∧ (∀ j, j < a.1 → vT (itV V (j + 1)) t 4 = num j) ∧ ((a.2.1 = 1 ∧ RR a.2.2 83 (itV V a.1)) ∨ (a.2.1 = 0 ∧ a.1 < z ∧ ¬ vT (itV V (a.1 + 1)) t 4 = num a.1))) (fun a => 2 * (z - a.1) + (if a.2.1 = 1 then 1 else 0)) (fun c => mr m c.2 ∧ ((c.1 = 0 ∧ ∀ j, j < z → vT (itV V (j + 1)) t 4 = num j) ∨ (1 ≤ c.1 ∧ c.1 ≤ z ∧ ¬ vT (itV V c.1) t 4 = num (c.1 - 1) ∧ ∀ j, j + 1 < c.1 → vT (itV V (j + 1)) t 4 = num j))) (fun f a hP => ?_) xF (0, 1, m) (by show 2 * (z - 0) + 1 < xF; unfold xF; omega) ⟨Nat.zero_le _, mr_refl, fun j hj => absurd hj (Nat.not_lt_zero _), Or.inl ⟨rfl, v⟩⟩
  · exact key
  · obtain ⟨i, x5, x⟩ := a
    obtain ⟨p1, p2, p3, p4⟩ := hP
    have p1 : i ≤ z := p1
    have p2 : mr m x := p2
    have p3 : ∀ j, j < i → vT (itV V (j + 1)) t 4 = num j := p3
    have x91 : x 91 s = nI z := by rw [p2.1 91 (by decide) (by decide)]; exact ez
    rcases p4 with ⟨q1, q2⟩ | ⟨q1, q2, q3⟩
    · have q1 : x5 = 1 := q1
      have q2 : RR x 83 (itV V i) := q2
      subst q1
      by_cases c : i = z
      · subst c
        refine Or.inl ⟨(0, x), ?_, p2, Or.inl ⟨rfl, p3⟩⟩
        show f_X7_judge_l1b (nI s) (nI t) _ (nI i) 1 x = _
        unfold f_X7_judge_l1b f_X7_judge_j2
        rw [if_neg i10, if_pos ib, is, x91, if_pos (Int32.le_refl _)]
        simp only [i10, if_false]
        rfl
      · obtain ⟨m', e, r, y5, y6, o, o2⟩ := minute_r q2 (it_ok ok i)
        have ec : f_X7_its (nI t) 4 m' = some (vT (itV V (i + 1)) t 4) := by
          rw [its_w (w := 4) 4 rfl ht10 (by decide)]
          congr 1
          exact r.2.2.1 t (by show t < vN (itV V i); rw [it_N]; exact ht) 4 (by decide)
        have en' : m' 92 (40 * s + i) = num i := by rw [o 92 (by decide) (by decide), p2.1 92 (by decide) (by decide)]; exact en i (by omega)
        have e0 : f_X7_judge_l1 (nI s) (nI t) (f + 1) (nI i) 1 x = if num i = vT (itV V (i + 1)) t 4 then f_X7_judge_l1 (nI s) (nI t) f (nI (i + 1)) 1 m' else f_X7_judge_l1 (nI s) (nI t) f (nI i) 0 m' := by
          show f_X7_judge_l1b (nI s) (nI t) _ (nI i) 1 x = _
          unfold f_X7_judge_l1b f_X7_judge_j3 f_X7_judge_j4
          rw [if_neg i10, if_pos ib, is, x91, if_neg (nI_ge (show i < z by omega) (by omega)), e, Option.bind_some, lit_mul40, nI_add, if_pos (inb_nI (show 40 * s + i < 160 by omega) (by decide)), ec, Option.bind_some, ix_nI (by omega), en', if_neg i10, if_pos rfl, bnd_eq, bnd_eq, nI_1, Int32.add_zero]
        by_cases d : num i = vT (itV V (i + 1)) t 4
        · rw [if_pos d] at e0
          refine Or.inr ⟨(i + 1, 1, m'), e0, ⟨by show i + 1 ≤ z; omega, mr_trans p2 ⟨o, o2⟩, fun j hj => ?_, Or.inl ⟨rfl, r⟩⟩, ?_⟩
          · have hj : j < i + 1 := hj
            by_cases e : j = i
            · subst e; exact d.symm
            · exact p3 j (by omega)
          · show 2 * (z - (i + 1)) + (if (1 : Int32) = 1 then 1 else 0) < 2 * (z - i) + (if (1 : Int32) = 1 then 1 else 0)
            rw [if_pos rfl]; omega
        · rw [if_neg d] at e0
          refine Or.inr ⟨(i, 0, m'), e0, ⟨p1, mr_trans p2 ⟨o, o2⟩, p3, Or.inr ⟨rfl, by show i < z; omega, fun q => d q.symm⟩⟩, ?_⟩
          show 2 * (z - i) + (if (0 : Int32) = 1 then 1 else 0) < 2 * (z - i) + (if (1 : Int32) = 1 then 1 else 0)
          rw [if_pos rfl, if_neg (by decide)]; omega
    · have q1 : x5 = 0 := q1
      have q2 : i < z := q2
      have q3 : ¬ vT (itV V (i + 1)) t 4 = num i := q3
      subst q1
      refine Or.inl ⟨(i + 1, x), ?_, p2, Or.inr ⟨by show 1 ≤ i + 1; omega, by show i + 1 ≤ z; omega, q3, fun j hj => p3 j (by have hj : j + 1 < i + 1 := hj; omega)⟩⟩
      show f_X7_judge_l1b (nI s) (nI t) _ (nI i) 0 x = _
      unfold f_X7_judge_l1b f_X7_judge_j2
      rw [if_pos rfl]
      simp only [if_true]
      rw [lit_add 1 (k := 1) rfl, Nat.add_comm 1 i]
theorem lp_judge : LP_judge Inv := by
  intro im hI a1 a2
  obtain ⟨⟨V, v1, v2, v3⟩, -, -, -, hH⟩ := id hI
  have ok := v3.l
  have wm : wi (vM V) 0 9999 := v3.2.2.2.2.2.2.2
  by_cases h1 : wi a1 0 3
  · obtain ⟨s, hs, rfl⟩ := rng_of (n := 3) 3 (by decide) h1.1 h1.2
    have ib := inb_nI (show s < 4 by omega) (show 4 < 2 ^ 31 by decide)
    have is : ix (nI s) = s := ix_nI (by omega)
    obtain ⟨⟨b1, b2⟩, ⟨z1, z2⟩, nm⟩ := hH s (by omega)
    by_cases h2 : im 90 s = 0
    · refine bref6 hI ?_ (fun m hm => ?_)
      · unfold f_X6_judge f_X6_isSheet
        rw [within_1 h1, zb_1, if_neg i10, if_pos ib, is, miss_1 (by rw [b1]; exact h2), if_neg i10, refuse_6, Option.bind_some]
      · unfold f_X7_judge
        rw [wrong_m hs h1 (by rw [hm, up_row (by decide)]; exact h2), Option.bind_some, if_neg n6_0, finds_6, Option.bind_some]
    · obtain ⟨z, hz, ez⟩ := rng_of (n := 40) 40 (by decide) z2.1 z2.2
      by_cases h3 : ∃ t, t < vN V ∧ a2 = nI t
      · obtain ⟨t, ht, rfl⟩ := h3
        obtain ⟨lt1, -⟩ := late_iff wm (n := z) (by omega) _ (late_c (by omega))
        by_cases h4 : vM V ≤ 9999 - nI z
        · obtain ⟨mb, eb, rb, ob⟩ := become_c (im := im) (T := 31) (S := 1) (by omega) v1 ok.1
          obtain ⟨⟨r, m⟩, e1, o1, c1⟩ := judge_c (num := im (75 + 2 * s)) rb ok hs ht hz (by rw [ob _ (by omega), z1]; exact ez) (fun k hk => by rw [ob _ (by omega)])
          have e1 : f_X6_judge_l1 (nI s) (nI t) xF 0 mb = some (nI r, m) := e1
          have o1 : ∀ a, ¬ (31 ≤ a ∧ a < 31 + 15) → m a = mb a := o1
          have oo : ∀ a, ¬ (31 ≤ a ∧ a < 31 + 15) → m a = im a := fun a ha => (o1 a ha).trans (ob a ha)
          obtain ⟨m2, e2, k2⟩ := puts_r m
          have o2 : ∀ a, ¬ (31 ≤ a ∧ a < 31 + 15) → a ≠ 85 → m2 a = im a := fun a ha hb => (k2.1 a hb).trans (oo a ha)
          obtain ⟨⟨r', m3⟩, e3, q3, c3⟩ := judge_r (m := m2) (num := im (75 + 2 * s)) (v2.cg (o2 83 (by omega) (by omega))) ok hs ht hz (by rw [o2 91 (by omega) (by omega)]; exact ez) (fun k hk => by rw [o2 92 (by omega) (by omega)]; exact (nm k hk).symm)
          have e3 : f_X7_judge_l1 (nI s) (nI t) xF 0 1 m2 = (f_X7_putsBack m3).bind fun r3 => some (nI r', r3) := e3
          obtain ⟨m4, e4, k4⟩ := putsBack_r m3
          have err : r' = r := by
            rcases c1 with ⟨g1, g2⟩ | ⟨g1, g2, g3, g4⟩
            · have g1 : r = 0 := g1
              rcases c3 with ⟨d1, d2⟩ | ⟨d1, d2, d3, d4⟩
              · have d1 : r' = 0 := d1
                omega
              · have d1 : 1 ≤ r' := d1
                have d2 : r' ≤ z := d2
                have := g2 (r' - 1) (by omega)
                rw [show r' - 1 + 1 = r' by omega] at this
                exact absurd this d3
            · have g1 : 1 ≤ r := g1
              have g2 : r ≤ z := g2
              rcases c3 with ⟨d1, d2⟩ | ⟨d1, d2, d3, d4⟩
              · have := d2 (r - 1) (by omega)
                rw [show r - 1 + 1 = r by omega] at this
                exact absurd this g3
              · have d1 : 1 ≤ r' := d1
                have d2 : r' ≤ z := d2
                rcases Nat.lt_trichotomy r' r with h | h | h
                · have := g4 (r' - 1) (by show r' - 1 + 1 < r; omega)
                  rw [show r' - 1 + 1 = r' by omega] at this
                  exact absurd this d3
                · exact h
                · have := d4 (r - 1) (by show r - 1 + 1 < r'; omega)
                  rw [show r - 1 + 1 = r by omega] at this
                  exact absurd this g3
          refine ⟨nI r, m, m4, ?_, ?_, hI.agR (agR_trans (later_agR oo) (look_back k2 q3 k4))⟩
          · unfold f_X6_judge f_X6_isSheet
            rw [within_1 h1, zb_1, if_neg i10, if_pos ib, is, miss_0 (by rw [b1]; exact h2), if_pos rfl, thing_1 ok.1 v1.2.2.2.2.1 ht, if_neg i10, if_pos ib, v1.2.2.2.2.2.2.2.1, z1, ez, if_pos h4, eb, Option.bind_some, e1]
          · unfold f_X7_judge f_X7_isTooLate
            rw [wrong_n hs h1 (by rw [oo 90 (by omega)]; exact h2), Option.bind_some, if_pos rfl, thing7_1 ok.1 (by rw [oo 83 (by omega)]; exact v2.2.2.2.2.1) ht, if_neg i10, if_pos ib, is, oo 83 (by omega), oo 91 (by omega), ez, v2.2.2.2.2.2.2.2.1, if_pos (lt1.mp h4), if_pos rfl, e2, Option.bind_some, e3, e4, Option.bind_some, err]
        · refine bref5 hI ?_ (fun m hm => ?_)
          · unfold f_X6_judge f_X6_isSheet
            rw [within_1 h1, zb_1, if_neg i10, if_pos ib, is, miss_0 (by rw [b1]; exact h2), if_pos rfl, thing_1 ok.1 v1.2.2.2.2.1 ht, if_neg i10, if_pos ib, v1.2.2.2.2.2.2.2.1, z1, ez, if_neg h4, refuse_5, Option.bind_some]
          · have rr : ∀ a, a ≠ 73 → m a = im a := fun a ha => by rw [hm, up_row ha]
            unfold f_X7_judge f_X7_isTooLate
            rw [wrong_n hs h1 (by rw [rr 90 (by omega)]; exact h2), Option.bind_some, if_pos rfl, thing7_1 ok.1 (by rw [rr 83 (by omega)]; exact v2.2.2.2.2.1) ht, if_neg i10, if_pos ib, is, rr 83 (by omega), rr 91 (by omega), ez, v2.2.2.2.2.2.2.2.1, if_neg (fun q => h4 (lt1.mpr q)), if_neg i10, finds_5, Option.bind_some]
      · refine bref1 hI ?_ (fun m hm => ?_)
        · unfold f_X6_judge f_X6_isSheet
          rw [within_1 h1, zb_1, if_neg i10, if_pos ib, is, miss_0 (by rw [b1]; exact h2), if_pos rfl, thing_0 ok.1 v1.2.2.2.2.1 h3, if_pos rfl, refuse_1, Option.bind_some]
        · unfold f_X7_judge
          rw [wrong_n hs h1 (by rw [hm, up_row (by decide)]; exact h2), Option.bind_some, if_pos rfl, thing7_0 ok.1 (show m 83 1 = nI (vN V) by rw [hm, up_row (by decide)]; exact v2.2.2.2.2.1) h3, if_pos rfl, finds_1, Option.bind_some]
  · refine bref1 hI ?_ (fun m hm => ?_)
    · unfold f_X6_judge f_X6_isSheet
      rw [within_0 h1, zb_0, if_pos rfl, refuse_1, Option.bind_some]
    · unfold f_X7_judge
      rw [wrong_b h1, Option.bind_some, if_neg n1_0, finds_1, Option.bind_some]
