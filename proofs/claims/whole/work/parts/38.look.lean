/-! memories that agree but for what lies behind row 83's 167 places -/
def agR (im m : IM) : Prop := (∀ a, ¬ scr a → a ≠ 0 → a ≠ 66 → a ≠ 82 → a ≠ 83 → m a = im a) ∧ (m 0 2 = im 0 2 ∧ m 66 1 = im 66 1 ∧ m 82 4 = im 82 4 ∧ m 82 16 = im 82 16) ∧ ∀ k, k < 167 → m 83 k = im 83 k
theorem agR_refl {im : IM} : agR im im := ⟨fun _ _ _ _ _ _ => rfl, ⟨rfl, rfl, rfl, rfl⟩, fun _ _ => rfl⟩
theorem agR_trans {a b c : IM} (h : agR a b) (g : agR b c) : agR a c := ⟨fun x h1 h2 h3 h4 h5 => (g.1 x h1 h2 h3 h4 h5).trans (h.1 x h1 h2 h3 h4 h5), ⟨g.2.1.1.trans h.2.1.1, g.2.1.2.1.trans h.2.1.2.1, g.2.1.2.2.1.trans h.2.1.2.2.1, g.2.1.2.2.2.trans h.2.1.2.2.2⟩, fun k hk => (g.2.2 k hk).trans (h.2.2 k hk)⟩
theorem agR_of {a b : IM} (h : agr a b) : agR a b := ⟨fun x h1 h2 h3 h4 _ => h.1 x h1 h2 h3 h4, h.2, fun k _ => by rw [h.1 83 (by unfold scr; omega) (by decide) (by decide) (by decide)]⟩
theorem agR_rows {a b : IM} (h : ∀ x, ¬ scr x → b x = a x) : agR a b := ⟨fun x h1 _ _ _ _ => h x h1, ⟨by rw [h 0 (by unfold scr; omega)], by rw [h 66 (by unfold scr; omega)], by rw [h 82 (by unfold scr; omega)], by rw [h 82 (by unfold scr; omega)]⟩, fun k _ => by rw [h 83 (by unfold scr; omega)]⟩
theorem RR.pt {im m : IM} {D S : Nat} {V : TV} (h : RR im S V) (hn : vN V ≤ 10) (r : ∀ k, k < 167 → m D k = im S k) : RR m D V := by
  obtain ⟨h1, h2, h3, h4, h5, h6, h7, h8, h9⟩ := h
  exact ⟨fun c hk => by rw [r _ (by omega)]; exact h1 c hk, fun c hk => by rw [r _ (by omega)]; exact h2 c hk, fun t ht w hw => by rw [r _ (by omega)]; exact h3 t ht w hw, fun k hk => by rw [r _ (by omega)]; exact h4 k hk, by rw [r _ (by omega)]; exact h5, by rw [r _ (by omega)]; exact h6, by rw [r _ (by omega)]; exact h7, by rw [r _ (by omega)]; exact h8, by rw [r _ (by omega)]; exact h9⟩
theorem Inv.agR {im m : IM} (h : Inv im) (ha : agR im m) : Inv m := by
  obtain ⟨V, v1, v2, v3⟩ := h.1
  have h1 : Inv (fun a => if a = 83 then m 83 else im a) := by
    refine h.town (fun a h1 h2 => by show (if a = 83 then m 83 else im a) = im a; rw [if_neg h2]) ⟨V, v1.cg (fun a h1 h2 => by show (if a = 83 then m 83 else im a) = im a; rw [if_neg (by omega)]) v3.1, v2.pt v3.1 (fun k hk => ?_), v3⟩
    show (if (83 : Nat) = 83 then m 83 else im 83) k = _
    rw [if_pos rfl]
    exact ha.2.2 k hk
  refine h1.agr ⟨fun a g1 g2 g3 g4 => ?_, ?_, ?_, ?_, ?_⟩
  · show m a = if a = 83 then m 83 else im a
    by_cases e : a = 83
    · rw [if_pos e, e]
    · rw [if_neg e]; exact ha.1 a g1 g2 g3 g4 e
  · exact ha.2.1.1
  · exact ha.2.1.2.1
  · exact ha.2.1.2.2.1
  · exact ha.2.1.2.2.2
theorem agR_up {a b : IM} (h : agR a b) {x i : Nat} {v : Int32} (h1 : ¬ scr x) (h2 : x ≠ 0) (h3 : x ≠ 66) (h4 : x ≠ 82) (h5 : x ≠ 83) : agR (up a x i v) (up b x i v) := by
  refine ⟨fun y g1 g2 g3 g4 g5 => ?_, ⟨?_, ?_, ?_, ?_⟩, fun k hk => ?_⟩
  · by_cases e : y = x
    · subst e
      funext j
      simp [up, h.1 y h1 h2 h3 h4 h5]
    · rw [up_row e, up_row e]
      exact h.1 y g1 g2 g3 g4 g5
  · rw [up_row (Ne.symm h2), up_row (Ne.symm h2)]; exact h.2.1.1
  · rw [up_row (Ne.symm h3), up_row (Ne.symm h3)]; exact h.2.1.2.1
  · rw [up_row (Ne.symm h4), up_row (Ne.symm h4)]; exact h.2.1.2.2.1
  · rw [up_row (Ne.symm h4), up_row (Ne.symm h4)]; exact h.2.1.2.2.2
  · rw [up_row (Ne.symm h5), up_row (Ne.symm h5)]; exact h.2.2 k hk
theorem fin_ref2 {im ims ms : IM} {k : Nat} (hk : k < 7) (hI : Inv im) (h1 : agR im ims) (h2 : agR (up ims 73 k (ims 73 k + 1)) ms) : Inv (up ms 86 k (ms 86 k + 1)) := by
  have e1 : ims 73 k = im 73 k := by rw [h1.1 73 ns73 (by decide) (by decide) (by decide) (by decide)]
  have e2 : ms 86 k = im 86 k := by rw [h2.1 86 ns86 (by decide) (by decide) (by decide) (by decide), up_row (by decide), h1.1 86 ns86 (by decide) (by decide) (by decide) (by decide)]
  have a1 : agR (up im 73 k (im 73 k + 1)) ms := by
    refine agR_trans ?_ h2
    rw [e1]
    exact agR_up h1 ns73 (by decide) (by decide) (by decide) (by decide)
  rw [e2]
  exact (hI.bump hk).agR (agR_up a1 ns86 (by decide) (by decide) (by decide) (by decide))
/-! minutes on end -/
noncomputable def itV (V : TV) : Nat → TV
  | 0 => V
  | n + 1 => minV (itV V n)
theorem it_ok {V : TV} (h : OkL V) : ∀ n, OkL (itV V n)
  | 0 => h
  | n + 1 => (it_ok h n).min
theorem it_N {V : TV} : ∀ n, vN (itV V n) = vN V
  | 0 => rfl
  | n + 1 => it_N n
theorem it_M {V : TV} : ∀ n, vM (itV V n) = vM V + nI n
  | 0 => by show vM V = vM V + 0; rw [Int32.add_zero]
  | n + 1 => by
    show vM (itV V n) + 1 = _
    rw [it_M n, Int32.add_assoc, nI_1]
noncomputable def smet (V : TV) : Nat → Nat
  | 0 => 0
  | n + 1 => smet V n + minMet (itV V n)
noncomputable def sout (V : TV) : Nat → Nat
  | 0 => 0
  | n + 1 => sout V n + minOut (itV V n)
theorem passMinutes_c {im : IM} {T : Nat} {V : TV} (v : RC im T V) (ok : OkL V) {n : Nat} (hn : n < 5000) : ∃ m, f_X5_passMinutes T (nI n) im = some (nI (smet V n), m) ∧ (RC m T (itV V n) ∧ ∀ a, ¬ (T ≤ a ∧ a < T + 15) → m a = im a) := by
  unfold f_X5_passMinutes
  refine loopG (fun f (s : Int32 × IM) i => f_X5_passMinutes_l1 T (nI n) f s.1 i s.2) (fun m : IM => some (nI (smet V n), m)) 0 0 rfl n hn (by omega) (fun i s => s.1 = nI (smet V i) ∧ RC s.2 T (itV V i) ∧ ∀ a, ¬ (T ≤ a ∧ a < T + 15) → s.2 a = im a) _ (fun f s hP => ⟨s.2, ?_, hP.2⟩) (fun f s i hi0 hi hP => Or.inr ?_) (0, im) ⟨rfl, v, fun _ _ => rfl⟩
  · show f_X5_passMinutes_l1b T (nI n) _ s.1 (nI n) s.2 = _
    unfold f_X5_passMinutes_l1b
    rw [if_pos (Int32.le_refl _), hP.1]
  · obtain ⟨p1, p2, p3⟩ := hP
    obtain ⟨m', e, r, o⟩ := minute_c p2 (it_ok ok i)
    refine ⟨(nI (smet V (i + 1)), m'), ?_, rfl, r, fun a ha => (o a ha).trans (p3 a ha)⟩
    show f_X5_passMinutes_l1b T (nI n) _ s.1 (nI i) s.2 = _
    unfold f_X5_passMinutes_l1b
    rw [if_neg (nI_ge hi (by omega)), e, Option.bind_some, p1]
    simp only [bnd_eq, nI_1, nI_add]
    rfl
/-- what the reference's rows keep over minutes -/
def mr (im m : IM) : Prop := (∀ a, a ≠ 82 → a ≠ 83 → m a = im a) ∧ ∀ k, k ≠ 5 → k ≠ 6 → m 82 k = im 82 k
theorem mr_refl {im : IM} : mr im im := ⟨fun _ _ _ => rfl, fun _ _ _ => rfl⟩
theorem mr_trans {a b c : IM} (h : mr a b) (g : mr b c) : mr a c := ⟨fun x h1 h2 => (g.1 x h1 h2).trans (h.1 x h1 h2), fun k h1 h2 => (g.2 k h1 h2).trans (h.2 k h1 h2)⟩
theorem outs_1 {V : TV} : cn (fun t => decide (vT (minV V) t 6 = 2)) (vN V) = cn (fun t => decide (vT V t 6 = 2)) (vN V) + minOut V := by
  unfold minOut
  rw [← cn_or]
  · refine cn_cg (fun t ht => ?_)
    show decide (metW V t 6 = 2) = _
    unfold metW stW
    by_cases q : qm (rollW V) (bgV V) (vN V) (vN V) t = true
    · rw [if_pos q]
      have h1 := (qm_iff.mp q).1
      have h2 : ¬ rollW V t 6 = 2 := fun e => by rw [e] at h1; exact absurd h1 (by decide)
      have h3 : ¬ vT V t 6 = 2 := fun e => by
        rw [rollW_n (show bgV V t = false by unfold bgV; rw [e]; decide), e] at h1
        exact absurd h1 (by decide)
      rw [decide_eq_false h2, decide_eq_false h3]
      simp [stopRow]
    · rw [if_neg q]
      cases hb : bgV V t with
      | false => rw [rollW_n hb]; simp
      | true =>
        have h3 : ¬ vT V t 6 = 2 := fun e => by
          unfold bgV at hb
          rw [e] at hb
          exact absurd hb (by decide)
        rw [decide_eq_false h3]
        simp
  · intro t ht z
    rw [decide_eq_true_iff] at z
    unfold bgV
    rw [z]
    rfl
theorem outs_n {V : TV} : ∀ n, cn (fun t => decide (vT (itV V n) t 6 = 2)) (vN V) = cn (fun t => decide (vT V t 6 = 2)) (vN V) + sout V n
  | 0 => rfl
  | n + 1 => by
    have h := outs_1 (V := itV V n)
    rw [it_N] at h
    show cn (fun t => decide (vT (minV (itV V n)) t 6 = 2)) (vN V) = _ + (sout V n + minOut (itV V n))
    rw [h, outs_n n]
    omega
theorem allIn_V {im : IM} {T : Nat} {V : TV} {st : Int32} (v : RC im T V) (h10 : vN V ≤ 10) : f_X5_allIn T st im = some (sOf (fun t => decide (vT V t 6 = st)) (vN V)) := by
  rw [allIn_c v.2.2.2.2.1 h10]
  congr 1
  refine sOf_cg (fun t ht => ?_)
  rw [v.2.2.1 t ht 6 (by decide)]
theorem late_iff {x : Int32} (h : wi x 0 9999) {n : Nat} (hn : n ≤ 300) (K : Int32) (hK : K = nI (9999 - n)) : (x ≤ K ↔ x + nI n ≤ 9999) ∧ (x ≤ K → wi (x + nI n) 0 9999) := by
  obtain ⟨j, hj, rfl⟩ := rng_of (n := 9999) 9999 (by decide) h.1 h.2
  subst hK
  rw [nI_add, nI_leI (by omega) (by omega), nI_le_lit (n := 9999) 9999 (by decide) (by omega)]
  refine ⟨by omega, fun q => ⟨nI_pos' (by omega), (nI_le_lit (n := 9999) 9999 (by decide) (by omega)).mpr (by omega)⟩⟩
theorem late_c {n : Nat} (hn : n ≤ 300) : (9999 : Int32) - nI n = nI (9999 - n) := by rw [show (9999 : Int32) = nI 9999 from rfl, pk_sub (by omega)]
theorem lp_minutes : LP_minutes Inv := by
  intro im hI a1
  obtain ⟨⟨V, v1, v2, v3⟩, -⟩ := id hI
  have ok := v3.l
  have wm : wi (vM V) 0 9999 := v3.2.2.2.2.2.2.2
  by_cases h1 : wi a1 1 120
  · obtain ⟨n, hn, rfl⟩ := rng_of (n := 120) 120 (by decide) (Int32.le_trans (by decide) h1.1) h1.2
    obtain ⟨lt1, lt2⟩ := late_iff wm (n := n) (by omega) _ (late_c (by omega))
    by_cases h2 : vM V ≤ 9999 - nI n
    · obtain ⟨m, e1, r1, o1⟩ := passMinutes_c v1 ok (n := n) (by omega)
      have v2m : RR m 83 V := v2.cg (o1 83 (by omega))
      have key : ∃ m2, f_X7_minutes_l1 (nI n) xF 0 0 m = some (nI (smet V n + sout V n), m2) ∧ (RR m2 83 (itV V n) ∧ mr m m2) := by
        refine loopG (fun f (s : Int32 × IM) i => f_X7_minutes_l1 (nI n) f s.1 i s.2) (fun m2 : IM => some (nI (smet V n + sout V n), m2)) 0 0 rfl n (by omega) (by omega) (fun i s => s.1 = nI (smet V i + sout V i) ∧ RR s.2 83 (itV V i) ∧ mr m s.2) _ (fun f s hP => ⟨s.2, ?_, hP.2⟩) (fun f s i hi0 hi hP => Or.inr ?_) (0, m) ⟨rfl, v2m, mr_refl⟩
        · show f_X7_minutes_l1b (nI n) _ s.1 (nI n) s.2 = _
          unfold f_X7_minutes_l1b
          rw [if_pos (Int32.le_refl _), hP.1]
        · obtain ⟨p1, p2, p3⟩ := hP
          obtain ⟨m', e, r, x5, x6, o, o2⟩ := minute_r p2 (it_ok ok i)
          refine ⟨(nI (smet V (i + 1) + sout V (i + 1)), m'), ?_, rfl, r, mr_trans p3 ⟨o, o2⟩⟩
          show f_X7_minutes_l1b (nI n) _ s.1 (nI i) s.2 = _
          unfold f_X7_minutes_l1b
          rw [if_neg (nI_ge hi (by omega)), e, Option.bind_some, p1, x5, x6]
          simp only [bnd_eq, nI_1, nI_add]
          rw [show smet V i + sout V i + (minMet (itV V i) + minOut (itV V i)) = smet V (i + 1) + sout V (i + 1) by
            show _ = (smet V i + minMet (itV V i)) + (sout V i + minOut (itV V i)); omega]
      obtain ⟨m2, e2, r2, q1, q2⟩ := key
      refine ⟨nI (smet V n + sout V n), m, m2, ?_, ?_, ?_⟩
      · unfold f_X6_minutes
        rw [within_1 h1, if_neg i10, v1.2.2.2.2.2.2.2.1, if_pos h2, allIn_V v1 ok.1, Option.bind_some, bnd_eq, e1, Option.bind_some, allIn_V r1 (it_ok ok n).1, Option.bind_some, bc_sOf ok.1, bc_sOf (it_ok ok n).1, it_N, outs_n, nI_add, pk_sub (by omega)]
        rw [show smet V n + (cn (fun t => decide (vT V t 6 = 2)) (vN V) + sout V n) - cn (fun t => decide (vT V t 6 = 2)) (vN V) = smet V n + sout V n by omega]
      · unfold f_X7_minutes f_X7_isTooLate
        rw [in_1_120, within_1 h1, if_neg i10, v2m.2.2.2.2.2.2.2.1, if_pos (lt1.mp h2), if_pos rfl, e2]
      · have hI2 : Inv (fun a => if a = 82 then im 82 else m2 a) := by
          refine hI.town (fun a h3 h4 => ?_) ⟨itV V n, r1.cg (fun a h3 h4 => ?_) (by rw [it_N]; exact ok.1), r2.cg ?_, (it_ok ok n).v (by rw [it_M]; exact lt2 h2)⟩
          · show (if a = 82 then im 82 else m2 a) = im a
            by_cases e : a = 82
            · rw [if_pos e, e]
            · rw [if_neg e, q1 a e h4]; exact o1 a (by omega)
          · show (if a = 82 then im 82 else m2 a) = m a
            rw [if_neg (by omega), q1 a (by omega) (by omega)]
          · show (if (83 : Nat) = 82 then im 82 else m2 83) = m2 83
            rw [if_neg (by decide)]
        refine hI2.agr ⟨fun a g1 g2 g3 g4 => ?_, ?_, ?_, ?_, ?_⟩
        · show m2 a = if a = 82 then im 82 else m2 a
          rw [if_neg g4]
        · rfl
        · rfl
        · show m2 82 4 = im 82 4
          rw [q2 4 (by decide) (by decide), o1 82 (by omega)]
        · show m2 82 16 = im 82 16
          rw [q2 16 (by decide) (by decide), o1 82 (by omega)]
    · refine bref5 hI ?_ (fun m hm => ?_)
      · unfold f_X6_minutes
        rw [within_1 h1, if_neg i10, v1.2.2.2.2.2.2.2.1, if_neg h2, refuse_5, Option.bind_some]
      · unfold f_X7_minutes f_X7_isTooLate
        rw [in_1_120, within_1 h1, if_neg i10, show m 83 0 = vM V by rw [hm, up_row (by decide)]; exact v2.2.2.2.2.2.2.2.1, if_neg (fun z => h2 (lt1.mpr z)), if_neg i10, finds_5, Option.bind_some]
  · refine bref1 hI ?_ (fun m hm => ?_)
    · unfold f_X6_minutes
      rw [within_0 h1, if_pos rfl, refuse_1, Option.bind_some]
    · unfold f_X7_minutes
      rw [in_1_120, within_0 h1, if_pos rfl, finds_1, Option.bind_some]
