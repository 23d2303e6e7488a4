/-! a minute, as a value -/
abbrev RW : Type := Nat → Nat → Int32
def rollW (V : TV) : RW := fun t => if vT V t 6 = 1 then pR (vF V) (vG V) (pSh (vA V) (vB V) (vM V)) (vT V t) else vT V t
def bgV (V : TV) (t : Nat) : Bool := decide (vT V t 6 = 1)
def onW (W : RW) (c : Int32) (t : Nat) : Bool := decide (W t 4 = c) && pStd (W t 6)
def mcell (W : RW) (b : Nat → Bool) (N i : Nat) (c : Int32) : Prop := 0 < c ∧ c < 30 ∧ 2 ≤ cn (onW W c) N ∧ ∃ u, u < i ∧ onW W c u = true ∧ b u = true
noncomputable def qm (W : RW) (b : Nat → Bool) (N i t : Nat) : Bool := @decide (pStd (W t 6) = true ∧ mcell W b N i (W t 4)) (Classical.propDecidable _)
theorem qm_iff {W : RW} {b : Nat → Bool} {N i t : Nat} : qm W b N i t = true ↔ pStd (W t 6) = true ∧ mcell W b N i (W t 4) := by
  unfold qm
  exact @decide_eq_true_iff _ (Classical.propDecidable _)
def stopRow (x : Nat → Int32) : Nat → Int32 := fun w => if w = 5 then 0 else if w = 6 then 0 else if w = 7 then x 7 + 1 else x w
def stW (q : Nat → Bool) (W : RW) : RW := fun t => if q t = true then stopRow (W t) else W t
theorem onW_std {W : RW} {c : Int32} {t : Nat} (h : onW W c t = true) : W t 4 = c ∧ pStd (W t 6) = true := by
  unfold onW at h
  rw [Bool.and_eq_true, decide_eq_true_iff] at h
  exact h
theorem onW_mk {W : RW} {c : Int32} {t : Nat} (h1 : W t 4 = c) (h2 : pStd (W t 6) = true) : onW W c t = true := by
  unfold onW
  rw [Bool.and_eq_true, decide_eq_true_iff]
  exact ⟨h1, h2⟩
theorem onW_st {W : RW} {q : Nat → Bool} {t : Nat} (hq : q t = true → pStd (W t 6) = true) (c : Int32) : onW (stW q W) c t = onW W c t := by
  unfold onW stW
  by_cases h : q t = true
  · rw [if_pos h, hq h]
    rfl
  · rw [if_neg h]
theorem stopRow_ok {x : Nat → Int32} (h : OkT x) : OkT (stopRow x) := by
  obtain ⟨o0, o1, o2, o3, o4, o5, o6, o7⟩ := h
  exact ⟨o0, o1, o2, o3, o4, w099, show wi (0 : Int32) 0 3 by unfold wi; decide, fun q => absurd (show (0 : Int32) = 1 from q) (by decide)⟩
/-- the rows of a value, others laid -/
def setW (V : TV) (W : RW) : TV := (V.1, V.2.1, W, V.2.2.2)
noncomputable def metW (V : TV) : RW := stW (qm (rollW V) (bgV V) (vN V) (vN V)) (rollW V)
noncomputable def minV (V : TV) : TV := setM (setW V (metW V)) (vM V + 1)
noncomputable def minMet (V : TV) : Nat := cn (qm (rollW V) (bgV V) (vN V) (vN V)) (vN V)
def minOut (V : TV) : Nat := cn (fun t => bgV V t && decide (rollW V t 6 = 2)) (vN V)
/-- all but the minute is in its range -/
def OkL (V : TV) : Prop := vN V ≤ 10 ∧ (∀ c, c < 31 → wi (vF V c) (-9) 9) ∧ (∀ c, c < 31 → wi (vG V c) 0 4) ∧ (∀ t, t < vN V → OkT (vT V t)) ∧ (∀ k, k < 10 → vS V k = -1 ∨ ∃ t, t < vN V ∧ vS V k = nI t) ∧ wi (vA V) 0 59 ∧ wi (vB V) 0 59
theorem OkV.l {V : TV} (h : OkV V) : OkL V := ⟨h.1, h.2.1, h.2.2.1, h.2.2.2.1, h.2.2.2.2.1, h.2.2.2.2.2.1, h.2.2.2.2.2.2.1⟩
theorem OkL.v {V : TV} (h : OkL V) (hm : wi (vM V) 0 9999) : OkV V := ⟨h.1, h.2.1, h.2.2.1, h.2.2.2.1, h.2.2.2.2.1, h.2.2.2.2.2.1, h.2.2.2.2.2.2, hm⟩
theorem rollW_ok {V : TV} (h : OkL V) {t : Nat} (ht : t < vN V) : OkT (rollW V t) := by
  unfold rollW
  by_cases h6 : vT V t 6 = 1
  · rw [if_pos h6]; exact pR_ok (h.2.2.2.1 t ht) h6
  · rw [if_neg h6]; exact h.2.2.2.1 t ht
theorem OkL.min {V : TV} (h : OkL V) : OkL (minV V) := by
  obtain ⟨h1, h2, h3, h4, h5⟩ := id h
  refine ⟨h1, h2, h3, fun t ht => ?_, h5⟩
  show OkT (metW V t)
  unfold metW stW
  have ok := rollW_ok h (show t < vN V from ht)
  by_cases q : qm (rollW V) (bgV V) (vN V) (vN V) t = true
  · rw [if_pos q]; exact stopRow_ok ok
  · rw [if_neg q]; exact ok
/-! the class: rows of a town -/
def tw (im m : IM) (T N : Nat) (W : RW) : Prop := (∀ a, (a < T + 5 ∨ T + 5 + N ≤ a) → m a = im a) ∧ ∀ t, t < N → ∀ w, w < 8 → m (T + 5 + t) w = W t w
theorem tw_RC {im m : IM} {T : Nat} {V : TV} {W : RW} (v : RC im T V) (h : tw im m T (vN V) W) : RC m T (setW V W) := by
  obtain ⟨h1, h2, h3, h4, h5, h6, h7, h8, h9⟩ := v
  obtain ⟨g1, g2⟩ := h
  exact ⟨fun c hc => by rw [g1 _ (by omega)]; exact h1 c hc, fun c hc => by rw [g1 _ (by omega)]; exact h2 c hc, fun t ht w hw => g2 t ht w hw, fun k hk => by rw [g1 _ (by omega)]; exact h4 k hk, by rw [g1 _ (by omega)]; exact h5, by rw [g1 _ (by omega)]; exact h6, by rw [g1 _ (by omega)]; exact h7, by rw [g1 _ (by omega)]; exact h8, by rw [g1 _ (by omega)]; exact h9⟩
theorem tw_0 {im : IM} {T : Nat} {V : TV} (v : RC im T V) : tw im im T (vN V) (vT V) := ⟨fun _ _ => rfl, v.2.2.1⟩
theorem tw_cg {im m : IM} {T N : Nat} {W W' : RW} (h : tw im m T N W) (hw : ∀ t, t < N → ∀ w, w < 8 → W t w = W' t w) : tw im m T N W' := ⟨h.1, fun t ht w hw' => by rw [h.2 t ht w hw', hw t ht w hw']⟩
/-- one row changes -/
theorem tw_up {im m m' : IM} {T N i : Nat} {W W' : RW} (h : tw im m T N W) (hi : i < N) (ho : ∀ a, a ≠ T + 5 + i → m' a = m a) (hr : ∀ w, w < 8 → m' (T + 5 + i) w = W' i w) (hW : ∀ t, t ≠ i → W' t = W t) : tw im m' T N W' := by
  refine ⟨fun a ha => by rw [ho a (by omega)]; exact h.1 a ha, fun t ht w hw => ?_⟩
  by_cases e : t = i
  · subst e; exact hr w hw
  · rw [ho _ (by omega), hW t e]; exact h.2 t ht w hw
theorem swd_c {im m : IM} {T N : Nat} {W : RW} {s : Int32} (hN : im T 4 = nI N) (h10 : N ≤ 10) (h : tw im m T N W) : ∃ m', f_X5_stopWithDamage T s m = some m' ∧ tw im m' T N (stW (fun t => bt s t) W) := by
  unfold f_X5_stopWithDamage
  refine loopG (fun f m i => f_X5_stopWithDamage_l1 T s f i m) some 0 0 rfl N (by omega) (by omega) (fun i m' => tw im m' T N (stW (fun t => decide (t < i) && bt s t) W)) _ (fun f m' hP => ⟨m', ?_, ?_⟩) (fun f m' i hi0 hi hP => Or.inr ?_) m ?_
  · show f_X5_stopWithDamage_l1b T s _ (nI N) m' = _
    unfold f_X5_stopWithDamage_l1b
    rw [hP.1 T (by omega), hN, if_pos (Int32.le_refl _)]
  · refine tw_cg hP (fun t ht w hw => ?_)
    unfold stW
    simp [ht]
  · have ib := inb_nI (show i < 10 by omega) (show 10 < 2 ^ 31 by decide)
    by_cases c : bt s i = true
    · refine ⟨up (up (up m' (T + 5 + i) 6 0) (T + 5 + i) 5 0) (T + 5 + i) 7 (m' (T + 5 + i) 7 + 1), ?_, tw_up hP hi (fun a ha => by rw [up_row ha, up_row ha, up_row ha]) (fun w hw => ?_) (fun t ht => ?_)⟩
      · show f_X5_stopWithDamage_l1b T s _ (nI i) m' = _
        unfold f_X5_stopWithDamage_l1b f_X5_stopWithDamage_j2 f_X4_stop
        rw [hP.1 T (by omega), hN, if_neg (nI_ge hi (by omega)), has_c (by omega), if_pos c, if_neg i10, if_pos ib, ix_nI (by omega)]
        simp only [bnd_eq, if_pos ib, nI_1]
        rw [up_ne (show (7 : Nat) ≠ 5 by decide), up_ne (show (7 : Nat) ≠ 6 by decide)]
      · have e7 := hP.2 i hi 7 (by decide)
        unfold stW at e7 ⊢
        rw [if_neg (by simp)] at e7
        rw [if_pos (by simp [c])]
        unfold stopRow
        by_cases c7 : w = 7
        · subst c7; rw [up_same, e7]; rfl
        · rw [up_ne c7]
          by_cases c5 : w = 5
          · subst c5; rw [up_same, if_pos rfl]
          · rw [up_ne c5, if_neg c5]
            by_cases c6 : w = 6
            · subst c6; rw [up_same, if_pos rfl]
            · have := hP.2 i hi w hw
              unfold stW at this
              rw [if_neg (by simp)] at this
              rw [up_ne c6, if_neg c6, if_neg c7, this]
      · unfold stW
        by_cases e : t < i
        · simp [e, show t < i + 1 by omega]
        · simp [e, show ¬ t < i + 1 by omega]
    · refine ⟨m', ?_, tw_cg hP (fun t ht w hw => ?_)⟩
      · show f_X5_stopWithDamage_l1b T s _ (nI i) m' = _
        unfold f_X5_stopWithDamage_l1b f_X5_stopWithDamage_j2
        rw [hP.1 T (by omega), hN, if_neg (nI_ge hi (by omega)), has_c (by omega), if_neg c, if_pos rfl, bnd_eq, nI_1]
      · unfold stW
        by_cases e : t = i
        · subst e; simp [c]
        · by_cases e2 : t < i
          · simp [e2, show t < i + 1 by omega]
          · simp [e2, show ¬ t < i + 1 by omega]
  · refine tw_cg h (fun t ht w hw => ?_)
    unfold stW
    simp
/-! who has met when i things have been asked -/
theorem qm_same {W : RW} {b : Nat → Bool} {N i t : Nat} (h : ∀ c, (0 < c ∧ c < 30 ∧ 2 ≤ cn (onW W c) N) → onW W c i = true → b i = true → ∃ u, u < i ∧ onW W c u = true ∧ b u = true) : qm W b N (i + 1) t = qm W b N i t := by
  rw [Bool.eq_iff_iff, qm_iff, qm_iff]
  constructor
  · rintro ⟨h1, c1, c2, c3, u, u1, u2, u3⟩
    refine ⟨h1, c1, c2, c3, ?_⟩
    by_cases e : u = i
    · subst e
      exact h _ ⟨c1, c2, c3⟩ u2 u3
    · exact ⟨u, by omega, u2, u3⟩
  · rintro ⟨h1, c1, c2, c3, u, u1, u2, u3⟩
    exact ⟨h1, c1, c2, c3, u, by omega, u2, u3⟩
theorem qm_mem {W : RW} {b : Nat → Bool} {N i t j : Nat} (h : qm W b N i t = true) (hj : onW W (W t 4) j = true) : qm W b N i j = true := by
  rw [qm_iff] at h ⊢
  obtain ⟨e, s⟩ := onW_std hj
  rw [e]
  exact ⟨s, h.2⟩
theorem stop_c {im m : IM} {T N : Nat} {W : RW} {b : Nat → Bool} (hN : im T 4 = nI N) (h10 : N ≤ 10) (h : tw im m T N W) : ∃ m', f_X5_stopThoseThatMeet T (sOf b N) m = some (nI (cn (qm W b N N) N), m') ∧ tw im m' T N (stW (qm W b N N) W) := by
  unfold f_X5_stopThoseThatMeet
  have key := loopG (fun f (s : Int32 × IM) i => f_X5_stopThoseThatMeet_l1 T (sOf b N) f s.1 i s.2) (fun m' : IM => some (nI (cn (qm W b N N) N), m')) 0 0 rfl N (by omega) (by omega) (fun i s => s.1 = sOf (qm W b N i) N ∧ tw im s.2 T N (stW (qm W b N i) W)) (fun m' => tw im m' T N (stW (qm W b N N) W)) (fun f s hP => ⟨s.2, ?_, hP.2⟩) (fun f s i hi0 hi hP => Or.inr ?_) (0, m) ⟨?_, ?_⟩
  · exact key
  · show f_X5_stopThoseThatMeet_l1b T (sOf b N) _ s.1 (nI N) s.2 = _
    unfold f_X5_stopThoseThatMeet_l1b
    rw [hP.2.1 T (by omega), hN, if_pos (Int32.le_refl _), hP.1, bc_sOf h10]
  · obtain ⟨p1, p2⟩ := hP
    have ib := inb_nI (show i < 10 by omega) (show 10 < 2 ^ 31 by decide)
    have hstd : ∀ t, qm W b N i t = true → pStd (W t 6) = true := fun t q => (qm_iff.mp q).1
    have hbit : bt (sOf b N &&& (s.1 ^^^ (-1))) i = (b i && !(qm W b N i i)) := by
      rw [b_and, b_xor, b_m1 i (by omega), p1, bt_sOf (by omega) (by omega), bt_sOf (by omega) (by omega)]
      simp [hi]
    have r4 : s.2 (T + 5 + i) 4 = W i 4 := by
      rw [p2.2 i hi 4 (by decide)]
      unfold stW
      by_cases q : qm W b N i i = true
      · rw [if_pos q]; rfl
      · rw [if_neg q]
    have r6 : pStd (s.2 (T + 5 + i) 6) = pStd (W i 6) := by
      rw [p2.2 i hi 6 (by decide)]
      unfold stW
      by_cases q : qm W b N i i = true
      · rw [if_pos q, hstd i q]; rfl
      · rw [if_neg q]
    have same : (∀ c, (0 < c ∧ c < 30 ∧ 2 ≤ cn (onW W c) N) → onW W c i = true → b i = true → ∃ u, u < i ∧ onW W c u = true ∧ b u = true) → f_X5_stopThoseThatMeet_l1 T (sOf b N) (f + 1) s.1 (nI i) s.2 = f_X5_stopThoseThatMeet_l1 T (sOf b N) f s.1 (nI (i + 1)) s.2 → ∃ a' : Int32 × IM, f_X5_stopThoseThatMeet_l1 T (sOf b N) (f + 1) s.1 (nI i) s.2 = f_X5_stopThoseThatMeet_l1 T (sOf b N) f a'.1 (nI (i + 1)) a'.2 ∧ a'.1 = sOf (qm W b N (i + 1)) N ∧ tw im a'.2 T N (stW (qm W b N (i + 1)) W) := by
      intro hs he
      have eq : ∀ t, qm W b N (i + 1) t = qm W b N i t := fun t => qm_same hs
      refine ⟨s, he, ?_, tw_cg p2 (fun t ht w hw => ?_)⟩
      · rw [p1]; exact sOf_cg (fun t ht => (eq t).symm)
      · unfold stW; rw [eq t]
    have e0 : f_X5_stopThoseThatMeet_l1 T (sOf b N) (f + 1) s.1 (nI i) s.2 = if (b i && !(qm W b N i i)) = true then (if pStd (W i 6) = true then (if W i 4 ≤ 0 then f_X5_stopThoseThatMeet_l1 T (sOf b N) f s.1 (nI (i + 1)) s.2 else if 30 ≤ W i 4 then f_X5_stopThoseThatMeet_l1 T (sOf b N) f s.1 (nI (i + 1)) s.2 else (f_X5_allOn T (W i 4) s.2).bind fun r3 => if (f_J6_bitCount_0f7a4 r3) ≤ 1 then f_X5_stopThoseThatMeet_l1 T (sOf b N) f s.1 (nI (i + 1)) s.2 else (f_X5_stopWithDamage T r3 s.2).bind fun r4 => f_X5_stopThoseThatMeet_l1 T (sOf b N) f (s.1 ||| r3) (nI (i + 1)) r4) else f_X5_stopThoseThatMeet_l1 T (sOf b N) f s.1 (nI (i + 1)) s.2) else f_X5_stopThoseThatMeet_l1 T (sOf b N) f s.1 (nI (i + 1)) s.2 := by
      show f_X5_stopThoseThatMeet_l1b T (sOf b N) _ s.1 (nI i) s.2 = _
      unfold f_X5_stopThoseThatMeet_l1b f_X5_stopThoseThatMeet_j2
      rw [p2.1 T (by omega), hN, if_neg (nI_ge hi (by omega)), if_pos ib, has_c (by omega), hbit, ix_nI (by omega), std_c, r4, r6]
      simp only [bnd_eq, nI_1]
      by_cases c1 : (b i && !(qm W b N i i)) = true
      · rw [if_pos c1, if_neg i10, if_pos c1]
        by_cases c2 : pStd (W i 6) = true
        · rw [if_pos c2, if_neg i10, if_pos c2]
        · rw [if_neg c2, if_pos rfl, if_neg c2]
      · rw [if_neg c1, if_pos rfl, if_neg c1]
    show ∃ a' : Int32 × IM, f_X5_stopThoseThatMeet_l1 T (sOf b N) (f + 1) s.1 (nI i) s.2 = f_X5_stopThoseThatMeet_l1 T (sOf b N) f a'.1 (nI (i + 1)) a'.2 ∧ a'.1 = sOf (qm W b N (i + 1)) N ∧ tw im a'.2 T N (stW (qm W b N (i + 1)) W)
    by_cases c1 : (b i && !(qm W b N i i)) = true
    · rw [if_pos c1] at e0
      rw [Bool.and_eq_true, Bool.not_eq_true'] at c1
      by_cases c2 : pStd (W i 6) = true
      · rw [if_pos c2] at e0
        by_cases c3 : W i 4 ≤ 0
        · rw [if_pos c3] at e0
          exact same (fun c hc ho hb => absurd ((onW_std ho).1 ▸ hc.1) (Int32.not_lt.mpr c3)) e0
        · rw [if_neg c3] at e0
          by_cases c4 : 30 ≤ W i 4
          · rw [if_pos c4] at e0
            exact same (fun c hc ho hb => absurd ((onW_std ho).1 ▸ hc.2.1) (Int32.not_lt.mpr c4)) e0
          · have ea : f_X5_allOn T (W i 4) s.2 = some (sOf (onW W (W i 4)) N) := by
              rw [allOn_c (by rw [p2.1 T (by omega)]; exact hN) h10]
              congr 1
              refine sOf_cg (fun t ht => ?_)
              rw [← onW_st (q := qm W b N i) (hstd t) (W i 4)]
              unfold onW
              rw [p2.2 t ht 4 (by decide), p2.2 t ht 6 (by decide)]
            rw [if_neg c4, ea, Option.bind_some, bc_sOf h10] at e0
            by_cases c5 : cn (onW W (W i 4)) N ≤ 1
            · rw [if_pos ((nI_le_lit (n := 1) 1 (by decide) (by have := cn_le (p := onW W (W i 4)) (N := N); omega)).mpr c5)] at e0
              refine same (fun c hc ho hb => ?_) e0
              have := (onW_std ho).1
              rw [← this] at hc
              omega
            · rw [if_neg (fun z => c5 ((nI_le_lit (n := 1) 1 (by decide) (by have := cn_le (p := onW W (W i 4)) (N := N); omega)).mp z))] at e0
              obtain ⟨m', es, tws⟩ := swd_c (s := sOf (onW W (W i 4)) N) hN h10 p2
              rw [es, Option.bind_some] at e0
              have qi : ∀ t, t < N → qm W b N (i + 1) t = (qm W b N i t || onW W (W i 4) t) := by
                intro t ht
                rw [Bool.eq_iff_iff, Bool.or_eq_true]
                constructor
                · intro q
                  obtain ⟨h1, d1, d2, d3, u, u1, u2, u3⟩ := qm_iff.mp q
                  by_cases e : u = i
                  · subst e
                    exact Or.inr (onW_mk (onW_std u2).1.symm h1)
                  · exact Or.inl (qm_iff.mpr ⟨h1, d1, d2, d3, u, by omega, u2, u3⟩)
                · rintro (q | q)
                  · obtain ⟨h1, d1, d2, d3, u, u1, u2, u3⟩ := qm_iff.mp q
                    exact qm_iff.mpr ⟨h1, d1, d2, d3, u, by omega, u2, u3⟩
                  · obtain ⟨e4, e6⟩ := onW_std q
                    refine qm_iff.mpr ⟨e6, ?_⟩
                    rw [e4]
                    exact ⟨Int32.not_le.mp c3, Int32.not_le.mp c4, by omega, i, by omega, onW_mk rfl c2, c1.1⟩
              refine ⟨(s.1 ||| sOf (onW W (W i 4)) N, m'), e0, ?_, tw_cg tws (fun t ht w hw => ?_)⟩
              · show s.1 ||| sOf (onW W (W i 4)) N = _
                refine b_ext (fun j hj => ?_)
                rw [b_or, p1, bt_sOf (by omega) hj, bt_sOf (by omega) hj, bt_sOf (by omega) hj]
                by_cases hjN : j < N
                · rw [qi j hjN]; simp [hjN]
                · simp [hjN]
              · have eb : bt (sOf (onW W (W i 4)) N) t = onW W (W i 4) t := by
                  rw [bt_sOf (by omega) (by omega)]; simp [ht]
                unfold stW
                simp only [eb]
                rw [qi t ht]
                by_cases q : onW W (W i 4) t = true
                · have nq : qm W b N i t = false := by
                    cases h : qm W b N i t with
                    | false => rfl
                    | true =>
                      have := qm_mem h (show onW W (W t 4) i = true from onW_mk (onW_std q).1.symm c2)
                      rw [this] at c1
                      exact absurd c1.2 (by decide)
                  simp [q, nq, ht]
                · simp [q]
      · rw [if_neg c2] at e0
        exact same (fun c hc ho hb => absurd (onW_std ho).2 c2) e0
    · rw [if_neg c1] at e0
      refine same (fun c hc ho hb => ?_) e0
      have q : qm W b N i i = true := by
        cases h : qm W b N i i with
        | true => rfl
        | false => exact absurd (by rw [hb, h]; rfl) c1
      obtain ⟨h1, d1, d2, d3, u, u1, u2, u3⟩ := qm_iff.mp q
      rw [(onW_std ho).1] at u2
      exact ⟨u, u1, u2, u3⟩
  · show (0 : Int32) = _
    refine ((sOf_0 (by omega)).mpr (fun t ht => ?_)).symm
    cases h : qm W b N 0 t with
    | false => rfl
    | true =>
      obtain ⟨h1, d1, d2, d3, u, u1, u2, u3⟩ := qm_iff.mp h
      exact absurd u1 (Nat.not_lt_zero _)
  · refine tw_cg h (fun t ht w hw => ?_)
    unfold stW
    rw [if_neg]
    intro q
    obtain ⟨h1, d1, d2, d3, u, u1, u2, u3⟩ := qm_iff.mp q
    exact absurd u1 (Nat.not_lt_zero _)
/-! the class: a minute -/
theorem RC_M2 {im : IM} {T : Nat} {V : TV} (h : RC im T V) {x : Int32} : RC (up im T 7 x) T (setM V x) := RC_M h
theorem RC_W {im : IM} {T : Nat} {V : TV} {W : RW} (v : RC im T V) (hW : ∀ t, t < vN V → ∀ w, w < 8 → vT V t w = W t w) : RC im T (setW V W) := by
  obtain ⟨h1, h2, h3, h4, h5⟩ := v
  exact ⟨h1, h2, fun t ht w hw => by rw [h3 t ht w hw]; exact hW t ht w hw, h4, h5⟩
theorem rollW_n {V : TV} {t : Nat} (h : bgV V t = false) : rollW V t = vT V t := by
  unfold rollW
  rw [if_neg (by unfold bgV at h; exact of_decide_eq_false h)]
theorem qm_none {W : RW} {b : Nat → Bool} {N i t : Nat} (h : ∀ u, u < i → b u = false) : qm W b N i t = false := by
  cases e : qm W b N i t with
  | false => rfl
  | true =>
    obtain ⟨h1, d1, d2, d3, u, u1, u2, u3⟩ := qm_iff.mp e
    rw [h u u1] at u3
    exact absurd u3 (by decide)
theorem cn_none {p : Nat → Bool} : ∀ {N : Nat}, (∀ t, t < N → p t = false) → cn p N = 0
  | 0, _ => rfl
  | N + 1, h => by
    show cn p N + _ = 0
    rw [cn_none (N := N) (fun t ht => h t (by omega)), h N (by omega)]
    rfl
theorem minute_c {im : IM} {T : Nat} {V : TV} (v : RC im T V) (ok : OkL V) : ∃ m, f_X5_passMinute T im = some (nI (minMet V), m) ∧ (RC m T (minV V) ∧ ∀ a, ¬ (T ≤ a ∧ a < T + 15) → m a = im a) := by
  have h10 := ok.1
  have eA : f_X5_allIn T 1 im = some (sOf (bgV V) (vN V)) := by
    rw [allIn_c v.2.2.2.2.1 h10]
    congr 1
    refine sOf_cg (fun t ht => ?_)
    unfold bgV
    rw [v.2.2.1 t ht 6 (by decide)]
  have e7 : im T 7 = vM V := v.2.2.2.2.2.2.2.1
  unfold f_X5_passMinute
  rw [eA, Option.bind_some]
  by_cases h0 : sOf (bgV V) (vN V) = 0
  · have hb := (sOf_0 (by omega)).mp h0
    have em : minMet V = 0 := cn_none (fun t ht => qm_none hb)
    rw [if_pos h0]
    refine ⟨up im T 7 (vM V + 1), ?_, RC_M (RC_W v (fun t ht w hw => ?_)), fun a ha => up_row (by omega)⟩
    · unfold f_X5_passMinute_j1
      rw [bnd_eq, e7, em]
      rfl
    · unfold metW stW
      rw [if_neg (by rw [qm_none hb]; decide), rollW_n (hb t ht)]
  · rw [if_neg h0]
    have key : ∃ c : Int32 × IM, f_X5_passMinute_l2 T xF (sOf (bgV V) (vN V)) 0 im = f_X5_passMinute_j1 T c.1 c.2 ∧ (c.1 = nI (minMet V) ∧ tw im c.2 T (vN V) (metW V)) := by
      refine loopG (fun f m i => f_X5_passMinute_l2 T f (sOf (bgV V) (vN V)) i m) (fun c : Int32 × IM => f_X5_passMinute_j1 T c.1 c.2) 0 0 rfl (vN V) (by omega) (by omega) (fun i m => tw im m T (vN V) (fun t => if t < i then rollW V t else vT V t)) _ (fun f m hP => ?_) (fun f m i hi0 hi hP => Or.inr ?_) im ?_
      · obtain ⟨m', e, h'⟩ := stop_c (b := bgV V) (W := rollW V) v.2.2.2.2.1 h10 (tw_cg hP (fun t ht w hw => by rw [if_pos ht]))
        refine ⟨(nI (minMet V), m'), ?_, rfl, h'⟩
        show f_X5_passMinute_l2b T _ (sOf (bgV V) (vN V)) (nI (vN V)) m = _
        unfold f_X5_passMinute_l2b
        rw [hP.1 T (by omega), v.2.2.2.2.1, if_pos (Int32.le_refl _), e, Option.bind_some]
        rfl
      · have ib := inb_nI (show i < 10 by omega) (show 10 < 2 ^ 31 by decide)
        have hbt : bt (sOf (bgV V) (vN V)) i = bgV V i := by rw [bt_sOf (by omega) (by omega)]; simp [hi]
        by_cases c : bgV V i = true
        · have h6 : vT V i 6 = 1 := by unfold bgV at c; exact of_decide_eq_true c
          have okt := ok.2.2.2.1 i hi
          obtain ⟨c4, hc4, e4⟩ := rng_of (n := 29) 29 (by decide) okt.2.2.2.2.1.1 (okt.2.2.2.2.2.2.2 h6)
          have row : ∀ w, w < 8 → m (T + 5 + i) w = vT V i w := fun w hw => by
            rw [hP.2 i hi w hw]
            show (if i < i then rollW V i else vT V i) w = _
            rw [if_neg (Nat.lt_irrefl _)]
          have eT : ∀ a, a < T + 5 → m a = im a := fun a ha => hP.1 a (by omega)
          obtain ⟨m', er, o, r⟩ := rollOn_c (im := m) (T := T) (A := T + 5 + i) (c := c4) (mi := m T 7) (by omega) (by omega) (by omega) (fun k hk => by rw [eT _ (by omega), v.2.1 k hk]; exact ok.2.2.1 k hk) (by rw [row 6 (by decide)]; exact h6) (by rw [row 4 (by decide)]; exact e4) hc4
          refine ⟨m', ?_, tw_up hP hi o (fun w hw => ?_) (fun t ht => ?_)⟩
          · show f_X5_passMinute_l2b T _ (sOf (bgV V) (vN V)) (nI i) m = _
            unfold f_X5_passMinute_l2b f_X5_passMinute_j3
            rw [eT T (by omega), v.2.2.2.2.1, if_neg (nI_ge hi (by omega)), has_c (by omega), hbt, if_pos c, if_neg i10, if_pos ib, ix_nI (by omega), ← eT T (by omega), er, Option.bind_some, bnd_eq, nI_1]
          · rw [r w]
            show _ = (if i < i + 1 then rollW V i else vT V i) w
            rw [if_pos (by omega)]
            unfold rollW
            rw [if_pos h6, eT T (by omega), v.2.2.2.2.2.1, v.2.2.2.2.2.2.1, e7]
            refine pR_cg (fun k hk => ?_) (fun k hk => ?_) row (by rw [row 4 (by decide)]; exact e4) hc4 w hw
            · rw [eT _ (by omega)]; exact v.1 k hk
            · rw [eT _ (by omega)]; exact v.2.1 k hk
          · show (if t < i + 1 then rollW V t else vT V t) = if t < i then rollW V t else vT V t
            by_cases e : t < i
            · rw [if_pos e, if_pos (by omega)]
            · rw [if_neg e, if_neg (by omega)]
        · refine ⟨m, ?_, tw_cg hP (fun t ht w hw => ?_)⟩
          · show f_X5_passMinute_l2b T _ (sOf (bgV V) (vN V)) (nI i) m = _
            unfold f_X5_passMinute_l2b f_X5_passMinute_j3
            rw [hP.1 T (by omega), v.2.2.2.2.1, if_neg (nI_ge hi (by omega)), has_c (by omega), hbt, if_neg c, if_pos rfl, bnd_eq, nI_1]
          · show (if t < i then rollW V t else vT V t) w = (if t < i + 1 then rollW V t else vT V t) w
            by_cases e : t < i
            · rw [if_pos e, if_pos (by omega)]
            · rw [if_neg e]
              by_cases e2 : t = i
              · subst e2
                rw [if_pos (by omega), rollW_n (by simpa using c)]
              · rw [if_neg (by omega)]
      · refine tw_cg (tw_0 v) (fun t ht w hw => ?_)
        rw [if_neg (Nat.not_lt_zero _)]
    obtain ⟨c, e, c1, c2⟩ := key
    rw [e, c1]
    refine ⟨up c.2 T 7 (vM V + 1), ?_, RC_M (tw_RC v c2), fun a ha => by rw [up_row (by omega)]; exact c2.1 a (by omega)⟩
    unfold f_X5_passMinute_j1
    rw [bnd_eq, c2.1 T (by omega), e7]
