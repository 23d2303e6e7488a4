/-! one thing rolls for a minute -/
abbrev RS : Type := Nat × Int32 × Int32
def pCl (v : Int32) : Int32 := if 0 ≤ v then (if v ≤ 99 then v else 99) else 0
theorem cl_c (v : Int32) : jmax 0 (jmin 99 v) = pCl v := by
  unfold jmax jmin pCl
  by_cases h0 : 0 ≤ v
  · rw [if_pos h0]
    by_cases h9 : v ≤ 99
    · rw [if_pos h9]
      by_cases h : v < 99
      · rw [if_pos h]
        by_cases hz : 0 < v
        · rw [if_pos hz]
        · rw [if_neg hz]; exact Int32.le_antisymm h0 (Int32.not_lt.mp hz)
      · rw [if_neg h, if_pos (by decide)]
        exact (Int32.le_antisymm h9 (Int32.not_lt.mp h)).symm
    · rw [if_neg h9, if_neg (fun q => h9 (Int32.le_of_lt q)), if_pos (by decide)]
  · rw [if_neg h0]
    have h1 : v < 0 := Int32.not_le.mp h0
    have h2 : v < 99 := Int32.lt_trans h1 (by decide)
    rw [if_pos h2, if_neg (fun q => h0 (Int32.le_of_lt q))]
theorem cl_wi (v : Int32) : wi (pCl v) 0 99 := by
  unfold pCl
  by_cases h0 : 0 ≤ v
  · rw [if_pos h0]
    by_cases h9 : v ≤ 99
    · rw [if_pos h9]; exact ⟨h0, h9⟩
    · rw [if_neg h9]; unfold wi; decide
  · rw [if_neg h0]; unfold wi; decide
def pStep (G : Nat → Int32) (sh tp : Int32) (s : RS) : RS := if ¬ sh = 0 ∧ G (s.1 + 1) = 4 then (s.1, 0, s.2.2) else if s.1 + 1 = 30 then (30, 0, 0) else if G (s.1 + 1) = 3 ∧ ¬ s.2.1 ≤ tp then (s.1 + 1, s.2.1, 2) else (s.1 + 1, s.2.1, s.2.2)
def pGo (G : Nat → Int32) (sh tp : Int32) : Nat → RS → RS
  | 0, s => s
  | n + 1, s => if s.2.2 = 1 ∧ ¬ s.2.1 ≤ 0 then pGo G sh tp n (pStep G sh tp s) else s
def pFin (s : RS) : RS := if s.2.1 = 0 ∧ ¬ s.2.2 = 2 then (s.1, 0, 0) else s
def okS (s : RS) : Prop := s.1 ≤ 30 ∧ (s.2.2 = 1 → s.1 ≤ 29) ∧ (s.2.2 = 0 ∨ s.2.2 = 1 ∨ s.2.2 = 2) ∧ wi s.2.1 0 99
theorem w099 : wi (0 : Int32) 0 99 := by unfold wi; decide
theorem okS_step {G : Nat → Int32} {sh tp : Int32} {s : RS} (h : okS s) (h1 : s.2.2 = 1) : okS (pStep G sh tp s) := by
  obtain ⟨a, b, c, d⟩ := h
  have b := b h1
  unfold pStep
  by_cases c1 : ¬ sh = 0 ∧ G (s.1 + 1) = 4
  · rw [if_pos c1]; exact ⟨a, fun _ => b, c, w099⟩
  · rw [if_neg c1]
    by_cases c2 : s.1 + 1 = 30
    · rw [if_pos c2]; exact ⟨Nat.le_refl _, fun q => absurd q (show ¬ (0 : Int32) = 1 by decide), Or.inl rfl, w099⟩
    · rw [if_neg c2]
      by_cases c3 : G (s.1 + 1) = 3 ∧ ¬ s.2.1 ≤ tp
      · rw [if_pos c3]; exact ⟨by show s.1 + 1 ≤ 30; omega, fun q => absurd q (show ¬ (2 : Int32) = 1 by decide), Or.inr (Or.inr rfl), d⟩
      · rw [if_neg c3]; exact ⟨by show s.1 + 1 ≤ 30; omega, fun _ => by show s.1 + 1 ≤ 29; omega, c, d⟩
theorem okS_go {G : Nat → Int32} {sh tp : Int32} : ∀ {n : Nat} {s : RS}, okS s → okS (pGo G sh tp n s)
  | 0, s, h => h
  | n + 1, s, h => by
    show okS (if s.2.2 = 1 ∧ ¬ s.2.1 ≤ 0 then pGo G sh tp n (pStep G sh tp s) else s)
    by_cases c : s.2.2 = 1 ∧ ¬ s.2.1 ≤ 0
    · rw [if_pos c]; exact okS_go (okS_step h c.1)
    · rw [if_neg c]; exact h
theorem okS_fin {s : RS} (h : okS s) : okS (pFin s) := by
  obtain ⟨a, b, c, d⟩ := h
  unfold pFin
  by_cases c1 : s.2.1 = 0 ∧ ¬ s.2.2 = 2
  · rw [if_pos c1]; exact ⟨a, fun q => absurd q (show ¬ (0 : Int32) = 1 by decide), Or.inl rfl, w099⟩
  · rw [if_neg c1]; exact ⟨a, b, c, d⟩
theorem pGo_stop {G : Nat → Int32} {sh tp : Int32} {n : Nat} {s : RS} (h : ¬ (s.2.2 = 1 ∧ ¬ s.2.1 ≤ 0)) : pGo G sh tp n s = s := by
  cases n with
  | zero => rfl
  | succ n => show (if s.2.2 = 1 ∧ ¬ s.2.1 ≤ 0 then pGo G sh tp n (pStep G sh tp s) else s) = s; rw [if_neg h]
theorem pStep_cg {G G' : Nat → Int32} {sh tp : Int32} (hG : ∀ c, c < 31 → G c = G' c) {s : RS} (h : s.1 ≤ 29) : pStep G sh tp s = pStep G' sh tp s := by
  unfold pStep
  rw [hG (s.1 + 1) (by omega)]
theorem pGo_cg {G G' : Nat → Int32} {sh tp : Int32} (hG : ∀ c, c < 31 → G c = G' c) : ∀ {n : Nat} {s : RS}, okS s → pGo G sh tp n s = pGo G' sh tp n s
  | 0, s, h => rfl
  | n + 1, s, h => by
    show (if s.2.2 = 1 ∧ ¬ s.2.1 ≤ 0 then pGo G sh tp n (pStep G sh tp s) else s) = if s.2.2 = 1 ∧ ¬ s.2.1 ≤ 0 then pGo G' sh tp n (pStep G' sh tp s) else s
    by_cases c : s.2.2 = 1 ∧ ¬ s.2.1 ≤ 0
    · rw [if_pos c, if_pos c, pStep_cg hG (h.2.1 c.1), pGo_cg hG (by rw [← pStep_cg hG (h.2.1 c.1)]; exact okS_step h c.1)]
    · rw [if_neg c, if_neg c]
def pS0 (F G : Nat → Int32) (x : Nat → Int32) : Int32 := pCl (x 5 + pGain x (F (ix (x 4))) - pDrag x (G (ix (x 4))))
def pRoll (F G : Nat → Int32) (sh : Int32) (x : Nat → Int32) : RS := pFin (pGo G sh (pTop x) (ix (pS0 F G x / 10)) (ix (x 4), pS0 F G x, 1))
def rRow (x : Nat → Int32) (s : RS) : Nat → Int32 := fun w => if w = 4 then nI s.1 else if w = 5 then s.2.1 else if w = 6 then s.2.2 else x w
def pR (F G : Nat → Int32) (sh : Int32) (x : Nat → Int32) : Nat → Int32 := rRow x (pRoll F G sh x)
theorem okS_0 {F G : Nat → Int32} {x : Nat → Int32} {c : Nat} (h4 : x 4 = nI c) (hc : c ≤ 29) : okS (ix (x 4), pS0 F G x, 1) := by
  have e : ix (x 4) = c := by rw [h4]; exact ix_nI (by omega)
  refine ⟨by show ix (x 4) ≤ 30; omega, fun _ => by show ix (x 4) ≤ 29; omega, Or.inr (Or.inl rfl), cl_wi _⟩
theorem okS_roll {F G : Nat → Int32} {sh : Int32} {x : Nat → Int32} {c : Nat} (h4 : x 4 = nI c) (hc : c ≤ 29) : okS (pRoll F G sh x) := okS_fin (okS_go (okS_0 h4 hc))
theorem pRoll_cg {F F' G G' : Nat → Int32} {sh : Int32} {x y : Nat → Int32} {c : Nat} (hF : ∀ c, c < 31 → F c = F' c) (hG : ∀ c, c < 31 → G c = G' c) (hx : ∀ w, w < 8 → x w = y w) (h4 : x 4 = nI c) (hc : c ≤ 29) : pRoll F G sh x = pRoll F' G' sh y := by
  have e : ix (x 4) = c := by rw [h4]; exact ix_nI (by omega)
  have e0 : pS0 F G x = pS0 F' G' y := by
    unfold pS0
    rw [pGain_cg hx, pDrag_cg hx, ← hx 4 (by decide), ← hx 5 (by decide), e, hF c (by omega), hG c (by omega)]
  unfold pRoll
  rw [pGo_cg hG (okS_0 h4 hc), e0, pTop_cg hx, hx 4 (by decide)]
theorem pR_cg {F F' G G' : Nat → Int32} {sh : Int32} {x y : Nat → Int32} {c : Nat} (hF : ∀ c, c < 31 → F c = F' c) (hG : ∀ c, c < 31 → G c = G' c) (hx : ∀ w, w < 8 → x w = y w) (h4 : x 4 = nI c) (hc : c ≤ 29) : ∀ w, w < 8 → pR F G sh x w = pR F' G' sh y w := by
  intro w hw
  unfold pR rRow
  rw [pRoll_cg hF hG hx h4 hc, hx w hw]
theorem pR_ok {F G : Nat → Int32} {sh : Int32} {x : Nat → Int32} (h : OkT x) (h6 : x 6 = 1) : OkT (pR F G sh x) := by
  obtain ⟨o0, o1, o2, o3, o4, o5, o6, o7⟩ := h
  obtain ⟨c, hc, e⟩ := rng_of (n := 29) 29 (by decide) o4.1 (o7 h6)
  obtain ⟨a, b, d, f⟩ := okS_roll (F := F) (G := G) (sh := sh) e hc
  refine ⟨o0, o1, o2, o3, ?_, f, ?_, ?_⟩
  · show wi (nI _) 0 30
    exact ⟨nI_pos' (by omega), (nI_le_lit (n := 30) 30 (by decide) (by omega)).mpr a⟩
  · show wi (pRoll F G sh x).2.2 0 3
    rcases d with q | q | q <;> rw [q] <;> unfold wi <;> decide
  · intro q
    have := b q
    show nI _ ≤ 29
    exact (nI_le_lit (n := 29) 29 (by decide) (by omega)).mpr this
/-! the class -/
def stR (im : IM) (A : Nat) (s : RS) (m : IM) : Prop := (∀ a, a ≠ A → m a = im a) ∧ m A 4 = nI s.1 ∧ m A 5 = s.2.1 ∧ m A 6 = s.2.2 ∧ ∀ w, w ≠ 4 → w ≠ 5 → w ≠ 6 → m A w = im A w
theorem stR_row {im m : IM} {A : Nat} {s : RS} (h : stR im A s m) (w : Nat) : m A w = rRow (im A) s w := by
  obtain ⟨h1, h2, h3, h4, h5⟩ := h
  unfold rRow
  by_cases c4 : w = 4
  · subst c4; rw [if_pos rfl]; exact h2
  · rw [if_neg c4]
    by_cases c5 : w = 5
    · subst c5; rw [if_pos rfl]; exact h3
    · rw [if_neg c5]
      by_cases c6 : w = 6
      · subst c6; rw [if_pos rfl]; exact h4
      · rw [if_neg c6]; exact h5 w c4 c5 c6
theorem pTop_st {im m : IM} {A : Nat} {s : RS} (h : stR im A s m) : pTop (m A) = pTop (im A) := by
  unfold pTop
  rw [h.2.2.2.2 0 (by decide) (by decide) (by decide), h.2.2.2.2 3 (by decide) (by decide) (by decide)]
theorem stepOn_c {im m : IM} {T A : Nat} {sh : Int32} {s : RS} (hA : A ≠ T + 2) (h : stR im A s m) (hs : s.1 ≤ 29) : ∃ m', f_X5_stepOn T A sh m = some m' ∧ stR im A (pStep (im (T + 2)) sh (pTop (im A)) s) m' := by
  have ht := pTop_st h
  obtain ⟨h1, h2, h3, h4, h5⟩ := h
  have eG : m (T + 2) = im (T + 2) := h1 _ (Ne.symm hA)
  have j1 : f_X5_stepOn_j1 T A sh m = some (up m A 5 0) := rfl
  have st1 : stR im A (s.1, 0, s.2.2) (up m A 5 0) := ⟨fun a ha => by rw [up_row ha]; exact h1 a ha, by rw [up_ne (by decide)]; exact h2, up_same, by rw [up_ne (by decide)]; exact h4, fun w w4 w5 w6 => by rw [up_ne w5]; exact h5 w w4 w5 w6⟩
  have st2 : ∀ sp, sp = s.2.1 → stR im A (s.1 + 1, sp, s.2.2) (up m A 4 (nI (s.1 + 1))) := fun sp hsp => ⟨fun a ha => by rw [up_row ha]; exact h1 a ha, up_same, by rw [up_ne (by decide), h3, hsp], by rw [up_ne (by decide)]; exact h4, fun w w4 w5 w6 => by rw [up_ne w4]; exact h5 w w4 w5 w6⟩
  have j2 : ¬ (¬ sh = 0 ∧ im (T + 2) (s.1 + 1) = 4) → ∃ m', f_X5_stepOn_j2 T A sh m = some m' ∧ stR im A (pStep (im (T + 2)) sh (pTop (im A)) s) m' := by
    intro hn
    unfold f_X5_stepOn_j2 pStep
    rw [if_neg hn, h2, nI_1]
    simp only [bnd_eq, up_same]
    by_cases c2 : s.1 + 1 = 30
    · rw [if_pos c2, if_pos (by rw [c2]; rfl)]
      refine ⟨_, rfl, fun a ha => ?_, ?_, ?_, ?_, fun w w4 w5 w6 => ?_⟩
      · unfold f_X4_stop
        simp only [bnd_eq, up_row ha]
        exact h1 a ha
      · unfold f_X4_stop
        simp only [bnd_eq]
        rw [up_ne (by decide), up_ne (by decide), up_same, c2]
      · unfold f_X4_stop
        simp only [bnd_eq]
        rw [up_same]
      · unfold f_X4_stop
        simp only [bnd_eq]
        rw [up_ne (by decide), up_same]
      · unfold f_X4_stop
        simp only [bnd_eq]
        rw [up_ne w5, up_ne w6, up_ne w4]
        exact h5 w w4 w5 w6
    · have hne : ¬ nI (s.1 + 1) = 30 := by rw [nI_eq_lit (n := 30) 30 (by decide) (by omega)]; exact c2
      have eG2 : up m A 4 (nI (s.1 + 1)) (T + 2) = im (T + 2) := by rw [up_row (Ne.symm hA), eG]
      have e5 : up m A 4 (nI (s.1 + 1)) A 5 = s.2.1 := by rw [up_ne (by decide), h3]
      have eT : f_X4_bendLimit A (up m A 4 (nI (s.1 + 1))) = pTop (im A) := by
        rw [top_c, ← ht]
        unfold pTop
        rw [up_ne (by decide), up_ne (by decide)]
      rw [if_neg c2, if_neg hne, if_pos (inb_nI (show s.1 + 1 < 31 by omega) (by decide)), ix_nI (by omega), eG2, e5, eT]
      by_cases c3 : im (T + 2) (s.1 + 1) = 3
      · rw [if_pos c3]
        by_cases c4 : s.2.1 ≤ pTop (im A)
        · rw [if_pos c4, if_neg (fun q => q.2 c4)]
          exact ⟨_, rfl, st2 _ rfl⟩
        · rw [if_neg c4, if_pos ⟨c3, c4⟩]
          obtain ⟨g1, g2, g3, g4, g5⟩ := st2 _ rfl
          exact ⟨_, rfl, fun a ha => by rw [up_row ha]; exact g1 a ha, by rw [up_ne (by decide)]; exact g2, by rw [up_ne (by decide)]; exact g3, up_same, fun w w4 w5 w6 => by rw [up_ne w6]; exact g5 w w4 w5 w6⟩
      · rw [if_neg c3, if_neg (fun q => c3 q.1)]
        exact ⟨_, rfl, st2 _ rfl⟩
  unfold f_X5_stepOn
  rw [h2, if_neg (by rw [nI_ge_lit (n := 30) 30 (by decide) (by omega)]; omega)]
  by_cases c0 : sh = 0
  · rw [if_pos c0]
    exact j2 (fun q => q.1 c0)
  · rw [if_neg c0, nI_1, if_pos (inb_nI (show s.1 + 1 < 31 by omega) (by decide)), ix_nI (by omega), eG]
    by_cases c4 : im (T + 2) (s.1 + 1) = 4
    · rw [if_pos c4, j1]
      refine ⟨_, rfl, ?_⟩
      unfold pStep
      rw [if_pos ⟨c0, c4⟩]
      exact st1
    · rw [if_neg c4]
      exact j2 (fun q => c4 q.2)
theorem roll_end {im m : IM} {T A : Nat} {mi : Int32} {s : RS} (h : stR im A s m) (h0 : ¬ s.2.2 = 3) : ∃ m', f_X5_rollOn_j2 T A mi m = some m' ∧ stR im A (pFin s) m' := by
  obtain ⟨h1, h2, h3, h4, h5⟩ := id h
  unfold f_X5_rollOn_j2 pFin
  rw [h3, h4]
  by_cases c5 : s.2.1 = 0
  · rw [if_pos c5]
    by_cases c6 : s.2.2 = 2
    · rw [if_pos c6, if_neg (fun q => q.2 c6)]
      exact ⟨m, rfl, h⟩
    · rw [if_neg c6, if_pos ⟨c5, c6⟩]
      refine ⟨up (up m A 6 0) A 5 0, rfl, fun a ha => by rw [up_row ha, up_row ha]; exact h1 a ha, by rw [up_ne (by decide), up_ne (by decide)]; exact h2, up_same, by rw [up_ne (by decide), up_same], fun w w4 w5 w6 => by rw [up_ne w5, up_ne w6]; exact h5 w w4 w5 w6⟩
  · rw [if_neg c5, if_neg (fun q => c5 q.1)]
    exact ⟨m, rfl, h⟩
theorem rollOn_c {im : IM} {T A c : Nat} {mi : Int32} (hT : A ≠ T) (hT1 : A ≠ T + 1) (hT2 : A ≠ T + 2) (hG : ∀ c, c < 31 → wi (im (T + 2) c) 0 4) (h6 : im A 6 = 1) (h4 : im A 4 = nI c) (hc : c ≤ 29) : ∃ m, f_X5_rollOn T A mi im = some m ∧ ((∀ a, a ≠ A → m a = im a) ∧ ∀ w, m A w = pR (im (T + 1)) (im (T + 2)) (pSh (im T 5) (im T 6) mi) (im A) w) := by
  have ic : ix (im A 4) = c := by rw [h4]; exact ix_nI (by omega)
  have ok0 := okS_0 (F := im (T + 1)) (G := im (T + 2)) h4 hc
  obtain ⟨p, hp, ep⟩ := rng_of (n := 99) 99 (by decide) (cl_wi _).1 (cl_wi (im A 5 + pGain (im A) (im (T + 1) (ix (im A 4))) - pDrag (im A) (im (T + 2) (ix (im A 4))))).2
  have e0 : pS0 (im (T + 1)) (im (T + 2)) (im A) = nI p := ep
  have ed : nI p / 10 = nI (p / 10) := by rw [show (10 : Int32) = nI 10 from rfl, pk_div (by omega) (by omega) (by omega)]
  have en : ix (pS0 (im (T + 1)) (im (T + 2)) (im A) / 10) = p / 10 := by rw [e0, ed, ix_nI (by omega)]
  obtain ⟨sh, hsh⟩ : ∃ sh, sh = pSh (im T 5) (im T 6) mi := ⟨_, rfl⟩
  have e1 : f_X5_rollOn T A mi im = f_X5_rollOn_l1 T A mi xF sh (nI (p / 10)) 0 (up im A 5 (nI p)) := by
    unfold f_X5_rollOn
    rw [h4, if_pos (inb_nI (show c < 31 by omega) (by decide)), if_pos (inb_nI (show c < 31 by omega) (by decide)), ix_nI (by omega), drag_c (hG c (by omega)), Option.bind_some, gain_c, bnd_eq, bnd_eq, bnd_eq, bnd_eq, cl_c]
    rw [ic] at ep
    rw [ep, up_same, ed, shut_c, up_row (Ne.symm hT), ← hsh]
  rw [e1]
  have key : ∃ m, f_X5_rollOn_l1 T A mi xF sh (nI (p / 10)) 0 (up im A 5 (nI p)) = some m ∧ stR im A (pRoll (im (T + 1)) (im (T + 2)) sh (im A)) m := by
    refine loopG (fun f m i => f_X5_rollOn_l1 T A mi f sh (nI (p / 10)) i m) some 0 0 rfl (p / 10) (by omega) (by omega) (fun i m => ∃ s, stR im A s m ∧ okS s ∧ pGo (im (T + 2)) sh (pTop (im A)) (p / 10 - i) s = pGo (im (T + 2)) sh (pTop (im A)) (ix (pS0 (im (T + 1)) (im (T + 2)) (im A) / 10)) (ix (im A 4), pS0 (im (T + 1)) (im (T + 2)) (im A), 1)) _ (fun f m hP => ?_) (fun f m i hi0 hi hP => ?_) _ ?_
    · obtain ⟨s, s1, s2, s3⟩ := hP
      rw [Nat.sub_self] at s3
      have s3 : s = _ := s3
      obtain ⟨m', e, st⟩ := roll_end (T := T) (mi := mi) s1 (by rcases s2.2.2.1 with q | q | q <;> rw [q] <;> decide)
      refine ⟨m', ?_, ?_⟩
      · show f_X5_rollOn_l1b T A mi _ sh (nI (p / 10)) (nI (p / 10)) m = _
        unfold f_X5_rollOn_l1b
        rw [if_pos (Int32.le_refl _), e]
      · unfold pRoll
        rw [← s3]
        exact st
    · obtain ⟨s, s1, s2, s3⟩ := hP
      have e : f_X5_rollOn_l1 T A mi (f + 1) sh (nI (p / 10)) (nI i) m = if s.2.2 = 1 then if s.2.1 ≤ 0 then f_X5_rollOn_j2 T A mi m else (f_X5_stepOn T A sh m).bind fun r7 => f_X5_rollOn_l1 T A mi f sh (nI (p / 10)) (nI (i + 1)) r7 else f_X5_rollOn_j2 T A mi m := by
        show f_X5_rollOn_l1b T A mi _ sh (nI (p / 10)) (nI i) m = _
        unfold f_X5_rollOn_l1b
        rw [if_neg (nI_ge hi (by omega)), s1.2.2.2.1, s1.2.2.1]
        simp only [bnd_eq, nI_1]
      have stop : ¬ (s.2.2 = 1 ∧ ¬ s.2.1 ≤ 0) → f_X5_rollOn_l1 T A mi (f + 1) sh (nI (p / 10)) (nI i) m = f_X5_rollOn_j2 T A mi m → ∃ c, f_X5_rollOn_l1 T A mi (f + 1) sh (nI (p / 10)) (nI i) m = some c ∧ stR im A (pRoll (im (T + 1)) (im (T + 2)) sh (im A)) c := by
        intro hn e2
        obtain ⟨m', e3, st⟩ := roll_end (T := T) (mi := mi) s1 (by rcases s2.2.2.1 with q | q | q <;> rw [q] <;> decide)
        refine ⟨m', by rw [e2, e3], ?_⟩
        rw [pGo_stop hn] at s3
        unfold pRoll
        rw [← s3]
        exact st
      by_cases c1 : s.2.2 = 1
      · by_cases c2 : s.2.1 ≤ 0
        · exact Or.inl (stop (fun q => q.2 c2) (by rw [e, if_pos c1, if_pos c2]))
        · obtain ⟨m', e3, st⟩ := stepOn_c (sh := sh) hT2 s1 (s2.2.1 c1)
          refine Or.inr ⟨m', ?_, _, st, okS_step s2 c1, ?_⟩
          · show f_X5_rollOn_l1 T A mi (f + 1) sh (nI (p / 10)) (nI i) m = _
            rw [e, if_pos c1, if_neg c2, e3, Option.bind_some]
          · rw [← s3, show p / 10 - i = (p / 10 - (i + 1)) + 1 by omega]
            show _ = (if s.2.2 = 1 ∧ ¬ s.2.1 ≤ 0 then pGo _ _ _ _ (pStep _ _ _ s) else s)
            rw [if_pos ⟨c1, c2⟩]
      · exact Or.inl (stop (fun q => c1 q.1) (by rw [e, if_neg c1]))
    · refine ⟨(ix (im A 4), pS0 (im (T + 1)) (im (T + 2)) (im A), 1), ⟨fun a ha => up_row ha, ?_, ?_, ?_, fun w w4 w5 w6 => up_ne w5⟩, ok0, ?_⟩
      · rw [up_ne (by decide), h4, ix_nI (by omega)]
      · rw [up_same, e0]
      · rw [up_ne (by decide), h6]
      · rw [Nat.sub_zero, en]
  obtain ⟨m, e2, st⟩ := key
  refine ⟨m, e2, st.1, fun w => ?_⟩
  rw [stR_row st w, ← hsh]
  rfl
/-! the reference -/
theorem pTop_83 (im : IM) (t : Nat) : pTop (rw83 im t) = pTop (rw83 im t) := rfl
theorem rolls_r {im : IM} {t c : Nat} {mi : Int32} (ht : t < 10) (h4 : im 83 (67 + 9 * t + 4) = nI c) (hc : c ≤ 29) : ∃ m, f_X7_rolls (nI t) mi im = some m ∧ ((∀ a, a ≠ 83 → m a = im a) ∧ (∀ k, k ≠ 67 + 9 * t + 4 → k ≠ 67 + 9 * t + 5 → k ≠ 67 + 9 * t + 6 → m 83 k = im 83 k) ∧ ∀ w, m 83 (67 + 9 * t + w) = pR (fun c => im 83 (5 + c)) (fun c => im 83 (36 + c)) (pSh (im 83 2) (im 83 3) mi) (rw83 im t) w) := by
  have h4' : rw83 im t 4 = nI c := h4
  have ic : ix (rw83 im t 4) = c := by rw [h4']; exact ix_nI (by omega)
  obtain ⟨F, hF⟩ : ∃ F : Nat → Int32, F = fun c => im 83 (5 + c) := ⟨_, rfl⟩
  obtain ⟨G, hG⟩ : ∃ G : Nat → Int32, G = fun c => im 83 (36 + c) := ⟨_, rfl⟩
  have ok0 := okS_0 (F := F) (G := G) h4' hc
  obtain ⟨sh, hsh⟩ : ∃ sh, sh = pSh (im 83 2) (im 83 3) mi := ⟨_, rfl⟩
  obtain ⟨p, hp, ep⟩ := rng_of (n := 99) 99 (by decide) (cl_wi _).1 (cl_wi (rw83 im t 5 + pGain (rw83 im t) (F (ix (rw83 im t 4))) - pDrag (rw83 im t) (G (ix (rw83 im t 4))))).2
  have e0 : pS0 F G (rw83 im t) = nI p := ep
  have ed : nI p / 10 = nI (p / 10) := by rw [show (10 : Int32) = nI 10 from rfl, pk_div (by omega) (by omega) (by omega)]
  have en : ix (pS0 F G (rw83 im t) / 10) = p / 10 := by rw [e0, ed, ix_nI (by omega)]
  have e1 : f_X7_rolls (nI t) mi im = f_X7_rolls_l2 (nI t) mi xF (nI c) (nI p) 1 (nI (p / 10)) im := by
    have ev : f_X7_rolls (nI t) mi im = f_X7_rolls_j1 (nI t) mi (nI c) (pCl (rw83 im t 5 + pGain (rw83 im t) (im 83 (5 + c)) - pDrag (rw83 im t) (im 83 (36 + c)))) im := by
      unfold f_X7_rolls pCl
      rw [its_w (w := 4) 4 rfl ht (by decide), Option.bind_some, its_w (w := 5) 5 rfl ht (by decide), Option.bind_some, h4, gain_r ht (by omega), Option.bind_some, drag_r ht (by omega), Option.bind_some, bnd_eq]
      by_cases c0 : 0 ≤ im 83 (67 + 9 * t + 5) + pGain (rw83 im t) (im 83 (5 + c)) - pDrag (rw83 im t) (im 83 (36 + c))
      · rw [if_pos c0, if_pos (show 0 ≤ rw83 im t 5 + pGain (rw83 im t) (im 83 (5 + c)) - pDrag (rw83 im t) (im 83 (36 + c)) from c0)]
        by_cases c9 : im 83 (67 + 9 * t + 5) + pGain (rw83 im t) (im 83 (5 + c)) - pDrag (rw83 im t) (im 83 (36 + c)) ≤ 99
        · rw [if_pos c9, if_pos (show rw83 im t 5 + pGain (rw83 im t) (im 83 (5 + c)) - pDrag (rw83 im t) (im 83 (36 + c)) ≤ 99 from c9)]; rfl
        · rw [if_neg c9, if_neg (show ¬ rw83 im t 5 + pGain (rw83 im t) (im 83 (5 + c)) - pDrag (rw83 im t) (im 83 (36 + c)) ≤ 99 from c9)]
      · rw [if_neg c0, if_neg (show ¬ 0 ≤ rw83 im t 5 + pGain (rw83 im t) (im 83 (5 + c)) - pDrag (rw83 im t) (im 83 (36 + c)) from c0)]
    rw [ev]
    have ep' : pCl (rw83 im t 5 + pGain (rw83 im t) (im 83 (5 + c)) - pDrag (rw83 im t) (im 83 (36 + c))) = nI p := by
      rw [← ep, ic, hF, hG]
    rw [ep']
    unfold f_X7_rolls_j1
    rw [bnd_eq, ed]
  rw [e1]
  have key : ∃ s : RS, f_X7_rolls_l2 (nI t) mi xF (nI c) (nI p) 1 (nI (p / 10)) im = f_X7_rolls_j3 (nI t) mi (nI s.1) s.2.1 s.2.2 im ∧ (okS s ∧ s = pGo G sh (pTop (rw83 im t)) (p / 10) (c, nI p, 1)) := by
    refine loopD (fun f (s : RS) k => f_X7_rolls_l2 (nI t) mi f (nI s.1) s.2.1 s.2.2 k im) (fun s : RS => f_X7_rolls_j3 (nI t) mi (nI s.1) s.2.1 s.2.2 im) (p / 10) (by omega) (fun i s => okS s ∧ pGo G sh (pTop (rw83 im t)) i s = pGo G sh (pTop (rw83 im t)) (p / 10) (c, nI p, 1)) _ (fun f s hP => ⟨s, ?_, hP⟩) (fun f s i hi hP => ?_) (c, nI p, 1) ⟨by rw [e0, ic] at ok0; exact ok0, rfl⟩
    · show f_X7_rolls_l2b (nI t) mi _ (nI s.1) s.2.1 s.2.2 (nI 0) im = _
      unfold f_X7_rolls_l2b
      rw [if_pos (by decide)]
    · obtain ⟨s2, s3⟩ := hP
      by_cases c1 : s.2.2 = 1
      · by_cases c2 : s.2.1 ≤ 0
        · refine Or.inl ⟨s, ?_, s2, ?_⟩
          · show f_X7_rolls_l2b (nI t) mi _ (nI s.1) s.2.1 s.2.2 (nI (i + 1)) im = _
            unfold f_X7_rolls_l2b
            rw [if_neg (nI_nle (by omega) (by omega)), if_pos c1, if_pos c2]
          · exact (pGo_stop (fun q => q.2 c2)).symm.trans s3
        · have hs := s2.2.1 c1
          refine Or.inr ⟨pStep G sh (pTop (rw83 im t)) s, ?_, okS_step s2 c1, ?_⟩
          · show f_X7_rolls_l2b (nI t) mi _ (nI s.1) s.2.1 s.2.2 (nI (i + 1)) im = f_X7_rolls_l2 (nI t) mi f (nI (pStep G sh (pTop (rw83 im t)) s).1) (pStep G sh (pTop (rw83 im t)) s).2.1 (pStep G sh (pTop (rw83 im t)) s).2.2 (nI i) im
            unfold f_X7_rolls_l2b f_X7_rolls_j7
            have eg : im 83 (36 + s.1 + 1) = G (s.1 + 1) := by rw [hG]; rfl
            rw [if_neg (nI_nle (by omega) (by omega)), if_pos c1, if_neg c2, lit_add 36 (k := 36) rfl, nI_1, if_pos (inb_nI (show 36 + s.1 + 1 < 167 by omega) (by decide)), ix_nI (by omega), eg, shut_r, ← hsh, pk_m1, bnd_eq]
            have j6 : ¬ (¬ sh = 0 ∧ G (s.1 + 1) = 4) → f_X7_rolls_j6 (nI t) mi (f_X7_rolls_l2 (nI t) mi f) (nI s.1) s.2.1 s.2.2 (nI (i + 1)) im = f_X7_rolls_l2 (nI t) mi f (nI (pStep G sh (pTop (rw83 im t)) s).1) (pStep G sh (pTop (rw83 im t)) s).2.1 (pStep G sh (pTop (rw83 im t)) s).2.2 (nI i) im := by
              intro hn
              unfold f_X7_rolls_j6 f_X7_rolls_j7 pStep
              have eg2 : im 83 (36 + (s.1 + 1)) = G (s.1 + 1) := by rw [hG]
              rw [if_neg hn, nI_1, bnd_eq, pk_m1]
              simp only [bnd_eq]
              by_cases c3 : s.1 + 1 = 30
              · rw [if_pos c3, if_pos (by rw [c3]; rfl), c3]
              · rw [if_neg c3, if_neg (by rw [nI_eq_lit (n := 30) 30 (by decide) (by omega)]; exact c3), lit_add 36 (k := 36) rfl, if_pos (inb_nI (show 36 + (s.1 + 1) < 167 by omega) (by decide)), ix_nI (by omega), eg2]
                by_cases c4 : G (s.1 + 1) = 3
                · rw [if_pos c4, top_r ht, Option.bind_some]
                  by_cases c5 : s.2.1 ≤ pTop (rw83 im t)
                  · rw [if_pos c5, if_neg (fun q => q.2 c5)]
                  · rw [if_neg c5, if_pos ⟨c4, c5⟩]
                · rw [if_neg c4, if_neg (fun q => c4 q.1)]
            by_cases c4 : G (s.1 + 1) = 4
            · rw [if_pos c4]
              by_cases c5 : sh = 0
              · rw [if_pos c5]; exact j6 (fun q => q.1 c5)
              · rw [if_neg c5]
                unfold pStep
                rw [if_pos ⟨c5, c4⟩]
            · rw [if_neg c4]; exact j6 (fun q => c4 q.2)
          · rw [← s3]
            show _ = (if s.2.2 = 1 ∧ ¬ s.2.1 ≤ 0 then pGo _ _ _ _ (pStep _ _ _ s) else s)
            rw [if_pos ⟨c1, c2⟩]
      · refine Or.inl ⟨s, ?_, s2, ?_⟩
        · show f_X7_rolls_l2b (nI t) mi _ (nI s.1) s.2.1 s.2.2 (nI (i + 1)) im = _
          unfold f_X7_rolls_l2b
          rw [if_neg (nI_nle (by omega) (by omega)), if_neg c1]
        · exact (pGo_stop (fun q => c1 q.1)).symm.trans s3
  obtain ⟨s, e2, s1, s2⟩ := key
  rw [e2]
  have ef : pRoll F G sh (rw83 im t) = pFin s := by
    unfold pRoll
    rw [en, e0, ic, ← s2]
  have e3 : f_X7_rolls_j3 (nI t) mi (nI s.1) s.2.1 s.2.2 im = some (up (up (up im 83 (67 + 9 * t + 4) (nI (pFin s).1)) 83 (67 + 9 * t + 5) (pFin s).2.1) 83 (67 + 9 * t + 6) (pFin s).2.2) := by
    have i6 := at_in (t := t) (w := 6) 6 rfl ht (by decide)
    have x6 := at_ix (t := t) (w := 6) 6 rfl ht (by decide)
    unfold f_X7_rolls_j3 f_X7_rolls_j4 f_X7_rolls_j5
    rw [if_pos (at_in (w := 4) 4 rfl ht (by decide)), at_ix (w := 4) 4 rfl ht (by decide), bnd_eq, if_pos (at_in (w := 5) 5 rfl ht (by decide)), at_ix (w := 5) 5 rfl ht (by decide), bnd_eq]
    rcases s1.2.2.1 with q | q | q
    · rw [if_neg (by rw [q]; decide), if_pos i6, x6, bnd_eq]
      by_cases c5 : s.2.1 = 0
      · have pf : pFin s = (s.1, 0, 0) := by unfold pFin; rw [if_pos ⟨c5, by rw [q]; decide⟩]
        rw [pf, q, c5]
      · have pf : pFin s = s := by unfold pFin; rw [if_neg (fun z => c5 z.1)]
        rw [pf]
    · rw [if_pos q]
      by_cases c5 : s.2.1 = 0
      · have pf : pFin s = (s.1, 0, 0) := by unfold pFin; rw [if_pos ⟨c5, by rw [q]; decide⟩]
        rw [if_pos c5, if_pos i6, x6, bnd_eq, pf, c5]
      · have pf : pFin s = s := by unfold pFin; rw [if_neg (fun z => c5 z.1)]
        rw [if_neg c5, if_pos i6, x6, bnd_eq, pf]
    · have pf : pFin s = s := by unfold pFin; rw [if_neg (fun z => z.2 q)]
      rw [if_neg (by rw [q]; decide), if_pos i6, x6, bnd_eq, pf]
  refine ⟨_, e3, fun a ha => by rw [up_row ha, up_row ha, up_row ha], fun k k4 k5 k6 => by rw [up_ne k6, up_ne k5, up_ne k4], fun w => ?_⟩
  rw [← hF, ← hG, ← hsh]
  unfold pR rRow
  rw [ef]
  by_cases c6 : w = 6
  · subst c6; rw [up_same]; rfl
  · rw [up_ne (by omega)]
    by_cases c5 : w = 5
    · subst c5; rw [up_same]; rfl
    · rw [up_ne (by omega)]
      by_cases c4 : w = 4
      · subst c4; rw [up_same]; rfl
      · rw [up_ne (by omega), if_neg c4, if_neg c5, if_neg c6]
        rfl
