/-! a roll alone -/
abbrev AS : Type := (Nat → Int32) × Int32 × Int32
def alS (F G : Nat → Int32) (A B M : Int32) (i : Nat) (s : AS) : AS := (pR F G (pSh A B (M + nI i)) s.1, jmax s.2.1 (pR F G (pSh A B (M + nI i)) s.1 5), if pR F G (pSh A B (M + nI i)) s.1 6 = 2 then s.2.2 else s.2.2 ||| jshl 1 (pR F G (pSh A B (M + nI i)) s.1 4))
def alGo (F G : Nat → Int32) (A B M : Int32) : Nat → Nat → AS → Nat × AS
  | 0, i, s => (i, s)
  | d + 1, i, s => if s.1 6 = 1 then alGo F G A B M d (i + 1) (alS F G A B M i s) else (i, s)
def letRow (x : Nat → Int32) (sp : Int32) : Nat → Int32 := fun w => if w = 5 then sp else if w = 6 then 1 else x w
def al0 (x : Nat → Int32) (sp : Int32) : AS := if x 6 = 0 then (letRow x sp, sp, jshl 1 (x 4)) else (x, x 5, jshl 1 (x 4))
def alR (F G : Nat → Int32) (A B M : Int32) (x : Nat → Int32) (sp : Int32) : Nat × AS := alGo F G A B M 200 0 (al0 x sp)
def rok (x : Nat → Int32) : Prop := x 6 = 1 → ∃ c, c ≤ 29 ∧ x 4 = nI c
theorem alGo_stop {F G : Nat → Int32} {A B M : Int32} {d i : Nat} {s : AS} (h : ¬ s.1 6 = 1) : alGo F G A B M d i s = (i, s) := by
  cases d with
  | zero => rfl
  | succ d => show (if s.1 6 = 1 then _ else (i, s)) = _; rw [if_neg h]
theorem rok_R {F G : Nat → Int32} {sh : Int32} {x : Nat → Int32} (h : rok x) (h6 : x 6 = 1) : rok (pR F G sh x) := by
  obtain ⟨c, hc, e⟩ := h h6
  intro q
  exact ⟨_, (okS_roll (F := F) (G := G) (sh := sh) e hc).2.1 q, rfl⟩
theorem letGo_row {im : IM} {A a : Nat} {sp : Int32} (h : a ≠ A) : f_X4_letGo A sp im a = im a := by
  unfold f_X4_letGo
  simp only [bnd_eq, up_row h]
theorem letGo_w {im : IM} {A w : Nat} {sp : Int32} : f_X4_letGo A sp im A w = letRow (im A) sp w := by
  unfold f_X4_letGo letRow
  simp only [bnd_eq]
  by_cases c5 : w = 5
  · subst c5; rw [up_same, if_pos rfl]
  · rw [up_ne c5, if_neg c5]
    by_cases c6 : w = 6
    · subst c6; rw [up_same, if_pos rfl]
    · rw [up_ne c6, if_neg c6]
def relC (im m : IM) (i : Nat) (s : AS) : Prop := (∀ a, a ≠ 61 → a ≠ 62 → m a = im a) ∧ m 61 1 = nI i ∧ m 61 2 = s.2.1 ∧ m 61 3 = s.2.2 ∧ ∀ w, w < 8 → m 62 w = s.1 w
theorem run_c {im : IM} {T Q : Nat} {sp : Int32} {F G x : Nat → Int32} {A B M : Int32} (hT : T + 15 ≤ 61) (hQ : Q ≠ 62) (hF : ∀ c, c < 31 → im (T + 1) c = F c) (hG : ∀ c, c < 31 → im (T + 2) c = G c) (hGw : ∀ c, c < 31 → wi (G c) 0 4) (hA : im T 5 = A) (hB : im T 6 = B) (hM : im T 7 = M) (hx : ∀ w, w < 8 → im Q w = x w) (h6 : x 6 = 0 ∨ x 6 = 1) {c : Nat} (h4 : x 4 = nI c) (hc : c ≤ 29) : ∃ m, f_X2_runFrom T Q sp im = some m ∧ relC im m (alR F G A B M x sp).1 (alR F G A B M x sp).2 := by
  have fin : ∀ m0 : IM, (∀ a, a ≠ 62 → m0 a = im a) → (∀ w, w < 8 → m0 62 w = (al0 x sp).1 w) → (al0 x sp).2.1 = (al0 x sp).1 5 → (al0 x sp).2.2 = jshl 1 ((al0 x sp).1 4) → rok (al0 x sp).1 → ∃ m, f_X2_runFrom_j1 T Q sp m0 = some m ∧ relC im m (alR F G A B M x sp).1 (alR F G A B M x sp).2 := by
    intro m0 o r e5 e4 rk
    unfold f_X2_runFrom_j1
    simp only [bnd_eq]
    refine loopM (fun f (a : Nat × AS × IM) => f_X2_runFrom_l2 T Q sp f a.2.2) some (fun a => a.1 ≤ 200 ∧ rok a.2.1.1 ∧ relC im a.2.2 a.1 a.2.1 ∧ alGo F G A B M (200 - a.1) a.1 a.2.1 = alR F G A B M x sp) (fun a => 200 - a.1) (fun m => relC im m (alR F G A B M x sp).1 (alR F G A B M x sp).2) (fun f a hP => ?_) xF (0, al0 x sp, up (up (up m0 61 2 (m0 62 5)) 61 3 (jshl 1 (up m0 61 2 (m0 62 5) 62 4))) 61 1 0) (by show 200 - 0 < xF; unfold xF; omega) ⟨Nat.zero_le _, rk, ⟨fun a h1 h2 => ?_, ?_, ?_, ?_, fun w hw => ?_⟩, rfl⟩
    · obtain ⟨i, s, m⟩ := a
      obtain ⟨p1, p2, ⟨q1, q2, q3, q4, q5⟩, p4⟩ := hP
      have p1 : i ≤ 200 := p1
      have p2 : rok s.1 := p2
      have p4 : alGo F G A B M (200 - i) i s = alR F G A B M x sp := p4
      have q1 : ∀ a, a ≠ 61 → a ≠ 62 → m a = im a := q1
      have q2 : m 61 1 = nI i := q2
      have q3 : m 61 2 = s.2.1 := q3
      have q4 : m 61 3 = s.2.2 := q4
      have q5 : ∀ w, w < 8 → m 62 w = s.1 w := q5
      have done : alGo F G A B M (200 - i) i s = (i, s) → f_X2_runFrom_l2 T Q sp (f + 1) m = some m → ∃ c, f_X2_runFrom_l2 T Q sp (f + 1) m = some c ∧ relC im c (alR F G A B M x sp).1 (alR F G A B M x sp).2 := by
        intro h1 h2
        rw [h1] at p4
        rw [← p4]
        exact ⟨m, h2, q1, q2, q3, q4, q5⟩
      show (∃ c, f_X2_runFrom_l2 T Q sp (f + 1) m = some c ∧ _) ∨ ∃ a' : Nat × AS × IM, f_X2_runFrom_l2 T Q sp (f + 1) m = f_X2_runFrom_l2 T Q sp f a'.2.2 ∧ _
      by_cases c2 : i = 200
      · subst c2
        refine Or.inl (done rfl ?_)
        show f_X2_runFrom_l2b T Q sp _ m = _
        unfold f_X2_runFrom_l2b
        rw [q2, if_pos (by decide)]
      · have n200 : ¬ (200 : Int32) ≤ nI i := by rw [nI_ge_lit (n := 200) 200 (by decide) (by omega)]; omega
        by_cases c1 : s.1 6 = 1
        · obtain ⟨k, hk, ek⟩ := p2 c1
          obtain ⟨m1, e1, o1, r1⟩ := rollOn_c (im := m) (T := T) (A := 62) (c := k) (mi := M + nI i) (by omega) (by omega) (by omega) (fun c hc => by rw [q1 _ (by omega) (by omega), hG c hc]; exact hGw c hc) (by rw [q5 6 (by decide)]; exact c1) (by rw [q5 4 (by decide)]; exact ek) hk
          have r2 : ∀ w, w < 8 → m1 62 w = pR F G (pSh A B (M + nI i)) s.1 w := fun w hw => by
            rw [r1 w, q1 T (by omega) (by omega), hA, hB]
            exact pR_cg (fun c hc => by rw [q1 _ (by omega) (by omega)]; exact hF c hc) (fun c hc => by rw [q1 _ (by omega) (by omega)]; exact hG c hc) q5 (by rw [q5 4 (by decide)]; exact ek) hk w hw
          have o61 : m1 61 = m 61 := o1 61 (by decide)
          have e0 : f_X2_runFrom_l2 T Q sp (f + 1) m = if pR F G (pSh A B (M + nI i)) s.1 6 = 2 then f_X2_runFrom_l2 T Q sp f (up (up m1 61 1 (nI (i + 1))) 61 2 (alS F G A B M i s).2.1) else f_X2_runFrom_l2 T Q sp f (up (up (up m1 61 1 (nI (i + 1))) 61 2 (alS F G A B M i s).2.1) 61 3 (s.2.2 ||| jshl 1 (pR F G (pSh A B (M + nI i)) s.1 4))) := by
            show f_X2_runFrom_l2b T Q sp _ m = _
            unfold f_X2_runFrom_l2b
            rw [q2, if_neg n200, q5 6 (by decide), if_pos c1, q1 T (by omega) (by omega), hM, e1, Option.bind_some]
            simp only [bnd_eq]
            rw [o61, q2, nI_1, up_ne (show (2 : Nat) ≠ 1 by decide), o61, q3]
            simp only [up_row (show (62 : Nat) ≠ 61 by decide)]
            rw [r2 5 (by decide), r2 6 (by decide), r2 4 (by decide), up_ne (show (3 : Nat) ≠ 2 by decide), up_ne (show (3 : Nat) ≠ 1 by decide), o61, q4]
            rfl
          have nx : alGo F G A B M (200 - (i + 1)) (i + 1) (alS F G A B M i s) = alR F G A B M x sp := by
            rw [← p4, show 200 - i = (200 - (i + 1)) + 1 by omega]
            show _ = if s.1 6 = 1 then alGo F G A B M (200 - (i + 1)) (i + 1) (alS F G A B M i s) else (i, s)
            rw [if_pos c1]
          have rk2 : rok (alS F G A B M i s).1 := rok_R p2 c1
          have os : ∀ a, a ≠ 61 → a ≠ 62 → m1 a = im a := fun a h1 h2 => (o1 a h2).trans (q1 a h1 h2)
          by_cases c6 : pR F G (pSh A B (M + nI i)) s.1 6 = 2
          · rw [if_pos c6] at e0
            refine Or.inr ⟨(i + 1, alS F G A B M i s, up (up m1 61 1 (nI (i + 1))) 61 2 (alS F G A B M i s).2.1), e0, ⟨by show i + 1 ≤ 200; omega, rk2, ⟨fun a h1 h2 => ?_, ?_, ?_, ?_, fun w hw => ?_⟩, nx⟩, by show 200 - (i + 1) < 200 - i; omega⟩
            · show up (up m1 61 1 (nI (i + 1))) 61 2 (alS F G A B M i s).2.1 a = im a
              rw [up_row h1, up_row h1]; exact os a h1 h2
            · show up (up m1 61 1 (nI (i + 1))) 61 2 (alS F G A B M i s).2.1 61 1 = _
              rw [up_ne (by decide), up_same]
            · show up (up m1 61 1 (nI (i + 1))) 61 2 (alS F G A B M i s).2.1 61 2 = (alS F G A B M i s).2.1
              exact up_same
            · show up (up m1 61 1 (nI (i + 1))) 61 2 (alS F G A B M i s).2.1 61 3 = (alS F G A B M i s).2.2
              rw [up_ne (by decide), up_ne (by decide), o61, q4]
              show _ = (if pR F G (pSh A B (M + nI i)) s.1 6 = 2 then s.2.2 else s.2.2 ||| jshl 1 (pR F G (pSh A B (M + nI i)) s.1 4))
              rw [if_pos c6]
            · show up (up m1 61 1 (nI (i + 1))) 61 2 (alS F G A B M i s).2.1 62 w = _
              rw [up_row (by decide), up_row (by decide)]
              exact r2 w hw
          · rw [if_neg c6] at e0
            refine Or.inr ⟨(i + 1, alS F G A B M i s, up (up (up m1 61 1 (nI (i + 1))) 61 2 (alS F G A B M i s).2.1) 61 3 (s.2.2 ||| jshl 1 (pR F G (pSh A B (M + nI i)) s.1 4))), e0, ⟨by show i + 1 ≤ 200; omega, rk2, ⟨fun a h1 h2 => ?_, ?_, ?_, ?_, fun w hw => ?_⟩, nx⟩, by show 200 - (i + 1) < 200 - i; omega⟩
            · show up (up (up m1 61 1 (nI (i + 1))) 61 2 (alS F G A B M i s).2.1) 61 3 (s.2.2 ||| jshl 1 (pR F G (pSh A B (M + nI i)) s.1 4)) a = im a
              rw [up_row h1, up_row h1, up_row h1]; exact os a h1 h2
            · show up (up (up m1 61 1 (nI (i + 1))) 61 2 (alS F G A B M i s).2.1) 61 3 (s.2.2 ||| jshl 1 (pR F G (pSh A B (M + nI i)) s.1 4)) 61 1 = _
              rw [up_ne (by decide), up_ne (by decide), up_same]
            · show up (up (up m1 61 1 (nI (i + 1))) 61 2 (alS F G A B M i s).2.1) 61 3 (s.2.2 ||| jshl 1 (pR F G (pSh A B (M + nI i)) s.1 4)) 61 2 = _
              rw [up_ne (by decide), up_same]
            · show up (up (up m1 61 1 (nI (i + 1))) 61 2 (alS F G A B M i s).2.1) 61 3 (s.2.2 ||| jshl 1 (pR F G (pSh A B (M + nI i)) s.1 4)) 61 3 = (alS F G A B M i s).2.2
              rw [up_same]
              show (s.2.2 ||| jshl 1 (pR F G (pSh A B (M + nI i)) s.1 4)) = (if pR F G (pSh A B (M + nI i)) s.1 6 = 2 then s.2.2 else s.2.2 ||| jshl 1 (pR F G (pSh A B (M + nI i)) s.1 4))
              rw [if_neg c6]
            · show up (up (up m1 61 1 (nI (i + 1))) 61 2 (alS F G A B M i s).2.1) 61 3 (s.2.2 ||| jshl 1 (pR F G (pSh A B (M + nI i)) s.1 4)) 62 w = _
              rw [up_row (by decide), up_row (by decide), up_row (by decide)]
              exact r2 w hw
        · refine Or.inl (done (alGo_stop c1) ?_)
          show f_X2_runFrom_l2b T Q sp _ m = _
          unfold f_X2_runFrom_l2b
          rw [q2, if_neg n200, q5 6 (by decide), if_neg c1]
    · show up (up (up m0 61 2 (m0 62 5)) 61 3 (jshl 1 (up m0 61 2 (m0 62 5) 62 4))) 61 1 0 a = im a
      rw [up_row h1, up_row h1, up_row h1]; exact o a h2
    · show up (up (up m0 61 2 (m0 62 5)) 61 3 (jshl 1 (up m0 61 2 (m0 62 5) 62 4))) 61 1 0 61 1 = 0
      exact up_same
    · show up (up (up m0 61 2 (m0 62 5)) 61 3 (jshl 1 (up m0 61 2 (m0 62 5) 62 4))) 61 1 0 61 2 = _
      rw [up_ne (by decide), up_ne (by decide), up_same, r 5 (by decide), e5]
    · show up (up (up m0 61 2 (m0 62 5)) 61 3 (jshl 1 (up m0 61 2 (m0 62 5) 62 4))) 61 1 0 61 3 = _
      rw [up_ne (by decide), up_same, up_row (by decide), r 4 (by decide), e4]
    · show up (up (up m0 61 2 (m0 62 5)) 61 3 (jshl 1 (up m0 61 2 (m0 62 5) 62 4))) 61 1 0 62 w = _
      rw [up_row (by decide), up_row (by decide), up_row (by decide)]; exact r w hw
  have hb : ∀ w, w < 8 → f_X4_become 62 Q im 62 w = x w := fun w hw => by rw [bec4_w hQ hw]; exact hx w hw
  unfold f_X2_runFrom
  rw [bnd_eq, hb 6 (by decide)]
  rcases h6 with h6 | h6
  · have ea : al0 x sp = (letRow x sp, sp, jshl 1 (x 4)) := by unfold al0; rw [if_pos h6]
    rw [if_pos h6, bnd_eq]
    refine fin _ (fun a ha => by rw [letGo_row ha, bec4_row ha]) (fun w hw => ?_) (by rw [ea]; rfl) (by rw [ea]; rfl) (by rw [ea]; exact fun _ => ⟨c, hc, h4⟩)
    rw [letGo_w, ea]
    show letRow (f_X4_become 62 Q im 62) sp w = letRow x sp w
    unfold letRow
    rw [hb w hw]
  · have ea : al0 x sp = (x, x 5, jshl 1 (x 4)) := by unfold al0; rw [if_neg (by rw [h6]; decide)]
    rw [if_neg (by rw [h6]; decide)]
    exact fin _ (fun a ha => bec4_row ha) (fun w hw => by rw [ea]; exact hb w hw) (by rw [ea]) (by rw [ea]) (by rw [ea]; exact fun _ => ⟨c, hc, h4⟩)
/-! the reference -/
def relR (im m : IM) (t i : Nat) (s : AS) : Prop := (∀ a, a ≠ 82 → a ≠ 83 → m a = im a) ∧ (∀ k, k ≠ 9 → k ≠ 10 → k ≠ 11 → m 82 k = im 82 k) ∧ (∀ k, k ≠ 67 + 9 * t + 4 → k ≠ 67 + 9 * t + 5 → k ≠ 67 + 9 * t + 6 → m 83 k = im 83 k) ∧ (∀ w, w < 8 → m 83 (67 + 9 * t + w) = s.1 w) ∧ m 82 9 = nI i ∧ m 82 10 = s.2.1 ∧ m 82 11 = s.2.2
/-- what a roll alone leaves behind -/
def aloneOut (im m : IM) (R : Nat × AS) : Prop := m 83 = im 83 ∧ (∀ a, a ≠ 82 → a ≠ 83 → m a = im a) ∧ (∀ k, (k < 7 ∨ 11 < k) → m 82 k = im 82 k) ∧ m 82 7 = (if R.2.1 6 = 2 then -1 else R.2.1 4) ∧ m 82 8 = R.2.1 6 ∧ m 82 9 = nI R.1 ∧ m 82 10 = R.2.2.1 ∧ m 82 11 = R.2.2.2
theorem alone_r {im : IM} {t : Nat} {sp : Int32} {F G x : Nat → Int32} {A B M : Int32} (ht : t < 10) (hF : ∀ c, c < 31 → im 83 (5 + c) = F c) (hG : ∀ c, c < 31 → im 83 (36 + c) = G c) (hA : im 83 2 = A) (hB : im 83 3 = B) (hM : im 83 0 = M) (hx : ∀ w, w < 8 → im 83 (67 + 9 * t + w) = x w) (h6 : x 6 = 0 ∨ x 6 = 1) {c : Nat} (h4 : x 4 = nI c) (hc : c ≤ 29) : ∃ m, f_X7_alone (nI t) sp im = some m ∧ aloneOut im m (alR F G A B M x sp) := by
  have i4 := fun (m : IM) => its_w (im := m) (w := 4) 4 rfl ht (by decide)
  have i5 := fun (m : IM) => its_w (im := m) (w := 5) 5 rfl ht (by decide)
  have i6 := fun (m : IM) => its_w (im := m) (w := 6) 6 rfl ht (by decide)
  -- the end: what was is laid back
  have end3 : ∀ (m : IM) (i : Nat) (s : AS), relR im m t i s → alR F G A B M x sp = (i, s) → ∃ m', f_X7_alone_j3 (nI t) sp (x 4) (x 5) (x 6) m = some m' ∧ aloneOut im m' (alR F G A B M x sp) := by
    intro m i s h eR
    obtain ⟨g1, g2, g3, g4, g5, g6, g7⟩ := h
    have j4 : ∀ (s0 : Int32) (m10 : IM), m10 = up m 82 8 (s.1 6) → s0 = (if s.1 6 = 2 then -1 else s.1 4) → ∃ m', f_X7_alone_j4 (nI t) sp (x 4) (x 5) (x 6) s0 m10 = some m' ∧ aloneOut im m' (alR F G A B M x sp) := by
      intro s0 m10 hm hs
      refine ⟨up (up (up (up m10 82 7 s0) 83 (67 + 9 * t + 4) (x 4)) 83 (67 + 9 * t + 5) (x 5)) 83 (67 + 9 * t + 6) (x 6), ?_, ?_, ?_, ?_, ?_, ?_, ?_, ?_, ?_⟩
      · unfold f_X7_alone_j4
        rw [bnd_eq, if_pos (at_in (w := 4) 4 rfl ht (by decide)), at_ix (w := 4) 4 rfl ht (by decide), bnd_eq, if_pos (at_in (w := 5) 5 rfl ht (by decide)), at_ix (w := 5) 5 rfl ht (by decide), bnd_eq, if_pos (at_in (w := 6) 6 rfl ht (by decide)), at_ix (w := 6) 6 rfl ht (by decide), bnd_eq]
      · funext k
        by_cases k6 : k = 67 + 9 * t + 6
        · subst k6; rw [up_same, hx 6 (by decide)]
        · rw [up_ne k6]
          by_cases k5 : k = 67 + 9 * t + 5
          · subst k5; rw [up_same, hx 5 (by decide)]
          · rw [up_ne k5]
            by_cases k4 : k = 67 + 9 * t + 4
            · subst k4; rw [up_same, hx 4 (by decide)]
            · rw [up_ne k4, up_row (by decide), hm, up_row (by decide)]
              exact g3 k k4 k5 k6
      · intro a h1 h2
        rw [up_row h2, up_row h2, up_row h2, up_row h1, hm, up_row h1]
        exact g1 a h1 h2
      · intro k hk
        rw [up_row (by decide), up_row (by decide), up_row (by decide), up_ne (by omega), hm, up_ne (by omega)]
        exact g2 k (by omega) (by omega) (by omega)
      · rw [up_row (by decide), up_row (by decide), up_row (by decide), up_same, hs, eR]
      · rw [up_row (by decide), up_row (by decide), up_row (by decide), up_ne (by decide), hm, up_same, eR]
      · rw [up_row (by decide), up_row (by decide), up_row (by decide), up_ne (by decide), hm, up_ne (by decide), eR]; exact g5
      · rw [up_row (by decide), up_row (by decide), up_row (by decide), up_ne (by decide), hm, up_ne (by decide), eR]; exact g6
      · rw [up_row (by decide), up_row (by decide), up_row (by decide), up_ne (by decide), hm, up_ne (by decide), eR]; exact g7
    unfold f_X7_alone_j3
    rw [i6 m, Option.bind_some, bnd_eq, g4 6 (by decide), up_same]
    by_cases d : s.1 6 = 2
    · rw [if_pos d]
      exact j4 _ _ (by rw [d]) (by rw [if_pos d])
    · rw [if_neg d, i4, Option.bind_some, up_row (by decide), g4 4 (by decide)]
      exact j4 _ _ rfl (by rw [if_neg d])
  have fin : ∀ m0 : IM, (∀ a, a ≠ 83 → m0 a = im a) → (∀ k, k ≠ 67 + 9 * t + 4 → k ≠ 67 + 9 * t + 5 → k ≠ 67 + 9 * t + 6 → m0 83 k = im 83 k) → (∀ w, w < 8 → m0 83 (67 + 9 * t + w) = (al0 x sp).1 w) → (al0 x sp).2.1 = (al0 x sp).1 5 → (al0 x sp).2.2 = jshl 1 (x 4) → rok (al0 x sp).1 → ∃ m, f_X7_alone_j1 (nI t) sp (x 4) (x 5) (x 6) m0 = some m ∧ aloneOut im m (alR F G A B M x sp) := by
    intro m0 o ok83 r e5 e4 rk
    have e1 : f_X7_alone_j1 (nI t) sp (x 4) (x 5) (x 6) m0 = f_X7_alone_l2 (nI t) sp xF (x 4) (x 5) (x 6) (up (up (up m0 82 9 0) 82 10 ((al0 x sp).1 5)) 82 11 (jshl 1 (x 4))) := by
      unfold f_X7_alone_j1
      rw [bnd_eq, i5, Option.bind_some, up_row (by decide), r 5 (by decide), bnd_eq, bnd_eq]
    rw [e1]
    refine loopM (fun f (a : Nat × AS × IM) => f_X7_alone_l2 (nI t) sp f (x 4) (x 5) (x 6) a.2.2) some (fun a => a.1 ≤ 200 ∧ rok a.2.1.1 ∧ relR im a.2.2 t a.1 a.2.1 ∧ alGo F G A B M (200 - a.1) a.1 a.2.1 = alR F G A B M x sp) (fun a => 200 - a.1) (fun m => aloneOut im m (alR F G A B M x sp)) (fun f a hP => ?_) xF (0, al0 x sp, up (up (up m0 82 9 0) 82 10 ((al0 x sp).1 5)) 82 11 (jshl 1 (x 4))) (by show 200 - 0 < xF; unfold xF; omega) ⟨Nat.zero_le _, rk, ⟨fun a h1 h2 => ?_, fun k h1 h2 h3 => ?_, fun k h1 h2 h3 => ?_, fun w hw => ?_, ?_, ?_, ?_⟩, rfl⟩
    · obtain ⟨i, s, m⟩ := a
      obtain ⟨p1, p2, p3, p4⟩ := hP
      have p1 : i ≤ 200 := p1
      have p2 : rok s.1 := p2
      have p3 : relR im m t i s := p3
      have p4 : alGo F G A B M (200 - i) i s = alR F G A B M x sp := p4
      obtain ⟨g1, g2, g3, g4, g5, g6, g7⟩ := id p3
      show (∃ c, f_X7_alone_l2 (nI t) sp (f + 1) (x 4) (x 5) (x 6) m = some c ∧ _) ∨ ∃ a' : Nat × AS × IM, f_X7_alone_l2 (nI t) sp (f + 1) (x 4) (x 5) (x 6) m = f_X7_alone_l2 (nI t) sp f (x 4) (x 5) (x 6) a'.2.2 ∧ _
      by_cases c1 : s.1 6 = 1
      · by_cases c2 : i = 200
        · subst c2
          obtain ⟨m', e', h'⟩ := end3 m 200 s p3 p4.symm
          refine Or.inl ⟨m', ?_, h'⟩
          show f_X7_alone_l2b (nI t) sp _ (x 4) (x 5) (x 6) m = _
          unfold f_X7_alone_l2b
          rw [i6 m, Option.bind_some, g4 6 (by decide), if_pos c1, g5, if_pos (by decide), e']
        · have n200 : ¬ (200 : Int32) ≤ nI i := by rw [nI_ge_lit (n := 200) 200 (by decide) (by omega)]; omega
          obtain ⟨k, hk, ek⟩ := p2 c1
          obtain ⟨m1, e1, o1, k1, r1⟩ := rolls_r (im := m) (t := t) (c := k) (mi := M + nI i) ht (by rw [g4 4 (by decide)]; exact ek) hk
          have r2 : ∀ w, w < 8 → m1 83 (67 + 9 * t + w) = pR F G (pSh A B (M + nI i)) s.1 w := fun w hw => by
            rw [r1 w, g3 2 (by omega) (by omega) (by omega), g3 3 (by omega) (by omega) (by omega), hA, hB]
            refine pR_cg (fun c hc => ?_) (fun c hc => ?_) g4 (by show m 83 (67 + 9 * t + 4) = _; rw [g4 4 (by decide)]; exact ek) hk w hw
            · rw [g3 (5 + c) (by omega) (by omega) (by omega)]; exact hF c hc
            · rw [g3 (36 + c) (by omega) (by omega) (by omega)]; exact hG c hc
          have o82 : m1 82 = m 82 := o1 82 (by decide)
          have e0 : f_X7_alone_l2 (nI t) sp (f + 1) (x 4) (x 5) (x 6) m = f_X7_alone_l2 (nI t) sp f (x 4) (x 5) (x 6) (up (up (up m1 82 9 (nI (i + 1))) 82 10 (alS F G A B M i s).2.1) 82 11 (alS F G A B M i s).2.2) := by
            have j5 : ∀ s0, s0 = (alS F G A B M i s).2.1 → f_X7_alone_j5 (nI t) sp (f_X7_alone_l2 (nI t) sp f) (x 4) (x 5) (x 6) s0 (up m1 82 9 (nI (i + 1))) = f_X7_alone_l2 (nI t) sp f (x 4) (x 5) (x 6) (up (up (up m1 82 9 (nI (i + 1))) 82 10 (alS F G A B M i s).2.1) 82 11 (alS F G A B M i s).2.2) := by
              intro s0 hs
              subst hs
              unfold f_X7_alone_j5 f_X7_alone_j6
              rw [bnd_eq, i6, Option.bind_some, i4, Option.bind_some, up_row (show (83 : Nat) ≠ 82 by decide), up_row (show (83 : Nat) ≠ 82 by decide), r2 6 (by decide), r2 4 (by decide), up_ne (show (11 : Nat) ≠ 10 by decide), up_ne (show (11 : Nat) ≠ 9 by decide), o82, g7, bnd_eq, bnd_eq, Int32.or_zero]
              unfold alS
              by_cases c6 : pR F G (pSh A B (M + nI i)) s.1 6 = 2
              · rw [if_pos c6, if_pos c6]
              · rw [if_neg c6, if_neg c6]
            show f_X7_alone_l2b (nI t) sp _ (x 4) (x 5) (x 6) m = _
            unfold f_X7_alone_l2b
            rw [i6 m, Option.bind_some, g4 6 (by decide), if_pos c1, g5, if_neg n200, g3 0 (by omega) (by omega) (by omega), hM, e1, Option.bind_some, bnd_eq, i5, Option.bind_some, o82, g5, nI_1, up_row (show (83 : Nat) ≠ 82 by decide), r2 5 (by decide), up_ne (show (10 : Nat) ≠ 9 by decide), o82, g6, Option.bind_some]
            by_cases c5 : pR F G (pSh A B (M + nI i)) s.1 5 ≤ s.2.1
            · rw [if_pos c5]
              refine j5 _ ?_
              show _ = jmax s.2.1 (pR F G (pSh A B (M + nI i)) s.1 5)
              unfold jmax
              rw [if_neg (Int32.not_lt.mpr c5)]
            · rw [if_neg c5]
              refine j5 _ ?_
              show _ = jmax s.2.1 (pR F G (pSh A B (M + nI i)) s.1 5)
              unfold jmax
              rw [if_pos (Int32.not_le.mp c5)]
          have nx : alGo F G A B M (200 - (i + 1)) (i + 1) (alS F G A B M i s) = alR F G A B M x sp := by
            rw [← p4, show 200 - i = (200 - (i + 1)) + 1 by omega]
            show _ = if s.1 6 = 1 then alGo F G A B M (200 - (i + 1)) (i + 1) (alS F G A B M i s) else (i, s)
            rw [if_pos c1]
          refine Or.inr ⟨(i + 1, alS F G A B M i s, up (up (up m1 82 9 (nI (i + 1))) 82 10 (alS F G A B M i s).2.1) 82 11 (alS F G A B M i s).2.2), e0, ⟨by show i + 1 ≤ 200; omega, rok_R p2 c1, ⟨fun a h1 h2 => ?_, fun k h1 h2 h3 => ?_, fun k h1 h2 h3 => ?_, fun w hw => ?_, ?_, ?_, ?_⟩, nx⟩, by show 200 - (i + 1) < 200 - i; omega⟩
          · show up (up (up m1 82 9 (nI (i + 1))) 82 10 (alS F G A B M i s).2.1) 82 11 (alS F G A B M i s).2.2 a = im a
            rw [up_row h1, up_row h1, up_row h1, o1 a h2]; exact g1 a h1 h2
          · show up (up (up m1 82 9 (nI (i + 1))) 82 10 (alS F G A B M i s).2.1) 82 11 (alS F G A B M i s).2.2 82 k = im 82 k
            rw [up_ne h3, up_ne h2, up_ne h1, o82]; exact g2 k h1 h2 h3
          · show up (up (up m1 82 9 (nI (i + 1))) 82 10 (alS F G A B M i s).2.1) 82 11 (alS F G A B M i s).2.2 83 k = im 83 k
            rw [up_row (by decide), up_row (by decide), up_row (by decide), k1 k h1 h2 h3]; exact g3 k h1 h2 h3
          · show up (up (up m1 82 9 (nI (i + 1))) 82 10 (alS F G A B M i s).2.1) 82 11 (alS F G A B M i s).2.2 83 (67 + 9 * t + w) = _
            rw [up_row (by decide), up_row (by decide), up_row (by decide)]; exact r2 w hw
          · show up (up (up m1 82 9 (nI (i + 1))) 82 10 (alS F G A B M i s).2.1) 82 11 (alS F G A B M i s).2.2 82 9 = _
            rw [up_ne (by decide), up_ne (by decide), up_same]
          · show up (up (up m1 82 9 (nI (i + 1))) 82 10 (alS F G A B M i s).2.1) 82 11 (alS F G A B M i s).2.2 82 10 = _
            rw [up_ne (by decide), up_same]
          · show up (up (up m1 82 9 (nI (i + 1))) 82 10 (alS F G A B M i s).2.1) 82 11 (alS F G A B M i s).2.2 82 11 = (alS F G A B M i s).2.2
            exact up_same
      · have p4 : alR F G A B M x sp = (i, s) := by rw [← p4, alGo_stop c1]
        obtain ⟨m', e', h'⟩ := end3 m i s p3 p4
        refine Or.inl ⟨m', ?_, h'⟩
        show f_X7_alone_l2b (nI t) sp _ (x 4) (x 5) (x 6) m = _
        unfold f_X7_alone_l2b
        rw [i6 m, Option.bind_some, g4 6 (by decide), if_neg c1, e']
    · show up (up (up m0 82 9 0) 82 10 ((al0 x sp).1 5)) 82 11 (jshl 1 (x 4)) a = im a
      rw [up_row h1, up_row h1, up_row h1]; exact o a h2
    · show up (up (up m0 82 9 0) 82 10 ((al0 x sp).1 5)) 82 11 (jshl 1 (x 4)) 82 k = im 82 k
      rw [up_ne h3, up_ne h2, up_ne h1, o 82 (by decide)]
    · show up (up (up m0 82 9 0) 82 10 ((al0 x sp).1 5)) 82 11 (jshl 1 (x 4)) 83 k = im 83 k
      rw [up_row (by decide), up_row (by decide), up_row (by decide)]; exact ok83 k h1 h2 h3
    · show up (up (up m0 82 9 0) 82 10 ((al0 x sp).1 5)) 82 11 (jshl 1 (x 4)) 83 (67 + 9 * t + w) = _
      rw [up_row (by decide), up_row (by decide), up_row (by decide)]; exact r w hw
    · show up (up (up m0 82 9 0) 82 10 ((al0 x sp).1 5)) 82 11 (jshl 1 (x 4)) 82 9 = _
      rw [up_ne (by decide), up_ne (by decide), up_same]; rfl
    · show up (up (up m0 82 9 0) 82 10 ((al0 x sp).1 5)) 82 11 (jshl 1 (x 4)) 82 10 = _
      rw [up_ne (by decide), up_same, e5]
    · show up (up (up m0 82 9 0) 82 10 ((al0 x sp).1 5)) 82 11 (jshl 1 (x 4)) 82 11 = _
      rw [up_same, e4]
  unfold f_X7_alone
  rw [i4, Option.bind_some, i5, Option.bind_some, i6, Option.bind_some, hx 4 (by decide), hx 5 (by decide), hx 6 (by decide)]
  rcases h6 with h6 | h6
  · have ea : al0 x sp = (letRow x sp, sp, jshl 1 (x 4)) := by unfold al0; rw [if_pos h6]
    have el : f_X7_letsGo (nI t) sp im = some (up (up im 83 (67 + 9 * t + 6) 1) 83 (67 + 9 * t + 5) sp) := by
      unfold f_X7_letsGo
      rw [if_pos (at_in (w := 6) 6 rfl ht (by decide)), at_ix (w := 6) 6 rfl ht (by decide), bnd_eq, if_pos (at_in (w := 5) 5 rfl ht (by decide)), at_ix (w := 5) 5 rfl ht (by decide), bnd_eq]
    rw [if_pos h6, el, Option.bind_some]
    refine fin _ (fun a ha => by rw [up_row ha, up_row ha]) (fun k h1 h2 h3 => by rw [up_ne h2, up_ne h3]) (fun w hw => ?_) (by rw [ea]; rfl) (by rw [ea]) (by rw [ea]; exact fun _ => ⟨c, hc, h4⟩)
    rw [ea]
    show _ = letRow x sp w
    unfold letRow
    by_cases c5 : w = 5
    · subst c5; rw [up_same, if_pos rfl]
    · rw [up_ne (by omega), if_neg c5]
      by_cases c6 : w = 6
      · subst c6; rw [up_same, if_pos rfl]
      · rw [up_ne (by omega), if_neg c6]; exact hx w hw
  · have ea : al0 x sp = (x, x 5, jshl 1 (x 4)) := by unfold al0; rw [if_neg (by rw [h6]; decide)]
    rw [if_neg (by rw [h6]; decide)]
    exact fin im (fun a ha => rfl) (fun k _ _ _ => rfl) (fun w hw => by rw [ea]; exact hx w hw) (by rw [ea]) (by rw [ea]) (by rw [ea]; exact fun _ => ⟨c, hc, h4⟩)
