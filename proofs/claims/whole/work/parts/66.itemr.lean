/-! numbers of the reference -/
theorem kbe {X : TK} {j : Nat} (hX : tks X) (hj : j ≤ kJ X) : kb X j ≤ ke X j ∧ ke X j ≤ kq X := by
  by_cases c : j < kJ X
  · have := tok_ft hX c; omega
  · have e : j = kJ X := by omega
    rw [e, hX.2.2.2.2.2.1, hX.2.2.2.2.2.2]; omega
theorem word_w {m : IM} {X : TK} {j : Nat} (hX : tks X) (h : rwr m X j) : f_X7_word m = some 0 := by
  obtain ⟨h1, h2, h3, h4, h5, h6⟩ := h
  have q1 := hX.1
  have hbe := kbe hX h1
  unfold f_X7_word
  rw [bnd_eq, h2]
  have key1 : ∃ u : Unit, f_X7_word_l1 m xF 0 (nI (kb X j)) = some 0 ∧ True := by
    refine loopG (fun f (x : Int64) i => f_X7_word_l1 m f x i) (fun _ : Unit => some 0) (kb X j) (nI (kb X j)) rfl (ke X j) (by omega) hbe.1 (fun _ _ => True) _ (fun f x _ => ⟨(), ?_, trivial⟩) (fun f x i hi0 hi _ => Or.inr ?_) 0 trivial
    · show f_X7_word_l1b m _ x (nI (ke X j)) = _
      unfold f_X7_word_l1b f_X7_word_j2
      rw [h3, if_pos (Int32.le_refl _), if_neg (by rw [h4]; decide)]
    · have un : f_X7_word_l1 m (f + 1) x (nI i) = f_X7_word_l1b m (f_X7_word_l1 m f) x (nI i) := rfl
      by_cases c : lg_cmp x 36028797018963967 ≤ 0
      · refine ⟨(32 * x) + ((m 89 i - 96).toInt64), ?_, trivial⟩
        rw [un]
        unfold f_X7_word_l1b f_X7_word_j3
        rw [h3, if_neg (nI_ge hi (by omega)), if_pos c, if_pos (inb_nI (show i < 120 by omega) (by decide)), ix_nI (by omega), bnd_eq, nI_1]
      · refine ⟨x, ?_, trivial⟩
        rw [un]
        unfold f_X7_word_l1b f_X7_word_j3
        rw [h3, if_neg (nI_ge hi (by omega)), if_neg c, bnd_eq, nI_1]
  obtain ⟨-, e, -⟩ := key1
  exact e
theorem w0_ne : ∀ a, a < 19 → ¬ lg_cmp 0 (lN (kC.getD a 0)) = 0 := by decide +kernel
def rv (B : Nat → Nat) (f : Nat) : Nat → Nat
  | 0 => 0
  | n + 1 => if rv B f n ≤ 999 then 10 * rv B f n + B (f + n) - 48 else rv B f n
theorem rv_cv {B : Nat → Nat} {f : Nat} : ∀ {n : Nat}, (∀ i, i < n → 48 ≤ B (f + i) ∧ B (f + i) ≤ 57) → (rv B f n ≤ 999 ∧ cv B f n = rv B f n) ∨ (999 < rv B f n ∧ rv B f n ≤ 9999 ∧ cv B f n = 1000)
  | 0, _ => Or.inl ⟨by show 0 ≤ 999; omega, rfl⟩
  | n + 1, h => by
    have d := h n (by omega)
    have ih := rv_cv (B := B) (f := f) (n := n) (fun i hi => h i (by omega))
    show ((if rv B f n ≤ 999 then 10 * rv B f n + B (f + n) - 48 else rv B f n) ≤ 999 ∧ (if cv B f n * 10 + B (f + n) - 48 < 1000 then cv B f n * 10 + B (f + n) - 48 else 1000) = (if rv B f n ≤ 999 then 10 * rv B f n + B (f + n) - 48 else rv B f n)) ∨ (999 < (if rv B f n ≤ 999 then 10 * rv B f n + B (f + n) - 48 else rv B f n) ∧ (if rv B f n ≤ 999 then 10 * rv B f n + B (f + n) - 48 else rv B f n) ≤ 9999 ∧ (if cv B f n * 10 + B (f + n) - 48 < 1000 then cv B f n * 10 + B (f + n) - 48 else 1000) = 1000)
    rcases ih with ⟨i1, i2⟩ | ⟨i1, i3, i2⟩
    · rw [if_pos i1, i2]
      by_cases c : rv B f n * 10 + B (f + n) - 48 < 1000
      · rw [if_pos c]; left; omega
      · rw [if_neg c]; right; omega
    · rw [if_neg (by omega), i2, if_neg (by omega)]
      right
      exact ⟨i1, i3, rfl⟩
theorem number_r {m : IM} {X : TK} {j lo hi : Nat} (hX : tks X) (h : rst m X j) (L H : Int32) (hL : L = nI lo) (hH : H = nI hi) (hl : lo ≤ 99) (hh : hi ≤ 99) : ∃ m', f_X7_number L H m = some m' ∧ (vfr m m' ∧ ((nB X j lo hi = true ∧ rst m' X (go X j) ∧ m' 82 19 = nI (vl X j)) ∨ (¬ nB X j lo hi = true ∧ rwr m' X j))) := by
  subst hL hH
  obtain ⟨h1, h2, h3, h4, h5, h6⟩ := id h
  have q1 := hX.1
  have hbe := kbe hX h1
  -- the end, with what was read
  have fin : ∀ (is v : Int32), (is = 1 ∨ is = 0) → ((nB X j lo hi = true ∧ is = 1 ∧ v = nI (vl X j)) ∨ (¬ nB X j lo hi = true ∧ (is = 0 ∨ ¬ wi v (nI lo) (nI hi)))) → ∃ m', f_X7_number_j2 (nI lo) (nI hi) is v m = some m' ∧ (vfr m m' ∧ ((nB X j lo hi = true ∧ rst m' X (go X j) ∧ m' 82 19 = nI (vl X j)) ∨ (¬ nB X j lo hi = true ∧ rwr m' X j))) := by
    intro is v his hv
    have r19 : rst (up m 82 19 v) X j := ⟨h1, by rw [up_ne (by decide)]; exact h2, by rw [up_ne (by decide)]; exact h3, by rw [up_ne (by decide)]; exact h4, by rw [up_ne (by decide)]; exact h5, fun k hk => by rw [up_row (by decide)]; exact h6 k hk⟩
    have v19 : vfr m (up m 82 19 v) := vfr_82 (by omega)
    unfold f_X7_number_j2 f_X7_number_j3 f_X7_number_j4
    rw [bnd_eq, in_eq]
    rcases hv with ⟨c, e1, e2⟩ | ⟨c, e⟩
    · obtain ⟨m', e, r, o, o19⟩ := needs_1 hX r19
      have cc := (nB_iff.mp c).2.2
      refine ⟨m', ?_, vfr_trans v19 o, Or.inl ⟨c, r, by rw [o19, up_same, e2]⟩⟩
      rw [if_neg (by rw [e1]; decide), within_1 (by rw [e2]; exact ⟨nI_le cc.1 (by omega), nI_le cc.2 (by omega)⟩), if_neg i10, e, Option.bind_some]
    · obtain ⟨e0, w0⟩ := needs_0 r19
      refine ⟨up (up m 82 19 v) 82 20 1, ?_, vfr_trans v19 (vfr_82 (by omega)), Or.inr ⟨c, w0⟩⟩
      rw [e0, Option.bind_some]
      by_cases z : is = 0
      · rw [if_pos z]
      · rcases e with e | e
        · exact absurd e z
        · rw [if_neg z, within_0 e, if_pos rfl]
  unfold f_X7_number
  rw [if_pos h4, h2, byte_r hX h5 h6 (by omega), Option.bind_some, bnd_eq, bnd_eq]
  by_cases c : j < kJ X ∧ ty (kB X (kb X j)) = 2
  · have kq' := hX.2.2.2.1 j c.1
    have hl2 : ∀ k, k < ke X j - kb X j → 48 ≤ kB X (kb X j + k) ∧ kB X (kb X j + k) ≤ 57 := by
      intro k g2
      by_cases e : k = 0
      · rw [e, Nat.add_zero]; exact ty_2.mp c.2
      · have ht := hX.2.2.2.2.1 j h1
        obtain ⟨t1, t2, t3, t4⟩ := ht
        rcases t4 with ⟨z, -⟩ | ⟨-, -, -, -, t8, -⟩
        · omega
        · have := (t8 (kb X j + k) (by omega) (by omega)).1
          rw [c.2] at this
          exact ty_2.mp this
    rw [if_pos kq', dig_c _ (hX.2.2.1 _), if_pos c.2]
    have key1 : ∃ u : Unit, f_X7_number_l1 (nI lo) (nI hi) xF 1 0 (nI (kb X j)) m = f_X7_number_j2 (nI lo) (nI hi) 1 (nI (rv (kB X) (kb X j) (ke X j - kb X j))) m ∧ True := by
      refine loopG (fun f (x : Int32) i => f_X7_number_l1 (nI lo) (nI hi) f 1 x i m) (fun _ : Unit => f_X7_number_j2 (nI lo) (nI hi) 1 (nI (rv (kB X) (kb X j) (ke X j - kb X j))) m) (kb X j) (nI (kb X j)) rfl (ke X j) (by omega) hbe.1 (fun i x => x = nI (rv (kB X) (kb X j) (i - kb X j))) _ (fun f x hP => ⟨(), ?_, trivial⟩) (fun f x i hi0 hi hP => Or.inr ⟨nI (rv (kB X) (kb X j) (i + 1 - kb X j)), ?_, rfl⟩) 0 (by rw [Nat.sub_self]; rfl)
      · show f_X7_number_l1b _ _ _ 1 x (nI (ke X j)) m = _
        unfold f_X7_number_l1b
        rw [h3, if_pos (Int32.le_refl _), hP]
      · have d := hl2 (i - kb X j) (by omega)
        rw [show kb X j + (i - kb X j) = i by omega] at d
        have rc := rv_cv (B := kB X) (f := kb X j) (n := i - kb X j) (fun k hk => hl2 k (by omega))
        have e1 : rv (kB X) (kb X j) (i + 1 - kb X j) = if rv (kB X) (kb X j) (i - kb X j) ≤ 999 then 10 * rv (kB X) (kb X j) (i - kb X j) + kB X i - 48 else rv (kB X) (kb X j) (i - kb X j) := by
          rw [show i + 1 - kb X j = (i - kb X j) + 1 by omega]
          show (if rv (kB X) (kb X j) (i - kb X j) ≤ 999 then 10 * rv (kB X) (kb X j) (i - kb X j) + kB X (kb X j + (i - kb X j)) - 48 else rv (kB X) (kb X j) (i - kb X j)) = _
          rw [show kb X j + (i - kb X j) = i by omega]
        show f_X7_number_l1b _ _ _ 1 x (nI i) m = _
        unfold f_X7_number_l1b f_X7_number_j5
        rw [h3, if_neg (nI_ge hi (by omega)), if_neg i10, hP, e1, if_pos (inb_nI (show i < 120 by omega) (by decide)), ix_nI (by omega), h6 i (by omega), bnd_eq, bnd_eq, nI_1]
        by_cases z : rv (kB X) (kb X j) (i - kb X j) ≤ 999
        · rw [if_pos ((nI_le_lit (n := 999) 999 (by decide) (by omega)).mpr z), if_pos z, show (10 : Int32) = nI 10 from rfl, pk_mul, nI_add, show (48 : Int32) = nI 48 from rfl, pk_sub (by omega)]
        · rw [if_neg (fun y => z ((nI_le_lit (n := 999) 999 (by decide) (by omega)).mp y)), if_neg z]
    obtain ⟨-, e, -⟩ := key1
    rw [e]
    have rc := rv_cv (B := kB X) (f := kb X j) (n := ke X j - kb X j) hl2
    refine fin 1 _ (Or.inl rfl) ?_
    by_cases z : nB X j lo hi = true
    · left
      refine ⟨z, rfl, ?_⟩
      have zz := (nB_iff.mp z).2.2
      unfold vl at zz ⊢
      rcases rc with ⟨r1, r2⟩ | ⟨r1, r3, r2⟩
      · rw [r2]
      · omega
    · right
      refine ⟨z, Or.inr (fun y => z (nB_iff.mpr ⟨c.1, c.2, ?_⟩))⟩
      have y1 := (nI_leI (by omega) (by omega)).mp y.1
      have y2 := (nI_leI (by omega) (by omega)).mp y.2
      unfold vl
      rcases rc with ⟨r1, r2⟩ | ⟨r1, r3, r2⟩
      · rw [r2]; exact ⟨y1, y2⟩
      · omega
  · have l0 : f_X7_isDigit (if kb X j < kq X then nI (kB X (kb X j)) else -1) = 0 := by
      by_cases z : kb X j < kq X
      · rw [if_pos z, dig_c _ (hX.2.2.1 _)]
        have : ¬ ty (kB X (kb X j)) = 2 := by
          intro y
          have : j < kJ X := by
            rcases Nat.lt_or_ge j (kJ X) with w | w
            · exact w
            · have e : j = kJ X := by omega
              rw [e, hX.2.2.2.2.2.1] at z; omega
          exact c ⟨this, y⟩
        rw [if_neg this]
      · rw [if_neg z, dig_m]
    rw [l0]
    have e : f_X7_number_l1 (nI lo) (nI hi) xF 0 0 (nI (kb X j)) m = f_X7_number_j2 (nI lo) (nI hi) 0 0 m := by
      show f_X7_number_l1b _ _ _ 0 0 (nI (kb X j)) m = _
      unfold f_X7_number_l1b
      by_cases z : m 82 18 ≤ nI (kb X j)
      · rw [if_pos z]
      · rw [if_neg z, if_pos rfl]
    rw [e]
    exact fin 0 0 (Or.inr rfl) (Or.inr ⟨fun z => c ⟨(nB_iff.mp z).1, (nB_iff.mp z).2.1⟩, Or.inl rfl⟩)
theorem number_w {m : IM} {X : TK} {j : Nat} (h : rwr m X j) (L H : Int32) : f_X7_number L H m = some m := by
  unfold f_X7_number
  rw [if_neg (by rw [h.2.2.2.1]; decide)]
/-! cells -/
def rfr (m m' : IM) : Prop := (∀ a, a ≠ 82 → a ≠ 83 → m' a = m a) ∧ ∀ k, (k < 17 ∨ 22 < k) → m' 82 k = m 82 k
def cfr (m m' : IM) : Prop := (∀ a, a ≠ 82 → m' a = m a) ∧ ∀ k, (k < 17 ∨ 22 < k) → m' 82 k = m 82 k
theorem rfr_refl {m : IM} : rfr m m := ⟨fun _ _ _ => rfl, fun _ _ => rfl⟩
theorem rfr_trans {a b c : IM} (h : rfr a b) (g : rfr b c) : rfr a c := ⟨fun x h1 h2 => (g.1 x h1 h2).trans (h.1 x h1 h2), fun k hk => (g.2 k hk).trans (h.2 k hk)⟩
theorem cfr_trans {a b c : IM} (h : cfr a b) (g : cfr b c) : cfr a c := ⟨fun x h1 => (g.1 x h1).trans (h.1 x h1), fun k hk => (g.2 k hk).trans (h.2 k hk)⟩
theorem vfr_c {a b : IM} (h : vfr a b) : cfr a b := ⟨h.1, fun k hk => h.2 k (by omega)⟩
theorem cfr_r {a b : IM} (h : cfr a b) : rfr a b := ⟨fun x h1 _ => h.1 x h1, h.2⟩
theorem cfr_82 {m : IM} {k : Nat} {x : Int32} (hk : 17 ≤ k ∧ k ≤ 22) : cfr m (up m 82 k x) := ⟨fun a h1 => up_row h1, fun i hi => up_ne (by omega)⟩
theorem rst_82 {m : IM} {X : TK} {j k : Nat} {x : Int32} (h : rst m X j) (hk : k = 19 ∨ k = 21 ∨ k = 22) : rst (up m 82 k x) X j := ⟨h.1, by rw [up_ne (by omega)]; exact h.2.1, by rw [up_ne (by omega)]; exact h.2.2.1, by rw [up_ne (by omega)]; exact h.2.2.2.1, by rw [up_ne (by omega)]; exact h.2.2.2.2.1, fun i hi => by rw [up_row (by decide)]; exact h.2.2.2.2.2 i hi⟩
theorem rwr_82 {m : IM} {X : TK} {j k : Nat} {x : Int32} (h : rwr m X j) (hk : k = 19 ∨ k = 21 ∨ k = 22) : rwr (up m 82 k x) X j := ⟨h.1, by rw [up_ne (by omega)]; exact h.2.1, by rw [up_ne (by omega)]; exact h.2.2.1, by rw [up_ne (by omega)]; exact h.2.2.2.1, by rw [up_ne (by omega)]; exact h.2.2.2.2.1, fun i hi => by rw [up_row (by decide)]; exact h.2.2.2.2.2 i hi⟩
theorem lK (a : Nat) (w L : Int64) (h : L = lN (kC.getD a 0)) {P : Prop} (g : lg_cmp w (lN (kC.getD a 0)) = 0 ↔ P) : lg_cmp w L = 0 ↔ P := by rw [h]; exact g
theorem cells_r {m : IM} {X : TK} {j : Nat} (hX : tks X) (h : rst m X j) : ∃ m', f_X7_cells m = some m' ∧ (cfr m m' ∧ ((∃ a b, (pCells X (go X j)).2 = some (a, b) ∧ rst m' X (pCells X (go X j)).1 ∧ m' 82 21 = nI a ∧ m' 82 22 = nI b) ∨ ((pCells X (go X j)).2 = none ∧ rwr m' X (pCells X (go X j)).1))) := by
  obtain ⟨m1, e1, r1, v1, -⟩ := needs_1 hX h
  unfold f_X7_cells
  rw [e1, Option.bind_some]
  generalize go X j = i at r1
  obtain ⟨m2, e2, v2, h2⟩ := number_r (lo := 0) (hi := 30) hX r1 0 30 rfl rfl (by omega) (by omega)
  rw [e2, Option.bind_some, bnd_eq]
  have c12 := cfr_trans (vfr_c v1) (vfr_c v2)
  unfold pCells
  rcases h2 with ⟨c1, r2, e19⟩ | ⟨c1, r2⟩
  · rw [if_pos c1, e19]
    have v30 := (nB_iff.mp c1).2.2.2
    have r3 : rst (up m2 82 21 (nI (vl X i))) X (go X i) := rst_82 r2 (by omega)
    have c3 := cfr_trans c12 (cfr_82 (m := m2) (k := 21) (x := nI (vl X i)) (by omega))
    generalize hm3 : up m2 82 21 (nI (vl X i)) = m3 at r3 c3
    have e21 : m3 82 21 = nI (vl X i) := by rw [← hm3, up_same]
    obtain ⟨w, ew, hw⟩ := word_r hX r3
    rw [ew, Option.bind_some]
    have w3 := lK 3 w 655 rfl (hw 3 (by omega))
    by_cases c2 : wB X 3 (go X i) = true
    · rw [if_pos (w3.mpr c2), if_pos c2]
      unfold f_X7_cells_j1 f_X7_perhaps
      obtain ⟨m4, e4, r4, v4, -⟩ := needs_1 hX r3
      obtain ⟨m5, e5, v5, h5⟩ := number_r (lo := vl X i) (hi := 30) hX r4 (nI (vl X i)) 30 rfl rfl (by omega) (by omega)
      have e521 : m5 82 21 = nI (vl X i) := by rw [v5.2 21 (by omega), v4.2 21 (by omega)]; exact e21
      have eC : ((if (1 : Int32) = 0 then some (m3 82 21, m3) else (f_X7_needs 1 m3).bind fun r1 => (f_X7_number (m3 82 21) 30 r1).bind fun r2 => some (r2 82 19, r2)).bind fun r5 => bnd (up r5.2 82 22 r5.1) fun m6 => some m6) = some (up m5 82 22 (m5 82 19)) := by
        rw [if_neg i10, e4, Option.bind_some, e21, e5, Option.bind_some, Option.bind_some, bnd_eq]
      rw [eC]
      have c5 := cfr_trans c3 (cfr_trans (vfr_c v4) (cfr_trans (vfr_c v5) (cfr_82 (m := m5) (k := 22) (x := m5 82 19) (by omega))))
      rcases h5 with ⟨d1, r5, d19⟩ | ⟨d1, r5⟩
      · rw [if_pos d1]
        refine ⟨_, rfl, c5, Or.inl ⟨vl X i, vl X (go X (go X i)), rfl, rst_82 r5 (by omega), by rw [up_ne (by decide)]; exact e521, by rw [up_same, d19]⟩⟩
      · rw [if_neg d1]
        exact ⟨_, rfl, c5, Or.inr ⟨rfl, rwr_82 r5 (by omega)⟩⟩
    · rw [if_neg (fun z => c2 (w3.mp z)), if_neg c2]
      unfold f_X7_cells_j1 f_X7_perhaps
      rw [if_pos rfl, Option.bind_some, bnd_eq]
      show ∃ m', some (up m3 82 22 (m3 82 21)) = some m' ∧ _
      exact ⟨_, rfl, cfr_trans c3 (cfr_82 (by omega)), Or.inl ⟨vl X i, vl X i, rfl, rst_82 r3 (by omega), by rw [up_ne (by decide)]; exact e21, by rw [up_same]; exact e21⟩⟩
  · rw [if_neg c1]
    have r3 : rwr (up m2 82 21 (m2 82 19)) X i := rwr_82 r2 (by omega)
    have c3 := cfr_trans c12 (cfr_82 (m := m2) (k := 21) (x := m2 82 19) (by omega))
    generalize up m2 82 21 (m2 82 19) = m3 at r3 c3
    rw [word_w hX r3, Option.bind_some, if_neg (show ¬ lg_cmp 0 655 = 0 from w0_ne 3 (by omega))]
    unfold f_X7_cells_j1 f_X7_perhaps
    rw [if_pos rfl, Option.bind_some, bnd_eq]
    exact ⟨_, rfl, cfr_trans c3 (cfr_82 (by omega)), Or.inr ⟨rfl, rwr_82 r3 (by omega)⟩⟩
