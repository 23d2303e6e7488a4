/-! loops that count up -/
def fA {α : Type} (p : Nat → α → α) : Nat → Nat → α → α
  | _, 0, s => s
  | i, d + 1, s => fA p (i + 1) d (p i s)
theorem fA_cg {α : Type} {p q : Nat → α → α} : ∀ (d i : Nat) (s : α), (∀ t s, i ≤ t → t < i + d → p t s = q t s) → fA p i d s = fA q i d s := by
  intro d
  induction d with
  | zero => intro i s _; rfl
  | succ d ih =>
    intro i s h
    show fA p (i + 1) d (p i s) = fA q (i + 1) d (q i s)
    rw [h i s (by omega) (by omega)]
    exact ih (i + 1) _ (fun t s h1 h2 => h t s (by omega) (by omega))
theorem loopN {α β : Type} (L : Nat → α → Int32 → Option β) (N : Nat) (done : α → Option β) (step : Nat → α → α) (h0 : ∀ f a, L (f + 1) a (nI N) = done a) (hs : ∀ f a i, i < N → L (f + 1) a (nI i) = L f (step i a) (nI (i + 1))) : ∀ (d f : Nat) (a : α) (i : Nat), i + d = N → d < f → L f a (nI i) = done (fA step i d a) := by
  intro d
  induction d with
  | zero =>
    intro f a i h1 h2
    obtain ⟨f, rfl⟩ : ∃ g, f = g + 1 := ⟨f - 1, by omega⟩
    have : i = N := by omega
    subst this
    exact h0 f a
  | succ d ih =>
    intro f a i h1 h2
    obtain ⟨f, rfl⟩ : ∃ g, f = g + 1 := ⟨f - 1, by omega⟩
    rw [hs f a i (by omega)]
    exact ih f _ (i + 1) (by omega) (by omega)
theorem loop0 {α β : Type} (L : Nat → α → Int32 → Option β) (N : Nat) (hN : N < 5000) (done : α → Option β) (step : Nat → α → α) (h0 : ∀ f a, L (f + 1) a (nI N) = done a) (hs : ∀ f a i, i < N → L (f + 1) a (nI i) = L f (step i a) (nI (i + 1))) (a : α) : L xF a 0 = done (fA step 0 N a) :=
  loopN L N done step h0 hs N xF a 0 (by omega) (by unfold xF; omega)
theorem nI_ge' {N : Nat} (hN : N < 2 ^ 31) : nI N ≤ nI N := Int32.le_refl _
/-- a set of things, by a test -/
def sOf (p : Nat → Bool) (N : Nat) : Int32 := fA (fun t s => if p t = true then s ||| jshl 1 (nI t) else s) 0 N 0
theorem sOf_cg {p q : Nat → Bool} {N : Nat} (h : ∀ t, t < N → p t = q t) : sOf p N = sOf q N := fA_cg N 0 0 (fun t s _ h2 => by rw [h t (by omega)])
theorem allIn_c {im : IM} {T N : Nat} {st : Int32} (hN : im T 4 = nI N) (h10 : N ≤ 10) : f_X5_allIn T st im = some (sOf (fun t => decide (im (T + 5 + t) 6 = st)) N) := by
  unfold f_X5_allIn sOf
  refine loop0 (fun f a i => f_X5_allIn_l1 T st im f a i) N (by omega) some _ (fun f a => ?_) (fun f a i hi => ?_) 0
  · show f_X5_allIn_l1b T st im _ a (nI N) = _
    unfold f_X5_allIn_l1b
    rw [hN, if_pos (Int32.le_refl _)]
  · show f_X5_allIn_l1b T st im _ a (nI i) = _
    unfold f_X5_allIn_l1b f_X5_allIn_j2
    rw [hN, if_neg (nI_ge hi (by omega)), if_pos (inb_nI (show i < 10 by omega) (by decide)), ix_nI (by omega)]
    simp only [bnd_eq, nI_1]
    by_cases h : im (T + 5 + i) 6 = st
    · simp only [h, if_true, decide_true]
    · simp only [h, if_false, decide_false, Bool.false_eq_true]
/-- it stands on the lane: at rest, or rolling -/
def pStd (x : Int32) : Bool := decide (x = 0) || decide (x = 1)
theorem std_c {im : IM} {a : Nat} : f_X4_isStanding a im = if pStd (im a 6) = true then 1 else 0 := by
  unfold f_X4_isStanding f_X4_isStanding_j1 pStd
  by_cases h0 : im a 6 = 0
  · simp [h0]
  · by_cases h1 : im a 6 = 1
    · simp [h1]
    · simp [h0, h1]
theorem lane_r {im : IM} {t : Nat} (ht : t < 10) : f_X7_isOnLane (nI t) im = some (if pStd (im 83 (67 + 9 * t + 6)) = true then 1 else 0) := by
  unfold f_X7_isOnLane f_X7_isOnLane_j1 pStd
  rw [its_w (w := 6) 6 rfl ht (by decide)]
  simp only [Option.bind_some]
  by_cases h0 : im 83 (67 + 9 * t + 6) = 0
  · simp [h0]
  · by_cases h1 : im 83 (67 + 9 * t + 6) = 1
    · simp [h1]
    · simp [h0, h1]
theorem allOn_c {im : IM} {T N : Nat} {c : Int32} (hN : im T 4 = nI N) (h10 : N ≤ 10) : f_X5_allOn T c im = some (sOf (fun t => decide (im (T + 5 + t) 4 = c) && pStd (im (T + 5 + t) 6)) N) := by
  unfold f_X5_allOn sOf
  refine loop0 (fun f a i => f_X5_allOn_l1 T c im f a i) N (by omega) some _ (fun f a => ?_) (fun f a i hi => ?_) 0
  · show f_X5_allOn_l1b T c im _ a (nI N) = _
    unfold f_X5_allOn_l1b
    rw [hN, if_pos (Int32.le_refl _)]
  · show f_X5_allOn_l1b T c im _ a (nI i) = _
    unfold f_X5_allOn_l1b f_X5_allOn_j2
    have e := inb_nI (show i < 10 by omega) (show 10 < 2 ^ 31 by decide)
    rw [hN, if_neg (nI_ge hi (by omega)), if_pos e, ix_nI (by omega)]
    simp only [bnd_eq, nI_1, e, if_true, std_c]
    by_cases h : im (T + 5 + i) 4 = c
    · by_cases h2 : pStd (im (T + 5 + i) 6) = true
      · simp only [h, h2, if_true, decide_true, Bool.true_and, i10, if_false]
      · simp only [h, h2, if_true, decide_true, Bool.true_and, if_false]
        simp
    · simp only [h, if_false, decide_false, Bool.false_and, Bool.false_eq_true]
theorem areIn_r {im : IM} {N : Nat} {st : Int32} (hN : im 83 1 = nI N) (h10 : N ≤ 10) : f_X7_areIn st im = some (sOf (fun t => decide (im 83 (67 + 9 * t + 6) = st)) N) := by
  unfold f_X7_areIn sOf
  refine loop0 (fun f a i => f_X7_areIn_l1 st im f a i) N (by omega) some _ (fun f a => ?_) (fun f a i hi => ?_) 0
  · show f_X7_areIn_l1b st im _ a (nI N) = _
    unfold f_X7_areIn_l1b
    rw [hN, if_pos (Int32.le_refl _)]
  · show f_X7_areIn_l1b st im _ a (nI i) = _
    unfold f_X7_areIn_l1b f_X7_areIn_j2
    rw [hN, if_neg (nI_ge hi (by omega)), its_w (w := 6) 6 rfl (by omega) (by decide)]
    simp only [Option.bind_some, bnd_eq, nI_1]
    by_cases h : im 83 (67 + 9 * i + 6) = st
    · simp only [h, if_true, decide_true]
    · simp only [h, if_false, decide_false, Bool.false_eq_true, Int32.or_zero]
theorem onCell_r {im : IM} {N : Nat} {c : Int32} (hN : im 83 1 = nI N) (h10 : N ≤ 10) : f_X7_onCell c im = some (sOf (fun t => decide (im 83 (67 + 9 * t + 4) = c) && pStd (im 83 (67 + 9 * t + 6))) N) := by
  unfold f_X7_onCell sOf
  refine loop0 (fun f a i => f_X7_onCell_l1 c im f a i) N (by omega) some _ (fun f a => ?_) (fun f a i hi => ?_) 0
  · show f_X7_onCell_l1b c im _ a (nI N) = _
    unfold f_X7_onCell_l1b
    rw [hN, if_pos (Int32.le_refl _)]
  · show f_X7_onCell_l1b c im _ a (nI i) = _
    unfold f_X7_onCell_l1b f_X7_onCell_j2 f_X7_onCell_j3
    rw [hN, if_neg (nI_ge hi (by omega)), lane_r (by omega), its_w (w := 4) 4 rfl (by omega) (by decide)]
    simp only [Option.bind_some, bnd_eq, nI_1]
    by_cases h2 : pStd (im 83 (67 + 9 * i + 6)) = true
    · by_cases h : im 83 (67 + 9 * i + 4) = c
      · simp only [h, h2, if_true, decide_true, Bool.true_and, i10, if_false]
      · simp only [h, h2, if_true, i10, if_false, decide_false, Bool.false_and, Bool.false_eq_true, Int32.or_zero]
    · simp only [h2, if_false, if_true, Int32.or_zero]
      simp [h2]
theorem lp_are : LP_are Inv := by
  intro im hI a1
  obtain ⟨⟨V, v1, v2, v3⟩, -⟩ := id hI
  by_cases h1 : wi a1 0 3
  · refine ⟨sOf (fun t => decide (vT V t 6 = a1)) (vN V), im, im, ?_, ?_, hI⟩
    · unfold f_X6_are
      simp only [within_1 h1, i10, if_false, allIn_c v1.2.2.2.2.1 v3.1, Option.bind_some]
      rw [sOf_cg (fun t ht => by rw [v1.2.2.1 t ht 6 (by decide)])]
    · unfold f_X7_are
      simp only [in_0_3, within_1 h1, i10, if_false, areIn_r v2.2.2.2.2.1 v3.1, Option.bind_some]
      rw [sOf_cg (fun t ht => by rw [v2.2.2.1 t ht 6 (by decide)])]
  · refine bref1 hI ?_ (fun m hm => ?_)
    · unfold f_X6_are
      simp only [within_0 h1, if_true, refuse_1, Option.bind_some]
    · unfold f_X7_are
      simp only [in_0_3, within_0 h1, if_true, finds_1, Option.bind_some]
theorem lp_on : LP_on Inv := by
  intro im hI a1
  obtain ⟨⟨V, v1, v2, v3⟩, -⟩ := id hI
  by_cases h1 : wi a1 0 30
  · refine ⟨sOf (fun t => decide (vT V t 4 = a1) && pStd (vT V t 6)) (vN V), im, im, ?_, ?_, hI⟩
    · unfold f_X6_on f_X6_isCell
      simp only [within_1 h1, zb_1, i10, if_false, allOn_c v1.2.2.2.2.1 v3.1, Option.bind_some]
      rw [sOf_cg (fun t ht => by rw [v1.2.2.1 t ht 6 (by decide), v1.2.2.1 t ht 4 (by decide)])]
    · unfold f_X7_on f_X7_isCell
      simp only [in_0_30, within_1 h1, zb_1, i10, if_false, onCell_r v2.2.2.2.2.1 v3.1, Option.bind_some]
      rw [sOf_cg (fun t ht => by rw [v2.2.2.1 t ht 6 (by decide), v2.2.2.1 t ht 4 (by decide)])]
  · refine bref1 hI ?_ (fun m hm => ?_)
    · unfold f_X6_on f_X6_isCell
      simp only [within_0 h1, zb_0, if_true, refuse_1, Option.bind_some]
    · unfold f_X7_on f_X7_isCell
      simp only [in_0_30, within_0 h1, zb_0, if_true, finds_1, Option.bind_some]
