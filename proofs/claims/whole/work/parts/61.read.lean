/-! reading, as a value -/
abbrev TK : Type := (Nat → Nat) × Nat × Nat × (Nat → Nat) × (Nat → Nat)
abbrev kB (X : TK) : Nat → Nat := X.1
abbrev kq (X : TK) : Nat := X.2.1
abbrev kJ (X : TK) : Nat := X.2.2.1
abbrev kb (X : TK) : Nat → Nat := X.2.2.2.1
abbrev ke (X : TK) : Nat → Nat := X.2.2.2.2
def tks (X : TK) : Prop := kq X ≤ 120 ∧ kJ X ≤ kq X ∧ (∀ k, kB X k < 256) ∧ (∀ j, j < kJ X → kb X j < kq X) ∧ (∀ j, j ≤ kJ X → tok (kB X) (kq X) (pe (ke X) j) (kb X j) (ke X j)) ∧ kb X (kJ X) = kq X ∧ ke X (kJ X) = kq X
def vl (X : TK) (j : Nat) : Nat := cv (kB X) (kb X j) (ke X j - kb X j)
def go (X : TK) (j : Nat) : Nat := if j < kJ X then j + 1 else j
theorem go_le {X : TK} {j : Nat} (h : j ≤ kJ X) : go X j ≤ kJ X := by
  unfold go
  by_cases c : j < kJ X
  · rw [if_pos c]; omega
  · rw [if_neg c]; exact h
noncomputable def wB (X : TK) (a j : Nat) : Bool := @decide (j < kJ X ∧ ty (kB X (kb X j)) = 1 ∧ ke X j - kb X j = xLEN.getD a 0 ∧ ∀ i, i < xLEN.getD a 0 → nI (kB X (kb X j + i)) = (xBYT.getD a []).getD i 0) (Classical.propDecidable _)
theorem wB_iff {X : TK} {a j : Nat} : wB X a j = true ↔ (j < kJ X ∧ ty (kB X (kb X j)) = 1 ∧ ke X j - kb X j = xLEN.getD a 0 ∧ ∀ i, i < xLEN.getD a 0 → nI (kB X (kb X j + i)) = (xBYT.getD a []).getD i 0) := by
  unfold wB
  exact @decide_eq_true_iff _ (Classical.propDecidable _)
def nB (X : TK) (j lo hi : Nat) : Bool := decide (j < kJ X ∧ ty (kB X (kb X j)) = 2 ∧ lo ≤ vl X j ∧ vl X j ≤ hi)
theorem nB_iff {X : TK} {j lo hi : Nat} : nB X j lo hi = true ↔ (j < kJ X ∧ ty (kB X (kb X j)) = 2 ∧ lo ≤ vl X j ∧ vl X j ≤ hi) := decide_eq_true_iff
def gB (X : TK) (j b : Nat) : Bool := decide (j < kJ X ∧ kB X (kb X j) = b)
theorem gB_iff {X : TK} {j b : Nat} : gB X j b = true ↔ (j < kJ X ∧ kB X (kb X j) = b) := decide_eq_true_iff
def fG (V : TV) (a e : Nat) (s : Int32) : TV := (V.1, (fun c => if a ≤ c ∧ c < e then s else vG V c), V.2.2)
def fF (V : TV) (a e : Nat) (s : Int32) : TV := ((fun c => if a ≤ c ∧ c < e then s else vF V c), V.2)
def fillG (V : TV) (a b : Nat) (s : Int32) : TV := fG V a (b + 1) s
def fillF (V : TV) (a b : Nat) (s : Int32) : TV := fF V a (b + 1) s
def setAB (V : TV) (x y : Int32) : TV := (V.1, V.2.1, V.2.2.1, V.2.2.2.1, V.2.2.2.2.1, x, y, V.2.2.2.2.2.2.2)
noncomputable def pCells (X : TK) (j : Nat) : Nat × Option (Nat × Nat) :=
  if nB X j 0 30 = true then (if wB X 3 (go X j) = true then (if nB X (go X (go X j)) (vl X j) 30 = true then (go X (go X (go X j)), some (vl X j, vl X (go X (go X j)))) else (go X (go X j), none)) else (go X j, some (vl X j, vl X j))) else (j, none)
noncomputable def pGr (X : TK) (j : Nat) (s : Int32) (V : TV) : Nat × Option TV := ((pCells X j).1, (pCells X j).2.map (fun ab => fillG V ab.1 ab.2 s))
noncomputable def sgn (X : TK) (j : Nat) : Nat := if gB X j 45 = true then go X j else j
noncomputable def pFall2 (X : TK) (j : Nat) (V : TV) (ab : Nat × Nat) : Nat × Option TV :=
  if wB X 2 j = true then (if nB X (sgn X (go X j)) 0 9 = true then (go X (sgn X (go X j)), some (fillF V ab.1 ab.2 (if gB X (go X j) 45 = true then -(nI (vl X (sgn X (go X j)))) else nI (vl X (sgn X (go X j)))))) else (sgn X (go X j), none)) else (j, none)
noncomputable def pFall (X : TK) (j : Nat) (V : TV) : Nat × Option TV :=
  match (pCells X j).2 with
  | none => ((pCells X j).1, none)
  | some ab => pFall2 X (pCells X j).1 V ab
noncomputable def pShut (X : TK) (j : Nat) (V : TV) : Nat × Option TV :=
  if nB X j 0 59 = true then (if wB X 3 (go X j) = true then (if nB X (go X (go X j)) 0 59 = true then (go X (go X (go X j)), some (setAB V (nI (vl X j)) (nI (vl X (go X (go X j)))))) else (go X (go X j), none)) else (go X j, none)) else (j, none)
noncomputable def pOpt (X : TK) (a lo hi d j : Nat) : Nat × Option Nat :=
  if wB X a j = true then (if nB X (go X j) lo hi = true then (go X (go X j), some (vl X (go X j))) else (go X j, none)) else (j, some d)
noncomputable def pTh3 (X : TK) (j : Nat) (k : Int32) (V : TV) (w r : Nat) : Nat × Option TV :=
  ((pOpt X 6 0 9 0 j).1, (pOpt X 6 0 9 0 j).2.map (fun l => addV V (newX k (nI w) (nI r) (nI l))))
noncomputable def pTh2 (X : TK) (j : Nat) (k : Int32) (V : TV) (w : Nat) : Nat × Option TV :=
  match (pOpt X 5 1 9 4 j).2 with
  | none => ((pOpt X 5 1 9 4 j).1, none)
  | some r => pTh3 X (pOpt X 5 1 9 4 j).1 k V w r
noncomputable def pTh1 (X : TK) (j : Nat) (k : Int32) (V : TV) : Nat × Option TV :=
  match (pOpt X 4 1 99 10 j).2 with
  | none => ((pOpt X 4 1 99 10 j).1, none)
  | some w => pTh2 X (pOpt X 4 1 99 10 j).1 k V w
noncomputable def pThing (X : TK) (j : Nat) (k : Int32) (V : TV) : Nat × Option TV := if vN V < 10 then pTh1 X (go X j) k V else (j, none)
noncomputable def gIx (X : TK) (j : Nat) : Nat := if wB X 7 j = true then 0 else if wB X 8 j = true then 1 else if wB X 9 j = true then 2 else if wB X 10 j = true then 3 else if wB X 11 j = true then 4 else 5
noncomputable def kIx (X : TK) (j : Nat) : Nat := if wB X 12 j = true then 0 else if wB X 13 j = true then 1 else if wB X 14 j = true then 2 else if wB X 15 j = true then 3 else if wB X 16 j = true then 4 else if wB X 17 j = true then 5 else if wB X 18 j = true then 6 else 7
noncomputable def pItem (X : TK) (j : Nat) (V : TV) : Nat × Option TV :=
  if gIx X j < 5 then pGr X (go X j) (nI (gIx X j)) V else if kIx X j < 7 then pThing X j (nI (kIx X j)) V else if wB X 0 j = true then pFall X (go X j) V else if wB X 1 j = true then pShut X (go X j) V else (j, none)
theorem gIx_s {X : TK} {j : Nat} : gIx X j ≤ 5 ∧ (∀ s, s < gIx X j → ¬ wB X (7 + s) j = true) ∧ (gIx X j < 5 → wB X (7 + gIx X j) j = true) := by
  unfold gIx
  by_cases c0 : wB X 7 j = true
  · rw [if_pos c0]; exact ⟨by omega, fun s hs => absurd hs (by omega), fun _ => c0⟩
  · rw [if_neg c0]
    by_cases c1 : wB X 8 j = true
    · rw [if_pos c1]
      refine ⟨by omega, fun s hs => ?_, fun _ => c1⟩
      have : s = 0 := by omega
      subst this; exact c0
    · rw [if_neg c1]
      by_cases c2 : wB X 9 j = true
      · rw [if_pos c2]
        refine ⟨by omega, fun s hs => ?_, fun _ => c2⟩
        have : s = 0 ∨ s = 1 := by omega
        rcases this with rfl | rfl
        · exact c0
        · exact c1
      · rw [if_neg c2]
        by_cases c3 : wB X 10 j = true
        · rw [if_pos c3]
          refine ⟨by omega, fun s hs => ?_, fun _ => c3⟩
          have : s = 0 ∨ s = 1 ∨ s = 2 := by omega
          rcases this with rfl | rfl | rfl
          · exact c0
          · exact c1
          · exact c2
        · rw [if_neg c3]
          by_cases c4 : wB X 11 j = true
          · rw [if_pos c4]
            refine ⟨by omega, fun s hs => ?_, fun _ => c4⟩
            have : s = 0 ∨ s = 1 ∨ s = 2 ∨ s = 3 := by omega
            rcases this with rfl | rfl | rfl | rfl
            · exact c0
            · exact c1
            · exact c2
            · exact c3
          · rw [if_neg c4]
            refine ⟨by omega, fun s hs => ?_, fun z => absurd z (by omega)⟩
            have : s = 0 ∨ s = 1 ∨ s = 2 ∨ s = 3 ∨ s = 4 := by omega
            rcases this with rfl | rfl | rfl | rfl | rfl
            · exact c0
            · exact c1
            · exact c2
            · exact c3
            · exact c4
theorem kIx_s {X : TK} {j : Nat} : kIx X j ≤ 7 ∧ (∀ s, s < kIx X j → ¬ wB X (12 + s) j = true) ∧ (kIx X j < 7 → wB X (12 + kIx X j) j = true) := by
  unfold kIx
  by_cases c0 : wB X 12 j = true
  · rw [if_pos c0]; exact ⟨by omega, fun s hs => absurd hs (by omega), fun _ => c0⟩
  · rw [if_neg c0]
    by_cases c1 : wB X 13 j = true
    · rw [if_pos c1]
      refine ⟨by omega, fun s hs => ?_, fun _ => c1⟩
      have : s = 0 := by omega
      subst this; exact c0
    · rw [if_neg c1]
      by_cases c2 : wB X 14 j = true
      · rw [if_pos c2]
        refine ⟨by omega, fun s hs => ?_, fun _ => c2⟩
        have : s = 0 ∨ s = 1 := by omega
        rcases this with rfl | rfl
        · exact c0
        · exact c1
      · rw [if_neg c2]
        by_cases c3 : wB X 15 j = true
        · rw [if_pos c3]
          refine ⟨by omega, fun s hs => ?_, fun _ => c3⟩
          have : s = 0 ∨ s = 1 ∨ s = 2 := by omega
          rcases this with rfl | rfl | rfl
          · exact c0
          · exact c1
          · exact c2
        · rw [if_neg c3]
          by_cases c4 : wB X 16 j = true
          · rw [if_pos c4]
            refine ⟨by omega, fun s hs => ?_, fun _ => c4⟩
            have : s = 0 ∨ s = 1 ∨ s = 2 ∨ s = 3 := by omega
            rcases this with rfl | rfl | rfl | rfl
            · exact c0
            · exact c1
            · exact c2
            · exact c3
          · rw [if_neg c4]
            by_cases c5 : wB X 17 j = true
            · rw [if_pos c5]
              refine ⟨by omega, fun s hs => ?_, fun _ => c5⟩
              have : s = 0 ∨ s = 1 ∨ s = 2 ∨ s = 3 ∨ s = 4 := by omega
              rcases this with rfl | rfl | rfl | rfl | rfl
              · exact c0
              · exact c1
              · exact c2
              · exact c3
              · exact c4
            · rw [if_neg c5]
              by_cases c6 : wB X 18 j = true
              · rw [if_pos c6]
                refine ⟨by omega, fun s hs => ?_, fun _ => c6⟩
                have : s = 0 ∨ s = 1 ∨ s = 2 ∨ s = 3 ∨ s = 4 ∨ s = 5 := by omega
                rcases this with rfl | rfl | rfl | rfl | rfl | rfl
                · exact c0
                · exact c1
                · exact c2
                · exact c3
                · exact c4
                · exact c5
              · rw [if_neg c6]
                refine ⟨by omega, fun s hs => ?_, fun z => absurd z (by omega)⟩
                have : s = 0 ∨ s = 1 ∨ s = 2 ∨ s = 3 ∨ s = 4 ∨ s = 5 ∨ s = 6 := by omega
                rcases this with rfl | rfl | rfl | rfl | rfl | rfl | rfl
                · exact c0
                · exact c1
                · exact c2
                · exact c3
                · exact c4
                · exact c5
                · exact c6
/-! the class at token j -/
def cst (m : IM) (X : TK) (j : Nat) : Prop := j ≤ kJ X ∧ m 66 7 = nI j ∧ m 66 6 = nI (kJ X + 1) ∧ (∀ i, i < kJ X → arr m (kB X) (kb X) (ke X) i) ∧ m 68 (kJ X) = nI (kq X) ∧ m 70 (kJ X) = 0 ∧ ∀ k, k < kq X → m 67 k = nI (kB X k)
def lfr (m m' : IM) : Prop := (∀ a, a ≠ 66 → ¬ (31 ≤ a ∧ a < 46) → m' a = m a) ∧ ∀ k, (k < 7 ∨ 10 < k) → m' 66 k = m 66 k
theorem lfr_refl {m : IM} : lfr m m := ⟨fun _ _ _ => rfl, fun _ _ => rfl⟩
theorem lfr_trans {a b c : IM} (h : lfr a b) (g : lfr b c) : lfr a c := ⟨fun x h1 h2 => (g.1 x h1 h2).trans (h.1 x h1 h2), fun k hk => (g.2 k hk).trans (h.2 k hk)⟩
theorem cst_l {m m' : IM} {X : TK} {j i : Nat} (h : cst m X j) (g : lfr m m') (hi : i ≤ kJ X) (e : m' 66 7 = nI i) : cst m' X i := by
  obtain ⟨h1, h2, h3, h4, h5, h6, h7⟩ := h
  refine ⟨hi, e, by rw [g.2 6 (by decide)]; exact h3, fun k hk => ?_, by rw [g.1 68 (by decide) (by omega)]; exact h5, by rw [g.1 70 (by decide) (by omega)]; exact h6, fun k hk => by rw [g.1 67 (by decide) (by omega)]; exact h7 k hk⟩
  have := h4 k hk
  unfold arr at this ⊢
  rw [g.1 68 (by decide) (by omega), g.1 69 (by decide) (by omega), g.1 70 (by decide) (by omega), g.1 71 (by decide) (by omega)]
  exact this
theorem lfr_66 {m : IM} {k : Nat} {x : Int32} (hk : 7 ≤ k ∧ k ≤ 10) : lfr m (up m 66 k x) := ⟨fun a h1 _ => up_row h1, fun i hi => up_ne (by omega)⟩
theorem lfr_T {m : IM} {a k : Nat} {x : Int32} (ha : 31 ≤ a ∧ a < 46) : lfr m (up m a k x) := ⟨fun b h1 h2 => up_row (by omega), fun i hi => by rw [up_row (by omega)]⟩
theorem goOn_c {m : IM} {X : TK} {j : Nat} (h : cst m X j) (hJ : kJ X ≤ 120) : f_X1_goOn m = up m 66 7 (nI (go X j)) := by
  obtain ⟨h1, h2, h3, -⟩ := h
  unfold f_X1_goOn go
  rw [h3, nI_pred, h2]
  by_cases c : j < kJ X
  · rw [if_neg (nI_ge c (by omega)), bnd_eq, nI_1, if_pos c]
  · rw [if_pos (nI_le (by omega) (by omega)), if_neg c, ← h2, up_id]
theorem go_c {m : IM} {X : TK} {j : Nat} (h : cst m X j) : cst (up m 66 7 (nI (go X j))) X (go X j) := cst_l h (lfr_66 (by omega)) (go_le h.1) up_same
theorem kwL (im : IM) : ∀ a, a < 19 → f_J0_length_8abf5 a im = nI (xLEN.getD a 0) := by
  have : ∀ a, a < 19 → f_J0_length_8abf5 a (fun _ _ => 0) = nI (xLEN.getD a 0) := by decide +kernel
  exact this
theorem kwC (im : IM) : ∀ a, a < 19 → ∀ i, i < xLEN.getD a 0 → f_J0_charAt_5068e a (nI i) im = some ((xBYT.getD a []).getD i 0) := by
  have : ∀ a, a < 19 → ∀ i, i < xLEN.getD a 0 → f_J0_charAt_5068e a (nI i) (fun _ _ => 0) = some ((xBYT.getD a []).getD i 0) := by decide +kernel
  exact this
theorem kwS : ∀ a, a < 19 → xLEN.getD a 0 ≤ 6 ∧ 1 ≤ xLEN.getD a 0 := by decide +kernel
theorem tok_ft {X : TK} {j : Nat} (hX : tks X) (hj : j < kJ X) : kb X j < ke X j ∧ ke X j ≤ kq X := by
  obtain ⟨h1, h2, h3, h4, h5, h6, h7⟩ := hX
  obtain ⟨a1, a2, a3, a4⟩ := h5 j (by omega)
  have := h4 j hj
  rcases a4 with ⟨z, -⟩ | ⟨z1, z2, z3, z4, -⟩
  · omega
  · exact ⟨z3, z4⟩
theorem isWord_c {m : IM} {X : TK} {j a : Nat} (hX : tks X) (h : cst m X j) (ha : a < 19) : f_X1_isWord a m = some (if wB X a j = true then 1 else 0) := by
  obtain ⟨q1, q2, -⟩ := id hX
  obtain ⟨h1, h2, h3, h4, h5, h6, h7⟩ := h
  have ib := inb_nI (show j < 121 by omega) (show 121 < 2 ^ 31 by decide)
  have ij : ix (nI j) = j := ix_nI (by omega)
  obtain ⟨l6, l1⟩ := kwS a ha
  unfold f_X1_isWord f_X1_isWord_j1
  rw [h2, if_pos ib, ij]
  by_cases c : j < kJ X
  · obtain ⟨a1, a2, a3, a4⟩ := h4 j c
    obtain ⟨t1, t2⟩ := tok_ft hX c
    have tl := ty_lt (kB X (kb X j))
    rw [a3]
    by_cases c1 : ty (kB X (kb X j)) = 1
    · rw [if_pos (by rw [c1]; rfl), if_pos ib, if_pos ib, a1, a2, kwL m a ha, pk_sub (by omega)]
      by_cases c2 : ke X j - kb X j = xLEN.getD a 0
      · rw [if_pos (by rw [c2])]
        have key1 : ∃ x : Int32, f_X1_isWord_l2 a m xF 0 = some x ∧ ((x = 1 ∧ ∀ i, i < xLEN.getD a 0 → nI (kB X (kb X j + i)) = (xBYT.getD a []).getD i 0) ∨ (x = 0 ∧ ∃ i, i < xLEN.getD a 0 ∧ ¬ nI (kB X (kb X j + i)) = (xBYT.getD a []).getD i 0)) := by
          refine loopG (fun f (_ : Unit) i => f_X1_isWord_l2 a m f i) some 0 0 rfl (xLEN.getD a 0) (by omega) (by omega) (fun i _ => ∀ k, k < i → nI (kB X (kb X j + k)) = (xBYT.getD a []).getD k 0) _ (fun f _ hP => ⟨1, ?_, Or.inl ⟨rfl, hP⟩⟩) (fun f _ i hi0 hi hP => ?_) () (fun k hk => absurd hk (Nat.not_lt_zero _))
          · show f_X1_isWord_l2b a m _ (nI (xLEN.getD a 0)) = _
            unfold f_X1_isWord_l2b
            rw [kwL m a ha, if_pos (Int32.le_refl _)]
          · have e0 : f_X1_isWord_l2 a m (f + 1) (nI i) = if nI (kB X (kb X j + i)) = (xBYT.getD a []).getD i 0 then f_X1_isWord_l2 a m f (nI (i + 1)) else some 0 := by
              show f_X1_isWord_l2b a m _ (nI i) = _
              unfold f_X1_isWord_l2b
              rw [kwL m a ha, if_neg (nI_ge hi (by omega)), h2, if_pos ib, ij, a1, nI_add, if_pos (inb_nI (show kb X j + i < 120 by omega) (by decide)), kwC m a ha i hi, Option.bind_some, ix_nI (by omega), h7 (kb X j + i) (by omega), bnd_eq, nI_1]
            by_cases z : nI (kB X (kb X j + i)) = (xBYT.getD a []).getD i 0
            · rw [if_pos z] at e0
              refine Or.inr ⟨(), e0, fun k hk => ?_⟩
              by_cases e : k = i
              · subst e; exact z
              · exact hP k (by omega)
            · rw [if_neg z] at e0
              exact Or.inl ⟨0, e0, Or.inr ⟨rfl, i, hi, z⟩⟩
        obtain ⟨x, ex, hx⟩ := key1
        rw [ex]
        rcases hx with ⟨z, y⟩ | ⟨z, i, y1, y2⟩
        · rw [z, if_pos (wB_iff.mpr ⟨c, c1, c2, y⟩)]
        · rw [z, if_neg (fun w => y2 ((wB_iff.mp w).2.2.2 i y1))]
      · rw [if_neg (fun z => c2 (nI_u (by omega) (by omega) z)), if_neg (fun w => c2 (wB_iff.mp w).2.2.1)]
    · rw [if_neg (fun z => c1 ((nI_eq_lit (n := 1) 1 (by decide) (by omega)).mp z)), if_neg (fun w => c1 (wB_iff.mp w).2.1)]
  · have e : j = kJ X := by omega
    rw [e, h6, if_neg (by decide), if_neg (fun w => absurd (wB_iff.mp w).1 (by omega))]
theorem takeWord_c {m : IM} {X : TK} {j a : Nat} (hX : tks X) (h : cst m X j) (ha : a < 19) : f_X1_takeWord a m = if wB X a j = true then some (1, up m 66 7 (nI (go X j))) else some (0, m) := by
  have := hX.1
  have := hX.2.1
  unfold f_X1_takeWord f_X1_takeWord_j1
  rw [isWord_c hX h ha, Option.bind_some, goOn_c h (by omega), bnd_eq]
  by_cases c : wB X a j = true
  · rw [if_pos c, if_pos c, if_neg i10, zb_1]
  · rw [if_neg c, if_neg c, if_pos rfl, zb_0]
theorem takeNumber_c {m : IM} {X : TK} {j lo hi : Nat} (hX : tks X) (h : cst m X j) (L H : Int32) (hL : L = nI lo) (hH : H = nI hi) (hl : lo < 2 ^ 31) (hh : hi < 2 ^ 31) : f_X1_takeNumber L H m = if nB X j lo hi = true then some (1, up (up m 66 8 (nI (vl X j))) 66 7 (nI (go X j))) else some (0, m) := by
  subst hL hH
  obtain ⟨q1, q2, -⟩ := id hX
  obtain ⟨h1, h2, h3, h4, h5, h6, h7⟩ := id h
  have ib := inb_nI (show j < 121 by omega) (show 121 < 2 ^ 31 by decide)
  have ij : ix (nI j) = j := ix_nI (by omega)
  unfold f_X1_takeNumber f_X1_takeNumber_j1
  rw [h2, if_pos ib, ij]
  by_cases c : j < kJ X
  · obtain ⟨a1, a2, a3, a4⟩ := h4 j c
    have tl := ty_lt (kB X (kb X j))
    rw [a3]
    by_cases c1 : ty (kB X (kb X j)) = 2
    · have cl := cv_le (B := kB X) (f := kb X j) (ke X j - kb X j)
      rw [if_pos (by rw [c1]; rfl), if_pos ib, a4 c1, if_pos ib, bnd_eq]
      by_cases c2 : lo ≤ cv (kB X) (kb X j) (ke X j - kb X j) ∧ cv (kB X) (kb X j) (ke X j - kb X j) ≤ hi
      · rw [within_1 ⟨nI_le c2.1 (by omega), nI_le c2.2 (by omega)⟩, if_neg i10, goOn_c (X := X) (j := j) (cst_l h (lfr_66 (by omega)) h1 (by rw [up_ne (by decide)]; exact h2)) (by omega), bnd_eq, if_pos (nB_iff.mpr ⟨c, c1, c2⟩)]
        rfl
      · rw [within_0 (fun z => c2 ⟨(nI_leI (by omega) (by omega)).mp z.1, (nI_leI (by omega) (by omega)).mp z.2⟩), if_pos rfl, if_neg (fun w => c2 (nB_iff.mp w).2.2)]
    · rw [if_neg (fun z => c1 ((nI_eq_lit (n := 2) 2 (by decide) (by omega)).mp z)), if_neg (fun w => c1 (nB_iff.mp w).2.1)]
  · have e : j = kJ X := by omega
    rw [e, h6, if_neg (by decide), if_neg (fun w => absurd (nB_iff.mp w).1 (by omega))]
theorem takeSign_c {m : IM} {X : TK} {j b : Nat} (hX : tks X) (h : cst m X j) (hb : b = 59 ∨ b = 45) : f_X1_takeSign (nI b) m = if gB X j b = true then some (1, up m 66 7 (nI (go X j))) else some (0, m) := by
  obtain ⟨q1, q2, q3, q4, -⟩ := id hX
  obtain ⟨h1, h2, h3, h4, h5, h6, h7⟩ := id h
  have ib := inb_nI (show j < 121 by omega) (show 121 < 2 ^ 31 by decide)
  have ij : ix (nI j) = j := ix_nI (by omega)
  unfold f_X1_takeSign f_X1_takeSign_j1 f_X1_takeSign_j2 f_X1_takeSign_j3
  rw [h2, if_pos ib, ij]
  by_cases c : j < kJ X
  · obtain ⟨a1, a2, a3, a4⟩ := h4 j c
    have tl := ty_lt (kB X (kb X j))
    have t3 : ty b = 3 := by rcases hb with rfl | rfl <;> decide
    have b256 := q3 (kb X j)
    rw [a3, a1]
    by_cases c1 : ty (kB X (kb X j)) = 3
    · rw [if_pos (by rw [c1]; rfl), if_pos ib, if_pos (inb_nI (show kb X j < 120 by have := q4 j c; omega) (by decide)), ix_nI (show kb X j < 2 ^ 31 by have := q4 j c; omega), h7 (kb X j) (q4 j c)]
      by_cases c2 : kB X (kb X j) = b
      · rw [if_pos (by rw [c2]), if_neg i10, goOn_c h (by omega), bnd_eq, if_pos (gB_iff.mpr ⟨c, c2⟩), zb_1]
      · rw [if_neg (fun z => c2 (nI_u (by omega) (by omega) z)), if_pos rfl, if_neg (fun w => c2 (gB_iff.mp w).2), zb_0]
    · rw [if_neg (fun z => c1 ((nI_eq_lit (n := 3) 3 (by decide) (by omega)).mp z)), if_pos rfl, if_neg (fun w => c1 (by rw [(gB_iff.mp w).2]; exact t3)), zb_0]
  · have e : j = kJ X := by omega
    rw [e, h6, if_neg (by decide), if_pos rfl, if_neg (fun w => absurd (gB_iff.mp w).1 (by omega)), zb_0]
