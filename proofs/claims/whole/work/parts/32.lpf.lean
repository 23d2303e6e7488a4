/-! loops whose end goes on elsewhere -/
theorem loopM {α β γ : Type} (L : Nat → α → Option β) (R : γ → Option β) (P : α → Prop) (μ : α → Nat) (Q : γ → Prop) (hs : ∀ f a, P a → (∃ c, L (f + 1) a = R c ∧ Q c) ∨ ∃ a', L (f + 1) a = L f a' ∧ P a' ∧ μ a' < μ a) : ∀ (f : Nat) (a : α), μ a < f → P a → ∃ c, L f a = R c ∧ Q c := by
  intro f
  induction f with
  | zero => intro a h; omega
  | succ f ih =>
    intro a h hP
    rcases hs f a hP with q | ⟨a', e, hP', hm⟩
    · exact q
    · rw [e]
      exact ih a' (by omega) hP'
theorem loopG {α β γ : Type} (L : Nat → α → Int32 → Option β) (R : γ → Option β) (k : Nat) (K : Int32) (hK : K = nI k) (N : Nat) (hN : N < 5000) (hk : k ≤ N) (P : Nat → α → Prop) (Q : γ → Prop) (h0 : ∀ f a, P N a → ∃ c, L (f + 1) a (nI N) = R c ∧ Q c) (hs : ∀ f a i, k ≤ i → i < N → P i a → (∃ c, L (f + 1) a (nI i) = R c ∧ Q c) ∨ ∃ a', L (f + 1) a (nI i) = L f a' (nI (i + 1)) ∧ P (i + 1) a') (a : α) (hP : P k a) : ∃ c, L xF a K = R c ∧ Q c := by
  subst hK
  refine loopM (fun f (s : α × Nat) => L f s.1 (nI s.2)) R (fun s => k ≤ s.2 ∧ s.2 ≤ N ∧ P s.2 s.1) (fun s => N - s.2) Q (fun f s h => ?_) xF (a, k) (by show N - k < xF; unfold xF; omega) ⟨Nat.le_refl _, hk, hP⟩
  obtain ⟨a, i⟩ := s
  obtain ⟨h1, h2, h3⟩ := h
  have h1 : k ≤ i := h1
  have h2 : i ≤ N := h2
  have h3 : P i a := h3
  by_cases e : i = N
  · subst e
    exact Or.inl (h0 f a h3)
  · rcases hs f a i h1 (by omega) h3 with q | ⟨a', e2, h'⟩
    · exact Or.inl q
    · exact Or.inr ⟨(a', i + 1), e2, ⟨by show k ≤ i + 1; omega, by show i + 1 ≤ N; omega, h'⟩, by show N - (i + 1) < N - i; omega⟩
theorem loopD {α β γ : Type} (L : Nat → α → Int32 → Option β) (R : γ → Option β) (N : Nat) (hN : N < 5000) (P : Nat → α → Prop) (Q : γ → Prop) (h0 : ∀ f a, P 0 a → ∃ c, L (f + 1) a (nI 0) = R c ∧ Q c) (hs : ∀ f a i, i < N → P (i + 1) a → (∃ c, L (f + 1) a (nI (i + 1)) = R c ∧ Q c) ∨ ∃ a', L (f + 1) a (nI (i + 1)) = L f a' (nI i) ∧ P i a') (a : α) (hP : P N a) : ∃ c, L xF a (nI N) = R c ∧ Q c := by
  refine loopM (fun f (s : α × Nat) => L f s.1 (nI s.2)) R (fun s => s.2 ≤ N ∧ P s.2 s.1) (fun s => s.2) Q (fun f s h => ?_) xF (a, N) (by show N < xF; unfold xF; omega) ⟨Nat.le_refl _, hP⟩
  obtain ⟨a, i⟩ := s
  obtain ⟨h2, h3⟩ := h
  have h2 : i ≤ N := h2
  have h3 : P i a := h3
  cases i with
  | zero => exact Or.inl (h0 f a h3)
  | succ i =>
    rcases hs f a i (by omega) h3 with q | ⟨a', e2, h'⟩
    · exact Or.inl q
    · exact Or.inr ⟨(a', i), e2, ⟨by show i ≤ N; omega, h'⟩, by show i < i + 1; omega⟩
/-! as -/
def kL (a1 : Int32) : Nat → Int32 → Int32 → Option Int32
  | 0, _, _ => none
  | n + 1, x2, x3 => if 7 ≤ x3 then some 0 else if (f_X6_within x2 0 6) = 0 then some 0 else if x2 = a1 then some 1 else if inb x2 7 = true then kL a1 n (xKA (ix x2)) (x3 + 1) else none
theorem kL_c {a0 : Nat} {a1 : Int32} {im : IM} : ∀ (n : Nat) (x2 x3 : Int32), f_X4_isOfKind_l1 a0 a1 im n x2 x3 = kL a1 n x2 x3 := by
  intro n
  induction n with
  | zero => intro x2 x3; rfl
  | succ n ih =>
    intro x2 x3
    show f_X4_isOfKind_l1b a0 a1 im _ x2 x3 = _
    unfold f_X4_isOfKind_l1b f_X4_isOfKind_j2
    simp only [bnd_eq, ih]
    rfl
def pIs (own kind : Int32) : Bool := decide (kind = 0) || decide (own = kind) || (decide (kind = 1) && (decide (own = 3) || decide (own = 5))) || (decide (kind = 2) && decide (own = 4))
theorem kL_v : ∀ k, k < 7 → ∀ w, w < 7 → kL (nI w) 5000 (nI k) 0 = some (if pIs (nI k) (nI w) = true then 1 else 0) := by decide +kernel
theorem isOf_c {a0 : Nat} {a1 : Int32} {im : IM} (h0 : wi (im a0 0) 0 6) (h1 : wi a1 0 6) : f_X4_isOfKind a0 a1 im = some (if pIs (im a0 0) a1 = true then 1 else 0) := by
  obtain ⟨k, hk, e⟩ := rng_of (n := 6) 6 (by decide) h0.1 h0.2
  obtain ⟨w, hw, rfl⟩ := rng_of (n := 6) 6 (by decide) h1.1 h1.2
  unfold f_X4_isOfKind
  rw [bnd_eq, kL_c, e]
  exact kL_v k (by omega) w (by omega)
theorem isOf_r {a1 a2 x3 x4 : Int32} {im : IM} : (if a2 = 0 then f_X7_as_j2 a1 a2 x3 im else if x4 = a2 then f_X7_as_j2 a1 a2 x3 im else if a2 = 1 then if x4 = 3 then f_X7_as_j2 a1 a2 x3 im else if x4 = 5 then f_X7_as_j2 a1 a2 x3 im else f_X7_as_j4 a1 a2 x3 x4 im else f_X7_as_j4 a1 a2 x3 x4 im) = if pIs x4 a2 = true then some (x3, im) else f_X7_as_j5 a1 a2 x3 im := by
  have e2 : f_X7_as_j2 a1 a2 x3 im = some (x3, im) := by
    unfold f_X7_as_j2 f_X7_as_j3
    rw [if_neg i10]
  unfold f_X7_as_j4 pIs
  rw [e2]
  by_cases c0 : a2 = 0
  · simp [c0]
  · by_cases c : x4 = a2
    · simp [c]
    · by_cases c1 : a2 = 1
      · subst c1
        by_cases d3 : x4 = 3
        · simp [d3]
        · by_cases d5 : x4 = 5
          · simp [d5]
          · simp [c, d3, d5]
      · by_cases c2 : a2 = 2
        · subst c2
          by_cases d4 : x4 = 4
          · simp [d4]
          · simp [c, d4]
        · simp [c0, c, c1, c2]
theorem lp_as : LP_as Inv := by
  intro im hI a1 a2
  obtain ⟨⟨V, v1, v2, v3⟩, -⟩ := id hI
  by_cases h1 : wi a1 0 9
  · by_cases h2 : wi a2 0 6
    · obtain ⟨k, hk, rfl⟩ := rng_of (n := 9) 9 (by decide) h1.1 h1.2
      have ib := inb_nI (show k < 10 by omega) (show 10 < 2 ^ 31 by decide)
      have ib7 := inb_nI (show 157 + k < 167 by omega) (show 167 < 2 ^ 31 by decide)
      have sC : im 5 k = vS V k := v1.2.2.2.1 k (by omega)
      have sR : im 83 (157 + k) = vS V k := v2.2.2.2.1 k (by omega)
      rcases v3.2.2.2.2.1 k (by omega) with hs | ⟨t, ht, hs⟩
      · refine bref6 hI ?_ (fun m hm => ?_)
        · unfold f_X6_as f_X6_isKind
          simp only [within_1 h1, within_1 h2, zb_1, i10, if_false, ib, if_true, bnd_eq, ix_nI (show k < 2 ^ 31 by omega), sC, hs, thing_0 v3.1 v1.2.2.2.2.1 (show ¬ ∃ t, t < vN V ∧ (-1 : Int32) = nI t by
            rintro ⟨t, ht, e⟩
            have := nI_pos (n := t) (by have := v3.1; omega)
            rw [← e] at this
            exact this (by decide)), refuse_6, Option.bind_some]
        · unfold f_X7_as
          simp only [in_0_9, in_0_6, within_1 h1, within_1 h2, i10, if_false, lit_add 157 (k := 157) rfl, ib7, if_true, bnd_eq, ix_nI (show 157 + k < 2 ^ 31 by omega)]
          rw [show m 83 (157 + k) = -1 by rw [hm, up_row (by decide), sR, hs], if_neg (by decide), finds_6, Option.bind_some]
      · have hn := v3.1
        have ht10 : t < 10 := by omega
        have hk6 : wi (vT V t 0) 0 6 := (v3.2.2.2.1 t ht).1
        have cC : f_X6_as (nI k) a2 im = if pIs (vT V t 0) a2 = true then some (nI t, im) else (f_X6_refuse (-1000003) im).bind fun r5 => some (r5.1, r5.2) := by
          unfold f_X6_as f_X6_isKind
          simp only [within_1 h1, within_1 h2, zb_1, i10, if_false, ib, if_true, bnd_eq, ix_nI (show k < 2 ^ 31 by omega), sC, hs, thing_1 v3.1 v1.2.2.2.2.1 ht, inb_nI ht10 (show 10 < 2 ^ 31 by decide), ix_nI (show t < 2 ^ 31 by omega)]
          rw [isOf_c (by rw [row_c v1 ht (by decide)]; exact hk6) h2, Option.bind_some, row_c v1 ht (by decide)]
          by_cases h : pIs (vT V t 0) a2 = true
          · simp only [h, if_true, i10, if_false]
          · simp only [h, Bool.false_eq_true, if_false, if_true, eq_self]
        have cR : ∀ m : IM, m 83 = im 83 → f_X7_as (nI k) a2 m = if pIs (vT V t 0) a2 = true then some (nI t, m) else (f_X7_finds (-1000003) m).bind fun r5 => some (r5.1, r5.2) := by
          intro m hm
          unfold f_X7_as
          simp only [in_0_9, in_0_6, within_1 h1, within_1 h2, i10, if_false, lit_add 157 (k := 157) rfl, ib7, if_true, bnd_eq, ix_nI (show 157 + k < 2 ^ 31 by omega)]
          rw [hm, sR, hs, if_pos (nI_pos' (by omega)), its_w (w := 0) 0 rfl ht10 (by decide), Option.bind_some, hm, row_r v2 ht (by decide), isOf_r]
          by_cases h : pIs (vT V t 0) a2 = true
          · simp only [h, if_true]
          · simp only [h, if_false]
            unfold f_X7_as_j5 f_X7_as_j3
            rw [if_pos (Eq.refl (0 : Int32))]
        by_cases h : pIs (vT V t 0) a2 = true
        · exact ⟨nI t, im, im, by rw [cC, if_pos h], by rw [cR im rfl, if_pos h], hI⟩
        · refine bref3 hI ?_ (fun m hm => ?_)
          · rw [cC, if_neg h, refuse_3, Option.bind_some]
          · rw [cR m (by rw [hm, up_row (by decide)]), if_neg h, finds_3, Option.bind_some]
    · refine bref1 hI ?_ (fun m hm => ?_)
      · unfold f_X6_as f_X6_as_j1 f_X6_isKind
        simp only [within_1 h1, within_0 h2, zb_0, i10, if_false, if_true, refuse_1, Option.bind_some]
      · unfold f_X7_as f_X7_as_j1
        simp only [in_0_9, in_0_6, within_1 h1, within_0 h2, i10, if_false, if_true, finds_1, Option.bind_some]
  · refine bref1 hI ?_ (fun m hm => ?_)
    · unfold f_X6_as f_X6_as_j1
      simp only [within_0 h1, if_true, refuse_1, Option.bind_some]
    · unfold f_X7_as f_X7_as_j1
      simp only [in_0_9, within_0 h1, if_true, finds_1, Option.bind_some]
/-! thing -/
def newX (k w r l : Int32) : Nat → Int32 := fun j => if j = 0 then k else if j = 1 then w else if j = 2 then r else if j = 3 then l else 0
def addV (V : TV) (x : Nat → Int32) : TV := (V.1, V.2.1, (fun t => if t = vN V then x else vT V t), V.2.2.2.1, vN V + 1, V.2.2.2.2.2)
theorem addV_N (V : TV) (x : Nat → Int32) : vN (addV V x) = vN V + 1 := rfl
theorem addV_T (V : TV) (x : Nat → Int32) (t : Nat) : vT (addV V x) t = if t = vN V then x else vT V t := rfl
theorem OkV.add {V : TV} (h : OkV V) (hn : vN V < 10) {x : Nat → Int32} (hx : OkT x) : OkV (addV V x) := by
  obtain ⟨h1, h2, h3, h4, h5, h6⟩ := h
  refine ⟨by rw [addV_N]; omega, h2, h3, fun t ht => ?_, fun k hk => ?_, h6⟩
  · rw [addV_T]
    rw [addV_N] at ht
    by_cases e : t = vN V
    · rw [if_pos e]; exact hx
    · rw [if_neg e]; exact h4 t (by omega)
  · rcases h5 k hk with e | ⟨t, ht, e⟩
    · exact Or.inl e
    · exact Or.inr ⟨t, by rw [addV_N]; omega, e⟩
theorem beg_row {im : IM} {A a : Nat} {k w : Int32} (ha : a ≠ A) : f_X4_beginAs A k w im a = im a := by
  unfold f_X4_beginAs
  simp only [bnd_eq, up_row ha]
theorem beg_w {im : IM} {A j : Nat} {k w : Int32} (hj : j < 8) : f_X4_beginAs A k w im A j = newX k w 4 0 j := by
  unfold f_X4_beginAs
  simp only [bnd_eq]
  have h8 : j = 0 ∨ j = 1 ∨ j = 2 ∨ j = 3 ∨ j = 4 ∨ j = 5 ∨ j = 6 ∨ j = 7 := by omega
  rcases h8 with rfl | rfl | rfl | rfl | rfl | rfl | rfl | rfl <;> simp [up, newX]
theorem full_0 {im : IM} {T n : Nat} (h : im T 4 = nI n) (hn : n < 10) : f_X5_isFull T im = 0 := by
  unfold f_X5_isFull
  rw [h, if_pos ((nI_lt_lit (n := 10) 10 (by decide) (by omega)).mpr hn)]
theorem full_1 {im : IM} {T n : Nat} (h : im T 4 = nI n) (hn : ¬ n < 10) (h2 : n ≤ 10) : f_X5_isFull T im = 1 := by
  unfold f_X5_isFull
  rw [h, if_neg (fun q => hn ((nI_lt_lit (n := 10) 10 (by decide) (by omega)).mp q))]
theorem addThing_c {im : IM} {T : Nat} {V : TV} (v : RC im T V) (hn : vN V < 10) (k w : Int32) : ∃ m, f_X5_addThing T k w im = some m ∧ RC m T (addV V (newX k w 4 0)) ∧ ∀ a, ¬ (T ≤ a ∧ a < T + 15) → m a = im a := by
  have hf := full_0 v.2.2.2.2.1 hn
  obtain ⟨h1, h2, h3, h4, h5, h6, h7, h8, h9⟩ := v
  have o : ∀ a, a ≠ T + 5 + vN V → a ≠ T → (up (f_X4_beginAs (T + 5 + vN V) k w im) T 4 (nI (vN V + 1))) a = im a := fun a ha hb => by rw [up_row hb, beg_row ha]
  refine ⟨up (f_X4_beginAs (T + 5 + vN V) k w im) T 4 (nI (vN V + 1)), ?_, ⟨fun c hc => by rw [o _ (by omega) (by omega)]; exact h1 c hc, fun c hc => by rw [o _ (by omega) (by omega)]; exact h2 c hc, fun t ht j hj => ?_, fun c hc => by rw [o _ (by omega) (by omega)]; exact h4 c hc, by rw [up_same]; rfl, ?_, ?_, ?_, ?_⟩, fun a ha => o a (by omega) (by omega)⟩
  · unfold f_X5_addThing
    rw [if_pos hf, bnd_eq, h5, if_pos (inb_nI hn (by decide)), ix_nI (by omega), bnd_eq, bnd_eq, beg_row (by omega), h5, nI_1]
  · rw [addV_T]
    rw [addV_N] at ht
    by_cases e : t = vN V
    · subst e
      rw [up_row (by omega), beg_w hj, if_pos rfl]
    · rw [if_neg e, o _ (by omega) (by omega)]
      exact h3 t (by omega) j hj
  · rw [up_ne (by decide), beg_row (by omega)]; exact h6
  · rw [up_ne (by decide), beg_row (by omega)]; exact h7
  · rw [up_ne (by decide), beg_row (by omega)]; exact h8
  · rw [up_ne (by decide), beg_row (by omega)]; exact h9
theorem newThing_r {im : IM} {V : TV} (v : RR im 83 V) (hn : vN V < 10) (k w r l : Int32) : ∃ m, f_X7_newThing k w r l im = some (nI (vN V), m) ∧ RR m 83 (addV V (newX k w r l)) ∧ ∀ a, a ≠ 83 → m a = im a := by
  obtain ⟨h1, h2, h3, h4, h5, h6, h7, h8, h9⟩ := v
  have key : ∃ c : IM, f_X7_newThing k w r l im = some (nI (vN V), up (up (up (up (up c 83 (67 + 9 * vN V + 0) k) 83 (67 + 9 * vN V + 1) w) 83 (67 + 9 * vN V + 2) r) 83 (67 + 9 * vN V + 3) l) 83 1 (nI (vN V + 1))) ∧ ((∀ a, a ≠ 83 → c a = im a) ∧ (∀ j, j < 9 → c 83 (67 + 9 * vN V + j) = 0) ∧ ∀ j, (j < 67 + 9 * vN V ∨ 67 + 9 * vN V + 8 < j) → c 83 j = im 83 j) := by
    unfold f_X7_newThing
    rw [bnd_eq, h5]
    refine loopG (fun f m i => f_X7_newThing_l1 k w r l f (nI (vN V)) i m) (fun c : IM => some (nI (vN V), up (up (up (up (up c 83 (67 + 9 * vN V + 0) k) 83 (67 + 9 * vN V + 1) w) 83 (67 + 9 * vN V + 2) r) 83 (67 + 9 * vN V + 3) l) 83 1 (nI (vN V + 1)))) 0 0 rfl 9 (by omega) (by omega) (fun i c => (∀ a, a ≠ 83 → c a = im a) ∧ (∀ j, j < i → c 83 (67 + 9 * vN V + j) = 0) ∧ ∀ j, (j < 67 + 9 * vN V ∨ 67 + 9 * vN V + 8 < j) → c 83 j = im 83 j) _ (fun f c hP => ⟨c, ?_, hP⟩) (fun f c i hi0 hi hP => Or.inr ⟨up c 83 (67 + 9 * vN V + i) 0, ?_, fun a ha => ?_, fun j hj => ?_, fun j hj => ?_⟩) im ⟨fun _ _ => rfl, fun j hj => absurd hj (Nat.not_lt_zero _), fun _ _ => rfl⟩
    · show f_X7_newThing_l1b k w r l _ (nI (vN V)) (nI 9) c = _
      unfold f_X7_newThing_l1b
      rw [if_pos (by decide)]
      simp only [at_in (w := 0) 0 rfl hn (by decide), at_in (w := 1) 1 rfl hn (by decide), at_in (w := 2) 2 rfl hn (by decide), at_in (w := 3) 3 rfl hn (by decide), at_ix (w := 0) 0 rfl hn (by decide), at_ix (w := 1) 1 rfl hn (by decide), at_ix (w := 2) 2 rfl hn (by decide), at_ix (w := 3) 3 rfl hn (by decide), if_true, bnd_eq]
      rw [up_ne (by omega), up_ne (by omega), up_ne (by omega), up_ne (by omega), hP.2.2 1 (by omega), h5, nI_1]
    · show f_X7_newThing_l1b k w r l _ (nI (vN V)) (nI i) c = _
      unfold f_X7_newThing_l1b
      rw [if_neg (by rw [nI_ge_lit (n := 9) 9 (by decide) (by omega)]; omega), if_pos (at_in (nI i) rfl hn hi), at_ix (nI i) rfl hn hi, bnd_eq, bnd_eq, nI_1]
    · rw [up_row ha]; exact hP.1 a ha
    · by_cases e : j = i
      · subst e; rw [up_same]
      · rw [up_ne (by omega)]; exact hP.2.1 j (by omega)
    · rw [up_ne (by omega)]; exact hP.2.2 j hj
  obtain ⟨c, e, c1, c2, c3⟩ := key
  have o : ∀ j, j ≠ 1 → (j < 67 + 9 * vN V ∨ 67 + 9 * vN V + 8 < j) → (up (up (up (up (up c 83 (67 + 9 * vN V + 0) k) 83 (67 + 9 * vN V + 1) w) 83 (67 + 9 * vN V + 2) r) 83 (67 + 9 * vN V + 3) l) 83 1 (nI (vN V + 1))) 83 j = im 83 j := fun j hj hj2 => by
    rw [up_ne hj, up_ne (by omega), up_ne (by omega), up_ne (by omega), up_ne (by omega), c3 j hj2]
  refine ⟨_, e, ⟨fun c hc => by rw [o _ (by omega) (by omega)]; exact h1 c hc, fun c hc => by rw [o _ (by omega) (by omega)]; exact h2 c hc, fun t ht j hj => ?_, fun c hc => by rw [o _ (by omega) (by omega)]; exact h4 c hc, by rw [up_same]; rfl, by rw [o _ (by omega) (by omega)]; exact h6, by rw [o _ (by omega) (by omega)]; exact h7, by rw [o _ (by omega) (by omega)]; exact h8, by rw [o _ (by omega) (by omega)]; exact h9⟩, fun a ha => by rw [up_row ha, up_row ha, up_row ha, up_row ha, up_row ha, c1 a ha]⟩
  rw [addV_T]
  rw [addV_N] at ht
  by_cases e : t = vN V
  · subst e
    rw [if_pos rfl, up_ne (by omega)]
    by_cases d3 : j = 3
    · subst d3; rw [up_same]; rfl
    · rw [up_ne (by omega)]
      by_cases d2 : j = 2
      · subst d2; rw [up_same]; rfl
      · rw [up_ne (by omega)]
        by_cases d1 : j = 1
        · subst d1; rw [up_same]; rfl
        · rw [up_ne (by omega)]
          by_cases d0 : j = 0
          · subst d0; rw [up_same]; rfl
          · rw [up_ne (by omega), c2 j (by omega)]
            simp [newX, d0, d1, d2, d3]
  · rw [if_neg e, o _ (by omega) (by omega)]
    exact h3 t (by omega) j hj
theorem lp_thing : LP_thing Inv := by
  intro im hI a1 a2
  obtain ⟨⟨V, v1, v2, v3⟩, -⟩ := id hI
  by_cases h1 : wi a1 0 6
  · by_cases h2 : wi a2 1 99
    · by_cases hn : vN V < 10
      · obtain ⟨m, e1, r1, o1⟩ := addThing_c v1 hn a1 a2
        obtain ⟨m2, e2, r2, o2⟩ := newThing_r (im := m) (v2.cg (o1 83 (by omega))) hn a1 a2 4 0
        refine ⟨nI (vN V), m, m2, ?_, ?_, ?_⟩
        · unfold f_X6_thing f_X6_isKind f_X6_isWeight
          simp only [within_1 h1, within_1 h2, zb_1, i10, if_false, full_0 v1.2.2.2.2.1 hn, if_true, e1, Option.bind_some]
          rw [r1.2.2.2.2.1, addV_N, nI_pred]
        · unfold f_X7_thing f_X7_isPart
          have hne : ¬ m 83 1 = 10 := by
            rw [o1 83 (by omega), v2.2.2.2.2.1, nI_eq_lit (n := 10) 10 (by decide) (by omega)]; omega
          simp only [in_0_6, in_1_99, within_1 h1, within_1 h2, zb_1, i10, if_false, if_true, hne, e2, Option.bind_some]
        · refine hI.town (fun a h3 h4 => by rw [o2 a h4]; exact o1 a (by omega)) ⟨addV V (newX a1 a2 4 0), r1.cg (fun a h3 h4 => o2 a (by omega)) (by rw [addV_N]; omega), r2, v3.add hn ⟨h1, h2, show wi (4 : Int32) 1 9 by unfold wi; decide, show wi (0 : Int32) 0 9 by unfold wi; decide, show wi (0 : Int32) 0 30 by unfold wi; decide, show wi (0 : Int32) 0 99 by unfold wi; decide, show wi (0 : Int32) 0 3 by unfold wi; decide, fun q => absurd (show (0 : Int32) = 1 from q) (by decide)⟩⟩
      · refine bref2 hI ?_ (fun m hm => ?_)
        · unfold f_X6_thing f_X6_isKind f_X6_isWeight
          simp only [within_1 h1, within_1 h2, zb_1, i10, if_false, full_1 v1.2.2.2.2.1 hn v3.1, refuse_2, Option.bind_some]
        · have hq : m 83 1 = 10 := by
            have h10 : vN V = 10 := by have := v3.1; omega
            rw [hm, up_row (by decide), v2.2.2.2.2.1, h10]; rfl
          unfold f_X7_thing f_X7_isPart
          simp only [in_0_6, in_1_99, within_1 h1, within_1 h2, zb_1, i10, if_false, if_true, hq, finds_2, Option.bind_some]
    · refine bref1 hI ?_ (fun m hm => ?_)
      · unfold f_X6_thing f_X6_thing_j1 f_X6_isKind f_X6_isWeight
        simp only [within_1 h1, within_0 h2, zb_1, zb_0, i10, if_false, if_true, refuse_1, Option.bind_some]
      · unfold f_X7_thing f_X7_thing_j1 f_X7_isPart
        simp only [in_0_6, in_1_99, within_1 h1, within_0 h2, zb_1, zb_0, i10, if_false, if_true, finds_1, Option.bind_some]
  · refine bref1 hI ?_ (fun m hm => ?_)
    · unfold f_X6_thing f_X6_thing_j1 f_X6_isKind
      simp only [within_0 h1, zb_0, if_true, refuse_1, Option.bind_some]
    · unfold f_X7_thing f_X7_thing_j1 f_X7_isPart
      simp only [in_0_6, within_0 h1, zb_0, if_true, finds_1, Option.bind_some]
/-! worst -/
def pW (d : Nat → Int32) (i : Nat) (a : Int32 × Int32) : Int32 × Int32 := if d i ≤ a.2 then a else (nI i, d i)
theorem lp_worst : LP_worst Inv := by
  intro im hI
  obtain ⟨⟨V, v1, v2, v3⟩, -⟩ := id hI
  have hn := v3.1
  have eC : f_X6_worst im = if 0 ≤ (fA (pW (fun t => vT V t 7)) 0 (vN V) (-1, 0)).1 then some ((fA (pW (fun t => vT V t 7)) 0 (vN V) (-1, 0)).1, im) else (f_X6_refuse (-1000004) im).bind fun r1 => some (r1.1, r1.2) := by
    unfold f_X6_worst
    refine loop0 (fun f (a : Int32 × Int32) i => f_X6_worst_l1 f a.1 a.2 i im) (vN V) (by omega) (fun a => if 0 ≤ a.1 then some (a.1, im) else (f_X6_refuse (-1000004) im).bind fun r1 => some (r1.1, r1.2)) (pW (fun t => vT V t 7)) (fun f a => ?_) (fun f a i hi => ?_) (-1, 0)
    · show f_X6_worst_l1b _ a.1 a.2 (nI (vN V)) im = _
      unfold f_X6_worst_l1b
      rw [v1.2.2.2.2.1, if_pos (Int32.le_refl _)]
    · show f_X6_worst_l1b _ a.1 a.2 (nI i) im = _
      unfold f_X6_worst_l1b f_X6_worst_j2 pW
      rw [v1.2.2.2.2.1, if_neg (nI_ge hi (by omega))]
      simp only [inb_nI (show i < 10 by omega) (show 10 < 2 ^ 31 by decide), ix_nI (show i < 2 ^ 31 by omega), if_true, bnd_eq, nI_1, row_c v1 hi (show 7 < 8 by decide)]
      by_cases h : vT V i 7 ≤ a.2
      · simp only [h, if_true]
      · simp only [h, if_false]
  have eR : ∀ m : IM, m 83 = im 83 → f_X7_worst m = if 0 ≤ (fA (pW (fun t => vT V t 7)) 0 (vN V) (-1, 0)).1 then some ((fA (pW (fun t => vT V t 7)) 0 (vN V) (-1, 0)).1, m) else (f_X7_finds (-1000004) m).bind fun r1 => some (r1.1, r1.2) := by
    intro m hm
    unfold f_X7_worst
    refine loop0 (fun f (a : Int32 × Int32) i => f_X7_worst_l1 f a.1 a.2 i m) (vN V) (by omega) (fun a => if 0 ≤ a.1 then some (a.1, m) else (f_X7_finds (-1000004) m).bind fun r1 => some (r1.1, r1.2)) (pW (fun t => vT V t 7)) (fun f a => ?_) (fun f a i hi => ?_) (-1, 0)
    · show f_X7_worst_l1b _ a.1 a.2 (nI (vN V)) m = _
      unfold f_X7_worst_l1b
      rw [hm, v2.2.2.2.2.1, if_pos (Int32.le_refl _)]
    · show f_X7_worst_l1b _ a.1 a.2 (nI i) m = _
      unfold f_X7_worst_l1b f_X7_worst_j2 f_X7_worst_j3 pW
      rw [hm, v2.2.2.2.2.1, if_neg (nI_ge hi (by omega)), its_w (w := 7) 7 rfl (by omega) (by decide)]
      simp only [Option.bind_some, hm, row_r v2 hi (show 7 < 8 by decide), bnd_eq, nI_1]
      by_cases h : vT V i 7 ≤ a.2
      · simp only [h, if_true]
      · simp only [h, if_false]
  by_cases h : 0 ≤ (fA (pW (fun t => vT V t 7)) 0 (vN V) (-1, 0)).1
  · exact ⟨_, im, im, by rw [eC, if_pos h], by rw [eR im rfl, if_pos h], hI⟩
  · refine bref4 hI ?_ (fun m hm => ?_)
    · rw [eC, if_neg h, refuse_4, Option.bind_some]
    · rw [eR m (by rw [hm, up_row (by decide)]), if_neg h, finds_4, Option.bind_some]
