/-! PURE PART: numbers, ranges, the town as a value, the invariant -/
theorem bnd_eq {α β : Type} (a : α) (k : α → β) : bnd a k = k a := rfl
theorem ix_nI {j : Nat} (h : j < 2 ^ 31) : ix (nI j) = j := nI_clamp h
theorem inb_nI {j n : Nat} (h : j < n) (hn : n < 2 ^ 31) : inb (nI j) n = true := by
  have h1 : ¬ nI j < 0 := nI_pos (by omega)
  have h2 : (nI j).toNatClampNeg = j := nI_clamp (by omega)
  simp [inb, h1, h2, h]
theorem rng_of {x : Int32} {n : Nat} (M : Int32) (hM : M.toInt = n) (h : 0 ≤ x) (h5 : x ≤ M) : ∃ j : Nat, j ≤ n ∧ x = nI j := nI_of2 hM (Int32.not_lt.mpr h) h5
theorem nI_le_lit {j : Nat} (M : Int32) {n : Nat} (hM : M.toInt = n) (hj : j < 2 ^ 31) : nI j ≤ M ↔ j ≤ n := by
  rw [Int32.le_iff_toInt_le, nI_toInt hj, hM]; omega
theorem nI_ge_lit {j : Nat} (M : Int32) {n : Nat} (hM : M.toInt = n) (hj : j < 2 ^ 31) : M ≤ nI j ↔ n ≤ j := by
  rw [Int32.le_iff_toInt_le, nI_toInt hj, hM]; omega
theorem nI_lt_lit {j : Nat} (M : Int32) {n : Nat} (hM : M.toInt = n) (hj : j < 2 ^ 31) : nI j < M ↔ j < n := by
  rw [Int32.lt_iff_toInt_lt, nI_toInt hj, hM]; omega
theorem nI_gt_lit {j : Nat} (M : Int32) {n : Nat} (hM : M.toInt = n) (hj : j < 2 ^ 31) : M < nI j ↔ n < j := by
  rw [Int32.lt_iff_toInt_lt, nI_toInt hj, hM]; omega
theorem nI_eq_lit {j : Nat} (M : Int32) {n : Nat} (hM : M.toInt = n) (hj : j < 2 ^ 31) : nI j = M ↔ j = n := by
  rw [← Int32.toInt_inj, nI_toInt hj, hM]; omega
/-! within, in -/
def wi (v lo hi : Int32) : Prop := lo ≤ v ∧ v ≤ hi
theorem wi_dec (v lo hi : Int32) : wi v lo hi ∨ ¬ wi v lo hi := by
  unfold wi
  by_cases h : lo ≤ v ∧ v ≤ hi
  · exact Or.inl h
  · exact Or.inr h
theorem within_1 {v lo hi : Int32} (h : wi v lo hi) : f_X6_within v lo hi = 1 := by
  unfold f_X6_within
  rw [if_neg (Int32.not_lt.mpr h.1), if_neg (Int32.not_lt.mpr h.2)]
theorem within_0 {v lo hi : Int32} (h : ¬ wi v lo hi) : f_X6_within v lo hi = 0 := by
  unfold f_X6_within f_X6_within_j1
  by_cases h1 : v < lo
  · rw [if_pos h1]
  · by_cases h2 : hi < v
    · rw [if_neg h1, if_pos h2]
    · exact absurd ⟨Int32.not_lt.mp h1, Int32.not_lt.mp h2⟩ h
theorem w64_le (a b : Int32) : a.toInt64 ≤ b.toInt64 ↔ a ≤ b := by
  rw [Int64.le_iff_toInt_le, Int32.le_iff_toInt_le, Int32.toInt_toInt64, Int32.toInt_toInt64]
theorem lgc_lt (a b : Int32) : lg_cmp a.toInt64 b.toInt64 < 0 ↔ a < b := by
  rw [← Int32.not_le, lg_cmp_ge, w64_le, Int32.not_le]
theorem lgc_gt (a b : Int32) : 0 < lg_cmp a.toInt64 b.toInt64 ↔ b < a := by
  rw [← Int32.not_le, lg_cmp_le, w64_le, Int32.not_le]
theorem in_eq (a b c : Int32) : f_X7_in a.toInt64 b.toInt64 c.toInt64 = f_X6_within a b c := by
  unfold f_X7_in f_X6_within f_X7_in_j1 f_X6_within_j1
  simp only [lgc_lt, lgc_gt]
theorem in_lit {a b c : Int32} {B C : Int64} (hB : b.toInt64 = B) (hC : c.toInt64 = C) : f_X7_in a.toInt64 B C = f_X6_within a b c := by
  rw [← hB, ← hC, in_eq]
theorem zb_1 : zb 1 = 1 := by decide
theorem zb_0 : zb 0 = 0 := by decide
/-! the town as a value: falls, grounds, things, spots, how many, gate's first and last minute, minute, seed -/
abbrev TV : Type := (Nat → Int32) × (Nat → Int32) × (Nat → Nat → Int32) × (Nat → Int32) × Nat × Int32 × Int32 × Int32 × Int32
abbrev vF (V : TV) : Nat → Int32 := V.1
abbrev vG (V : TV) : Nat → Int32 := V.2.1
abbrev vT (V : TV) : Nat → Nat → Int32 := V.2.2.1
abbrev vS (V : TV) : Nat → Int32 := V.2.2.2.1
abbrev vN (V : TV) : Nat := V.2.2.2.2.1
abbrev vA (V : TV) : Int32 := V.2.2.2.2.2.1
abbrev vB (V : TV) : Int32 := V.2.2.2.2.2.2.1
abbrev vM (V : TV) : Int32 := V.2.2.2.2.2.2.2.1
abbrev vZ (V : TV) : Int32 := V.2.2.2.2.2.2.2.2
/-- a Town of the class holds it -/
def RC (im : IM) (T : Nat) (V : TV) : Prop := (∀ c, c < 31 → im (T + 1) c = vF V c) ∧ (∀ c, c < 31 → im (T + 2) c = vG V c) ∧ (∀ t, t < vN V → ∀ w, w < 8 → im (T + 5 + t) w = vT V t w) ∧ (∀ k, k < 10 → im (T + 4) k = vS V k) ∧ im T 4 = nI (vN V) ∧ im T 5 = vA V ∧ im T 6 = vB V ∧ im T 7 = vM V ∧ im T 8 = vZ V
/-- a row of the reference holds it -/
def RR (im : IM) (A : Nat) (V : TV) : Prop := (∀ c, c < 31 → im A (5 + c) = vF V c) ∧ (∀ c, c < 31 → im A (36 + c) = vG V c) ∧ (∀ t, t < vN V → ∀ w, w < 8 → im A (67 + 9 * t + w) = vT V t w) ∧ (∀ k, k < 10 → im A (157 + k) = vS V k) ∧ im A 1 = nI (vN V) ∧ im A 2 = vA V ∧ im A 3 = vB V ∧ im A 0 = vM V ∧ im A 4 = vZ V
/-- a thing's numbers are in their ranges; one that rolls isn't at the foot -/
def OkT (x : Nat → Int32) : Prop := wi (x 0) 0 6 ∧ wi (x 1) 1 99 ∧ wi (x 2) 1 9 ∧ wi (x 3) 0 9 ∧ wi (x 4) 0 30 ∧ wi (x 5) 0 99 ∧ wi (x 6) 0 3 ∧ (x 6 = 1 → x 4 ≤ 29)
def OkV (V : TV) : Prop := vN V ≤ 10 ∧ (∀ c, c < 31 → wi (vF V c) (-9) 9) ∧ (∀ c, c < 31 → wi (vG V c) 0 4) ∧ (∀ t, t < vN V → OkT (vT V t)) ∧ (∀ k, k < 10 → vS V k = -1 ∨ ∃ t, t < vN V ∧ vS V k = nI t) ∧ wi (vA V) 0 59 ∧ wi (vB V) 0 59 ∧ wi (vM V) 0 9999
theorem RC.cg {im im' : IM} {T : Nat} {V : TV} (h : RC im T V) (hc : ∀ a, T ≤ a → a < T + 15 → im' a = im a) (hn : vN V ≤ 10) : RC im' T V := by
  obtain ⟨h1, h2, h3, h4, h5, h6, h7, h8, h9⟩ := h
  have e0 := hc T (by omega) (by omega)
  have e1 := hc (T + 1) (by omega) (by omega)
  have e2 := hc (T + 2) (by omega) (by omega)
  have e4 := hc (T + 4) (by omega) (by omega)
  refine ⟨fun c hk => by rw [e1]; exact h1 c hk, fun c hk => by rw [e2]; exact h2 c hk, fun t ht w hw => ?_, fun k hk => by rw [e4]; exact h4 k hk, by rw [e0]; exact h5, by rw [e0]; exact h6, by rw [e0]; exact h7, by rw [e0]; exact h8, by rw [e0]; exact h9⟩
  rw [hc (T + 5 + t) (by omega) (by omega)]
  exact h3 t ht w hw
theorem RR.cg {im im' : IM} {A : Nat} {V : TV} (h : RR im A V) (hc : im' A = im A) : RR im' A V := by
  unfold RR at h ⊢
  rw [hc]
  exact h
/-! the invariant: the town now; the kept one; the statuses; the tape; the sheets -/
def IvT (im : IM) : Prop := ∃ V, RC im 1 V ∧ RR im 83 V ∧ OkV V
def IvK (im : IM) : Prop := (im 0 2 = 0 ∧ im 82 4 = 0) ∨ (im 0 2 = 1 ∧ im 82 4 = 1 ∧ ∃ V, RC im 16 V ∧ RR im 84 V ∧ OkV V)
def IvS (im : IM) : Prop := ∀ k, k < 7 → im 73 k = im 86 k
def IvP (im : IM) : Prop := ∃ q : Nat, q ≤ 120 ∧ im 66 1 = nI q ∧ im 82 16 = nI q ∧ ∀ k, k < q → im 67 k = im 89 k ∧ wi (im 67 k) 0 255
def IvH (im : IM) : Prop := ∀ i, i < 4 → (im (74 + 2 * i) 1 = im 90 i ∧ (im 90 i = 0 ∨ im 90 i = 8 ∨ im 90 i = 16 ∨ im 90 i = 32)) ∧ (im (74 + 2 * i) 2 = im 91 i ∧ wi (im 91 i) 0 40) ∧ ∀ k, k < 40 → im (75 + 2 * i) k = im 92 (40 * i + k)
def Inv (im : IM) : Prop := IvT im ∧ IvK im ∧ IvS im ∧ IvP im ∧ IvH im
/-- rows that the invariant doesn't look at -/
def scr (a : Nat) : Prop := (31 ≤ a ∧ a ≤ 65) ∨ (68 ≤ a ∧ a ≤ 71) ∨ a = 85 ∨ a = 87 ∨ a = 88 ∨ a = 93
/-- places of the rows 0, 66, 82 that it looks at -/
def pla (a k : Nat) : Prop := (a = 0 ∧ k = 2) ∨ (a = 66 ∧ k = 1) ∨ (a = 82 ∧ (k = 4 ∨ k = 16))
/-- two memories that agree where the invariant looks -/
def agr (im im' : IM) : Prop := (∀ a, ¬ scr a → a ≠ 0 → a ≠ 66 → a ≠ 82 → im' a = im a) ∧ im' 0 2 = im 0 2 ∧ im' 66 1 = im 66 1 ∧ im' 82 4 = im 82 4 ∧ im' 82 16 = im 82 16
theorem agr.rfl {im : IM} : agr im im := ⟨fun _ _ _ _ _ => Eq.refl _, Eq.refl _, Eq.refl _, Eq.refl _, Eq.refl _⟩
theorem agr.trans {a b c : IM} (h : agr a b) (h2 : agr b c) : agr a c := ⟨fun x h1 h3 h4 h5 => (h2.1 x h1 h3 h4 h5).trans (h.1 x h1 h3 h4 h5), h2.2.1.trans h.2.1, h2.2.2.1.trans h.2.2.1, h2.2.2.2.1.trans h.2.2.2.1, h2.2.2.2.2.trans h.2.2.2.2⟩
theorem agr.row {a b : IM} (h : agr a b) (x : Nat) (h1 : ¬ scr x) (h2 : x ≠ 0) (h3 : x ≠ 66) (h4 : x ≠ 82) : b x = a x := h.1 x h1 h2 h3 h4
theorem nscr {a : Nat} (h : (1 ≤ a ∧ a ≤ 30) ∨ a = 67 ∨ (72 ≤ a ∧ a ≤ 81) ∨ a = 83 ∨ a = 84 ∨ a = 86 ∨ (89 ≤ a ∧ a ≤ 92)) : ¬ scr a ∧ a ≠ 0 ∧ a ≠ 66 ∧ a ≠ 82 := by
  unfold scr
  omega
theorem Inv.agr {im im' : IM} (h : Inv im) (ha : agr im im') : Inv im' := by
  obtain ⟨⟨V, v1, v2, v3⟩, hK, hS, ⟨q, p1, p2, p3, p4⟩, hH⟩ := h
  have r : ∀ a, ((1 ≤ a ∧ a ≤ 30) ∨ a = 67 ∨ (72 ≤ a ∧ a ≤ 81) ∨ a = 83 ∨ a = 84 ∨ a = 86 ∨ (89 ≤ a ∧ a ≤ 92)) → im' a = im a := fun a h => by
    obtain ⟨h1, h2, h3, h4⟩ := nscr h
    exact ha.1 a h1 h2 h3 h4
  refine ⟨⟨V, v1.cg (fun a h1 h2 => r a (by omega)) v3.1, v2.cg (r 83 (by omega)), v3⟩, ?_, fun k hk => by rw [r 73 (by omega), r 86 (by omega)]; exact hS k hk, ⟨q, p1, by rw [ha.2.2.1]; exact p2, by rw [ha.2.2.2.2]; exact p3, fun k hk => by rw [r 67 (by omega), r 89 (by omega)]; exact p4 k hk⟩, fun i hi => by rw [r (74 + 2 * i) (by omega), r (75 + 2 * i) (by omega), r 90 (by omega), r 91 (by omega), r 92 (by omega)]; exact hH i hi⟩
  rcases hK with ⟨k1, k2⟩ | ⟨k1, k2, W, w1, w2, w3⟩
  · exact Or.inl ⟨by rw [ha.2.1]; exact k1, by rw [ha.2.2.2.1]; exact k2⟩
  · exact Or.inr ⟨by rw [ha.2.1]; exact k1, by rw [ha.2.2.2.1]; exact k2, W, w1.cg (fun a h1 h2 => r a (by omega)) w3.1, w2.cg (r 84 (by omega)), w3⟩
/-! one write -/
theorem up_row {im : IM} {a b i : Nat} {x : Int32} (h : b ≠ a) : up im a i x b = im b := by
  funext j
  simp [up, h]
theorem up_same {im : IM} {a i : Nat} {x : Int32} : up im a i x a i = x := by simp [up]
theorem up_ne {im : IM} {a i j : Nat} {x : Int32} (h : j ≠ i) : up im a i x a j = im a j := by simp [up, h]
theorem upA_row {im : IM} {a b : Nat} {f : Nat → Int32} (h : b ≠ a) : upA im a f b = im b := by
  funext j
  simp [upA, h]
theorem upA_same {im : IM} {a : Nat} {f : Nat → Int32} : upA im a f a = f := by
  funext j
  simp [upA]
