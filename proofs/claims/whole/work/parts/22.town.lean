/-! the town's value, changed in one place -/
def setF (V : TV) (j : Nat) (x : Int32) : TV := (fun c => if c = j then x else vF V c, V.2)
def setG (V : TV) (j : Nat) (x : Int32) : TV := (V.1, fun c => if c = j then x else vG V c, V.2.2)
def setR (V : TV) (t : Nat) (x : Nat → Int32) : TV := (V.1, V.2.1, fun s => if s = t then x else vT V s, V.2.2.2)
def setS (V : TV) (j : Nat) (x : Int32) : TV := (V.1, V.2.1, V.2.2.1, fun c => if c = j then x else vS V c, V.2.2.2.2)
theorem setF_F (V : TV) (j : Nat) (x : Int32) (c : Nat) : vF (setF V j x) c = if c = j then x else vF V c := rfl
theorem setG_G (V : TV) (j : Nat) (x : Int32) (c : Nat) : vG (setG V j x) c = if c = j then x else vG V c := rfl
theorem setS_S (V : TV) (j : Nat) (x : Int32) (c : Nat) : vS (setS V j x) c = if c = j then x else vS V c := rfl
theorem setR_T (V : TV) (t : Nat) (x : Nat → Int32) (s : Nat) : vT (setR V t x) s = if s = t then x else vT V s := rfl
theorem Inv.town {im m2 : IM} (h : Inv im) (ho : ∀ a, ¬ (1 ≤ a ∧ a ≤ 15) → a ≠ 83 → m2 a = im a) (hV : ∃ V, RC m2 1 V ∧ RR m2 83 V ∧ OkV V) : Inv m2 := by
  obtain ⟨-, hK, hS, ⟨q, p1, p2, p3, p4⟩, hH⟩ := h
  refine ⟨hV, ?_, fun j hj => by rw [ho 73 (by omega) (by omega), ho 86 (by omega) (by omega)]; exact hS j hj, ⟨q, p1, by rw [ho 66 (by omega) (by omega)]; exact p2, by rw [ho 82 (by omega) (by omega)]; exact p3, fun k hk => by rw [ho 67 (by omega) (by omega), ho 89 (by omega) (by omega)]; exact p4 k hk⟩, fun i hi => by rw [ho (74 + 2 * i) (by omega) (by omega), ho (75 + 2 * i) (by omega) (by omega), ho 90 (by omega) (by omega), ho 91 (by omega) (by omega), ho 92 (by omega) (by omega)]; exact hH i hi⟩
  rcases hK with ⟨k1, k2⟩ | ⟨k1, k2, W, w1, w2, w3⟩
  · exact Or.inl ⟨by rw [ho 0 (by omega) (by omega)]; exact k1, by rw [ho 82 (by omega) (by omega)]; exact k2⟩
  · exact Or.inr ⟨by rw [ho 0 (by omega) (by omega)]; exact k1, by rw [ho 82 (by omega) (by omega)]; exact k2, W, w1.cg (fun a h1 h2 => ho a (by omega) (by omega)) w3.1, w2.cg (ho 84 (by omega) (by omega)), w3⟩
theorem RC_F {im : IM} {T : Nat} {V : TV} (h : RC im T V) {j : Nat} {x : Int32} : RC (up im (T + 1) j x) T (setF V j x) := by
  obtain ⟨h1, h2, h3, h4, h5, h6, h7, h8, h9⟩ := h
  refine ⟨fun c hc => ?_, fun c hc => by rw [up_row (by omega)]; exact h2 c hc, fun t ht w hw => by rw [up_row (by omega)]; exact h3 t ht w hw, fun k hk => by rw [up_row (by omega)]; exact h4 k hk, by rw [up_row (by omega)]; exact h5, by rw [up_row (by omega)]; exact h6, by rw [up_row (by omega)]; exact h7, by rw [up_row (by omega)]; exact h8, by rw [up_row (by omega)]; exact h9⟩
  by_cases e : c = j
  · subst e; simp [up, setF_F]
  · simp [up, setF_F, e, h1 c hc]
theorem RC_G {im : IM} {T : Nat} {V : TV} (h : RC im T V) {j : Nat} {x : Int32} : RC (up im (T + 2) j x) T (setG V j x) := by
  obtain ⟨h1, h2, h3, h4, h5, h6, h7, h8, h9⟩ := h
  refine ⟨fun c hc => by rw [up_row (by omega)]; exact h1 c hc, fun c hc => ?_, fun t ht w hw => by rw [up_row (by omega)]; exact h3 t ht w hw, fun k hk => by rw [up_row (by omega)]; exact h4 k hk, by rw [up_row (by omega)]; exact h5, by rw [up_row (by omega)]; exact h6, by rw [up_row (by omega)]; exact h7, by rw [up_row (by omega)]; exact h8, by rw [up_row (by omega)]; exact h9⟩
  by_cases e : c = j
  · subst e; simp [up, setG_G]
  · simp [up, setG_G, e, h2 c hc]
theorem RC_S {im : IM} {T : Nat} {V : TV} (h : RC im T V) {j : Nat} {x : Int32} : RC (up im (T + 4) j x) T (setS V j x) := by
  obtain ⟨h1, h2, h3, h4, h5, h6, h7, h8, h9⟩ := h
  refine ⟨fun c hc => by rw [up_row (by omega)]; exact h1 c hc, fun c hc => by rw [up_row (by omega)]; exact h2 c hc, fun t ht w hw => by rw [up_row (by omega)]; exact h3 t ht w hw, fun k hk => ?_, by rw [up_row (by omega)]; exact h5, by rw [up_row (by omega)]; exact h6, by rw [up_row (by omega)]; exact h7, by rw [up_row (by omega)]; exact h8, by rw [up_row (by omega)]; exact h9⟩
  by_cases e : k = j
  · subst e; simp [up, setS_S]
  · simp [up, setS_S, e, h4 k hk]
theorem RR_F {im : IM} {A : Nat} {V : TV} (h : RR im A V) (hn : vN V ≤ 10) {j : Nat} (hj : j < 31) {x : Int32} : RR (up im A (5 + j) x) A (setF V j x) := by
  obtain ⟨h1, h2, h3, h4, h5, h6, h7, h8, h9⟩ := h
  refine ⟨fun c hc => ?_, fun c hc => by rw [up_ne (by omega)]; exact h2 c hc, fun t ht w hw => by have ht : t < vN V := ht; rw [up_ne (by omega)]; exact h3 t ht w hw, fun k hk => by rw [up_ne (by omega)]; exact h4 k hk, by rw [up_ne (by omega)]; exact h5, by rw [up_ne (by omega)]; exact h6, by rw [up_ne (by omega)]; exact h7, by rw [up_ne (by omega)]; exact h8, by rw [up_ne (by omega)]; exact h9⟩
  by_cases e : c = j
  · subst e; simp [up, setF_F]
  · rw [up_ne (by omega), h1 c hc]; simp [setF_F, e]
theorem RR_G {im : IM} {A : Nat} {V : TV} (h : RR im A V) (hn : vN V ≤ 10) {j : Nat} (hj : j < 31) {x : Int32} : RR (up im A (36 + j) x) A (setG V j x) := by
  obtain ⟨h1, h2, h3, h4, h5, h6, h7, h8, h9⟩ := h
  refine ⟨fun c hc => by rw [up_ne (by omega)]; exact h1 c hc, fun c hc => ?_, fun t ht w hw => by have ht : t < vN V := ht; rw [up_ne (by omega)]; exact h3 t ht w hw, fun k hk => by rw [up_ne (by omega)]; exact h4 k hk, by rw [up_ne (by omega)]; exact h5, by rw [up_ne (by omega)]; exact h6, by rw [up_ne (by omega)]; exact h7, by rw [up_ne (by omega)]; exact h8, by rw [up_ne (by omega)]; exact h9⟩
  by_cases e : c = j
  · subst e; simp [up, setG_G]
  · rw [up_ne (by omega), h2 c hc]; simp [setG_G, e]
theorem RR_S {im : IM} {A : Nat} {V : TV} (h : RR im A V) (hn : vN V ≤ 10) {j : Nat} (hj : j < 10) {x : Int32} : RR (up im A (157 + j) x) A (setS V j x) := by
  obtain ⟨h1, h2, h3, h4, h5, h6, h7, h8, h9⟩ := h
  refine ⟨fun c hc => by rw [up_ne (by omega)]; exact h1 c hc, fun c hc => by rw [up_ne (by omega)]; exact h2 c hc, fun t ht w hw => by have ht : t < vN V := ht; rw [up_ne (by omega)]; exact h3 t ht w hw, fun k hk => ?_, by rw [up_ne (by omega)]; exact h5, by rw [up_ne (by omega)]; exact h6, by rw [up_ne (by omega)]; exact h7, by rw [up_ne (by omega)]; exact h8, by rw [up_ne (by omega)]; exact h9⟩
  by_cases e : k = j
  · subst e; simp [up, setS_S]
  · rw [up_ne (by omega), h4 k hk]; simp [setS_S, e]
theorem RC_row {im im' : IM} {T : Nat} {V : TV} (h : RC im T V) (hn : vN V ≤ 10) {t : Nat} (x : Nat → Int32) (hx : ∀ w, w < 8 → im' (T + 5 + t) w = x w) (ho : ∀ a, T ≤ a → a < T + 15 → a ≠ T + 5 + t → im' a = im a) : RC im' T (setR V t x) := by
  obtain ⟨h1, h2, h3, h4, h5, h6, h7, h8, h9⟩ := h
  refine ⟨fun c hc => by rw [ho _ (by omega) (by omega) (by omega)]; exact h1 c hc, fun c hc => by rw [ho _ (by omega) (by omega) (by omega)]; exact h2 c hc, fun s hs w hw => ?_, fun k hk => by rw [ho _ (by omega) (by omega) (by omega)]; exact h4 k hk, by rw [ho _ (by omega) (by omega) (by omega)]; exact h5, by rw [ho _ (by omega) (by omega) (by omega)]; exact h6, by rw [ho _ (by omega) (by omega) (by omega)]; exact h7, by rw [ho _ (by omega) (by omega) (by omega)]; exact h8, by rw [ho _ (by omega) (by omega) (by omega)]; exact h9⟩
  have hs : s < vN V := hs
  by_cases e : s = t
  · subst e
    rw [hx w hw]
    simp [setR_T]
  · rw [ho _ (by omega) (by omega) (by omega), h3 s hs w hw]
    simp [setR_T, e]
theorem RR_row {im im' : IM} {A : Nat} {V : TV} (h : RR im A V) (hn : vN V ≤ 10) {t : Nat} (ht10 : t < 10) (x : Nat → Int32) (hx : ∀ w, w < 8 → im' A (67 + 9 * t + w) = x w) (ho : ∀ k, (k < 67 + 9 * t ∨ 67 + 9 * t + 8 < k) → im' A k = im A k) : RR im' A (setR V t x) := by
  obtain ⟨h1, h2, h3, h4, h5, h6, h7, h8, h9⟩ := h
  refine ⟨fun c hc => by rw [ho _ (by omega)]; exact h1 c hc, fun c hc => by rw [ho _ (by omega)]; exact h2 c hc, fun s hs w hw => ?_, fun k hk => by rw [ho _ (by omega)]; exact h4 k hk, by rw [ho _ (by omega)]; exact h5, by rw [ho _ (by omega)]; exact h6, by rw [ho _ (by omega)]; exact h7, by rw [ho _ (by omega)]; exact h8, by rw [ho _ (by omega)]; exact h9⟩
  have hs : s < vN V := hs
  by_cases e : s = t
  · subst e
    rw [hx w hw]
    simp [setR_T]
  · rw [ho _ (by omega), h3 s hs w hw]
    simp [setR_T, e]
theorem OkV.F {V : TV} (h : OkV V) {j : Nat} {x : Int32} (hx : wi x (-9) 9) : OkV (setF V j x) := by
  obtain ⟨h1, h2, h3⟩ := h
  refine ⟨h1, fun c hc => ?_, h3⟩
  by_cases e : c = j
  · simp [setF_F, e, hx]
  · simpa [setF_F, e] using h2 c hc
theorem OkV.G {V : TV} (h : OkV V) {j : Nat} {x : Int32} (hx : wi x 0 4) : OkV (setG V j x) := by
  obtain ⟨h1, h2, h3, h4⟩ := h
  refine ⟨h1, h2, fun c hc => ?_, h4⟩
  by_cases e : c = j
  · simp [setG_G, e, hx]
  · simpa [setG_G, e] using h3 c hc
theorem OkV.R {V : TV} (h : OkV V) {t : Nat} {x : Nat → Int32} (hx : OkT x) : OkV (setR V t x) := by
  obtain ⟨h1, h2, h3, h4, h5⟩ := h
  refine ⟨h1, h2, h3, fun s hs => ?_, h5⟩
  by_cases e : s = t
  · simpa [setR_T, e] using hx
  · simpa [setR_T, e] using h4 s hs
theorem OkV.S {V : TV} (h : OkV V) {j : Nat} {x : Int32} (hx : x = -1 ∨ ∃ t, t < vN V ∧ x = nI t) : OkV (setS V j x) := by
  obtain ⟨h1, h2, h3, h4, h5, h6⟩ := h
  refine ⟨h1, h2, h3, h4, fun k hk => ?_, h6⟩
  rw [setS_S]
  by_cases e : k = j
  · rw [if_pos e]; exact hx
  · rw [if_neg e]; exact h5 k hk
/-! indices of the reference -/
theorem at_w {t w : Nat} (W : Int32) (hW : W = nI w) : f_X7_at (nI t) W = nI (67 + 9 * t + w) := by
  subst hW
  unfold f_X7_at
  rw [show (67 : Int32) = nI 67 from rfl, show (9 : Int32) = nI 9 from rfl, pk_mul, nI_add, nI_add]
theorem at_in {t w : Nat} (W : Int32) (hW : W = nI w) (ht : t < 10) (hw : w < 9) : inb (f_X7_at (nI t) W) 167 = true := by
  rw [at_w W hW]
  exact inb_nI (by omega) (by decide)
theorem at_ix {t w : Nat} (W : Int32) (hW : W = nI w) (ht : t < 10) (hw : w < 9) : ix (f_X7_at (nI t) W) = 67 + 9 * t + w := by
  rw [at_w W hW]
  exact ix_nI (by omega)
theorem its_w {t w : Nat} {im : IM} (W : Int32) (hW : W = nI w) (ht : t < 10) (hw : w < 9) : f_X7_its (nI t) W im = some (im 83 (67 + 9 * t + w)) := by
  unfold f_X7_its
  rw [if_pos (at_in W hW ht hw), at_ix W hW ht hw]
theorem lit_add {j k : Nat} (W : Int32) (hW : W = nI k) : W + nI j = nI (k + j) := by rw [hW, nI_add]
/-! a thing by its number -/
theorem wi_N {a : Int32} {n : Nat} (hn : n ≤ 10) : wi a 0 (nI n - 1) ↔ ∃ t, t < n ∧ a = nI t := by
  unfold wi
  have e1 : (nI n - 1).toInt = (n : Int) - 1 := by
    rw [show (1 : Int32) = nI 1 from rfl, pk_sub_toInt (by omega) (by omega)]; rfl
  rw [Int32.le_iff_toInt_le, Int32.le_iff_toInt_le, e1]
  constructor
  · rintro ⟨h1, h2⟩
    have h1 : 0 ≤ a.toInt := by simpa using h1
    refine ⟨a.toInt.toNat, by omega, ?_⟩
    rw [← Int32.toInt_inj, nI_toInt (by omega)]
    omega
  · rintro ⟨t, h1, rfl⟩
    rw [nI_toInt (by omega)]
    simp
    omega
theorem thing_1 {im : IM} {n t : Nat} (hn : n ≤ 10) (h : im 1 4 = nI n) (ht : t < n) : f_X6_isThing (nI t) im = 1 := by
  unfold f_X6_isThing
  rw [h, within_1 ((wi_N hn).mpr ⟨t, ht, rfl⟩), zb_1]
theorem thing_0 {im : IM} {n : Nat} {a : Int32} (hn : n ≤ 10) (h : im 1 4 = nI n) (ha : ¬ ∃ t, t < n ∧ a = nI t) : f_X6_isThing a im = 0 := by
  unfold f_X6_isThing
  rw [h, within_0 (fun q => ha ((wi_N hn).mp q)), zb_0]
theorem thing7_1 {im : IM} {n t : Nat} (hn : n ≤ 10) (h : im 83 1 = nI n) (ht : t < n) : f_X7_isThing (nI t) im = 1 := by
  unfold f_X7_isThing
  rw [h, in_lit (b := 0) (by decide) rfl, within_1 ((wi_N hn).mpr ⟨t, ht, rfl⟩), zb_1]
theorem thing7_0 {im : IM} {n : Nat} {a : Int32} (hn : n ≤ 10) (h : im 83 1 = nI n) (ha : ¬ ∃ t, t < n ∧ a = nI t) : f_X7_isThing a im = 0 := by
  unfold f_X7_isThing
  rw [h, in_lit (b := 0) (by decide) rfl, within_0 (fun q => ha ((wi_N hn).mp q)), zb_0]
