/-! the judgement X: a frame over one world of all cells, with what is answered from there as an Option -/
/-- the ints that the cells hold: cell, place -/
abbrev IM : Type := Nat → Nat → Int32
/-- what each cell is: the number of its class in vwCl and its fields, or 8 (int[]), 9 (Thing[]), 10 (Sheet[]) and its length -/
def xSHL : List (Nat × Nat) := [(6, 11), (5, 9), (8, 31), (8, 31), (9, 10), (8, 10), (4, 8), (4, 8), (4, 8), (4, 8), (4, 8), (4, 8), (4, 8), (4, 8), (4, 8), (4, 8), (5, 9), (8, 31), (8, 31), (9, 10), (8, 10), (4, 8), (4, 8), (4, 8), (4, 8), (4, 8), (4, 8), (4, 8), (4, 8), (4, 8), (4, 8), (5, 9), (8, 31), (8, 31), (9, 10), (8, 10), (4, 8), (4, 8), (4, 8), (4, 8), (4, 8), (4, 8), (4, 8), (4, 8), (4, 8), (4, 8), (5, 9), (8, 31), (8, 31), (9, 10), (8, 10), (4, 8), (4, 8), (4, 8), (4, 8), (4, 8), (4, 8), (4, 8), (4, 8), (4, 8), (4, 8), (2, 4), (4, 8), (0, 1), (8, 1024), (8, 10), (1, 11), (8, 120), (8, 121), (8, 121), (8, 121), (8, 121), (10, 4), (8, 7), (3, 3), (8, 40), (3, 3), (8, 40), (3, 3), (8, 40), (3, 3), (8, 40), (7, 27), (8, 167), (8, 167), (8, 167), (8, 7), (8, 1024), (8, 10), (8, 120), (8, 4), (8, 4), (8, 160), (8, 40)]
def xSH (a : Nat) : Nat × Nat := xSHL.getD a (99, 0)
/-- how far behind an object the cell lies that its field k holds; 0: an int field -/
def xOFL : List (List Nat) := [[1], [1, 0, 2, 3, 4, 5, 0, 0, 0, 0, 0], [1, 0, 0, 0], [1, 0, 0], [0, 0, 0, 0, 0, 0, 0, 0], [1, 2, 3, 4, 0, 0, 0, 0, 0], [1, 16, 0, 31, 46, 61, 63, 65, 66, 72, 73], [1, 2, 3, 4, 0, 0, 0, 0, 0, 0, 0, 0, 5, 6, 0, 7, 0, 0, 0, 0, 0, 0, 0, 8, 9, 10, 11]]
def xOFF (c k : Nat) : Nat := (xOFL.getD c []).getD k 0
def xLEN : List Nat := [4, 4, 2, 2, 6, 5, 4, 5, 4, 5, 4, 4, 5, 6, 4, 4, 4, 4, 3]
def xBYT : List (List Int32) := [[102, 97, 108, 108], [115, 104, 117, 116], [98, 121], [116, 111], [119, 101, 105, 103, 104, 116], [114, 111, 108, 108, 115], [108, 101, 97, 110], [115, 116, 111, 110, 101], [115, 97, 110, 100], [115, 116, 114, 97, 119], [98, 101, 110, 100], [103, 97, 116, 101], [116, 104, 105, 110, 103], [99, 104, 101, 101, 115, 101], [100, 114, 117, 109], [114, 111, 99, 107], [98, 97, 108, 101], [114, 105, 110, 103], [98, 111, 120]]
def xSTI : List Nat := [105, 110, 121, 130, 148, 154, 158, 172, 174, 176, 178, 180, 182, 184, 186, 188, 190, 192, 194]
def xSTT : List String := ["fall", "shut", "by", "to", "weight", "rolls", "lean", "stone", "sand", "straw", "bend", "gate", "thing", "cheese", "drum", "rock", "bale", "ring", "box"]
def xPD (j : Nat) : Int32 := ([2, 12, 30, 4, 2] : List Int32).getD j 0
def xKA (j : Nat) : Int32 := ([-1, 0, 0, 1, 2, 1, 0] : List Int32).getD j 0
/-- addresses; class numbers and slots; the array classes; the text constants and their bytes; the two static rows; a value that nobody looks at -/
abbrev GX : Type := (Nat → Nat) × va_G × (ClassId × ClassId × ClassId) × ((Nat → Nat) × (Nat → Nat)) × (Nat × Nat) × Option Nat
def xFld (g : GX) (im : IM) (a c k : Nat) : Value := if xOFF c k = 0 then .int (im a k) else .ref (g.1 (a + xOFF c k))
def xEnt (g : GX) (im : IM) (a : Nat) (q : Nat × Nat) : va_E :=
  if q.1 < 8 then .inr (q.1, (List.range q.2).map (xFld g im a q.1))
  else if q.1 = 8 then .inl (g.2.2.1.1, q.2, .inl (im a))
  else if q.1 = 9 then .inl (g.2.2.1.2.1, q.2, .inr (.inr (.inr (.inr (fun i => some (g.1 (a + 2 + i)))))))
  else .inl (g.2.2.1.2.2, q.2, .inr (.inr (.inr (.inr (fun i => some (g.1 (a + 2 + 2 * i)))))))
def xWl (g : GX) (im : IM) : va_W := (List.range 94).map (fun a => (g.1 a, xEnt g im a (xSH a)))
def xAW (g : GX) : Nat → Prop := fun q => ∃ a, a < 94 ∧ q = g.1 a
def xTys (g : GX) : List (ClassId × FieldType) := [(g.2.2.1.1, .int), (g.2.2.1.2.1, .object "RollTown$Thing"), (g.2.2.1.2.2, .object "RollTown$Sheet")]
/-- words that stay as the machine warms -/
def xnest : Cond → Bool
  | .fieldLinkNest _ _ _ _ _ _ => true
  | .methodLinkNest _ _ _ _ => true
  | _ => false
def xok (w : Cond) : Bool := (goodWord w && w.onTables) || xnest w
theorem xok_on {q : Cond} (h : xok q = true) : q.onTables = true := by
  rcases Bool.or_eq_true_iff.mp h with h | h
  · exact (Bool.and_eq_true_iff.mp h).2
  · cases q with
    | fieldLinkNest a i b n d h => rfl
    | methodLinkNest a i x h => rfl
    | _ => simp [xnest] at h
def xT : List Cond := lw_tbl.filter xok
def xSt (g : GX) (U : State) (H : Heap) : Prop :=
  va_Z "RollTown" "PLAIN_DRAG" "[I" (.ref g.2.2.2.2.1.1) (xAW g) U H ∧ va_T .int g.2.2.2.2.1.1 5 (fun j => .int (xPD j)) (xAW g) U H ∧
  va_Z "RollTown" "KIND_ABOVE" "[I" (.ref g.2.2.2.2.1.2) (xAW g) U H ∧ va_T .int g.2.2.2.2.1.2 7 (fun j => .int (xKA j)) (xAW g) U H ∧
  va_Z "java/lang/String" "COMPACT_STRINGS" "Z" (.int 1) (xAW g) U H ∧
  va_Z "jdk/internal/util/Preconditions" "SIOOBE_FORMATTER" "Ljava/util/function/BiFunction;" (va_rf g.2.2.2.2.2) (xAW g) U H ∧
  vk_S 19 xLEN xBYT g.2.2.2.1.1 g.2.2.2.1.2 (xAW g) U H ∧
  ∀ i, i < 19 → vk_R "RollTown$Reader" (xSTI.getD i 0) (xSTT.getD i "") (g.2.2.2.1.1 i) U
def xKK (g : GX) (U : State) (H : Heap) : Prop := (∀ w ∈ xT, w.before #[] U = true) ∧ va_K g.2.1 vwCl (xTys g) U ∧ (∀ a b, a < 94 → b < 94 → g.1 a = g.1 b → a = b) ∧ xSt g U H
theorem xKK.same {g : GX} {u U : State} {H : Heap} (hv : u.vm = U.vm) (h : xKK g u H) : xKK g U H := by
  obtain ⟨h1, h2, h3, z1, z2, z3, z4, z5, z6, z7, z8⟩ := h
  have al : u.vm.Alike U.vm := by rw [hv]; exact Vm.Alike.refl _
  refine ⟨fun q hq => ?_, va_K.moved al h2, h3, va_Z.moved al z1, va_T.moved al z2, va_Z.moved al z3, va_T.moved al z4, va_Z.moved al z5, va_Z.moved al z6, vk_S.moved al z7, fun i hi => vk_R.same hv.symm (z8 i hi)⟩
  have ho : q.onTables = true := xok_on (List.mem_filter.mp hq).2
  exact va_tabs ho hv (h1 q hq)
theorem xKK.warm {g : GX} {s U : State} {H H1 : Heap} (hW : s.WarmedH U.vm) (hq : ∀ a : Nat, a < H.size → ¬ xAW g a → H1[a]? = H[a]?) (h : xKK g s H) : xKK g U H1 := by
  obtain ⟨h1, h2, h3, z1, z2, z3, z4, z5, z6, z7, z8⟩ := h
  have al := hW.alike
  refine ⟨fun q hm => ?_, va_K.moved al h2, h3, (va_Z.moved al z1).kept hq, (va_T.moved al z2).kept hq, (va_Z.moved al z3).kept hq, (va_T.moved al z4).kept hq, (va_Z.moved al z5).kept hq, (va_Z.moved al z6).kept hq, (vk_S.moved al z7).kept hq, fun i hi => vk_R.warm hW (z8 i hi)⟩
  have hk := (List.mem_filter.mp hm).2
  have h0 := h1 q hm
  rcases Bool.or_eq_true_iff.mp hk with hg | hg
  · exact word_at hW (good_of_word (Bool.and_eq_true_iff.mp hg).1) h0
  · cases q with
    | fieldLinkNest a i b n d h => exact va_Nw.warmF hW h0
    | methodLinkNest a i x h => exact va_Nw.warmM hW h0
    | _ => simp [xnest] at hg
theorem xT_use {g : GX} {s : State} {H : Heap} (h : xKK g s H) {q : Cond} (hq : q ∈ xT) {args : Array Value} : q.before args s = true := by
  have ho : q.onTables = true := xok_on (List.mem_filter.mp hq).2
  exact va_tabs ho rfl (h.1 q hq)
theorem xT_in {q : Cond} (h : q ∈ lw_tbl) (hk : xok q = true) : q ∈ xT := List.mem_filter.mpr ⟨h, hk⟩
/-! the world: reading and writing a cell -/
theorem xWl_at {g : GX} {im : IM} {a : Nat} {q : Nat × Nat} (h : xSH a = q) (hq : ¬ q.1 = 99) : (xWl g im)[a]? = some (g.1 a, xEnt g im a q) := by
  have ha : a < 94 := by
    rcases Nat.lt_or_ge a 94 with h1 | h1
    · exact h1
    · exfalso
      apply hq
      rw [← h]
      have : xSHL.length = 94 := by decide +kernel
      unfold xSH
      rw [List.getD_eq_getElem?_getD, List.getElem?_eq_none (by omega)]
      rfl
  unfold xWl
  rw [List.getElem?_map, List.getElem?_range ha]
  simp [h]
theorem xSH_lt {a : Nat} {q : Nat × Nat} (h : xSH a = q) (hq : ¬ q.1 = 99) : a < 94 := by
  rcases Nat.lt_or_ge a 94 with h1 | h1
  · exact h1
  · exfalso
    apply hq
    rw [← h]
    have : xSHL.length = 94 := by decide +kernel
    unfold xSH
    rw [List.getD_eq_getElem?_getD, List.getElem?_eq_none (by omega)]
    rfl
/-- one int of one cell -/
def up (im : IM) (a i : Nat) (x : Int32) : IM := fun b j => if b = a then (if j = i then x else im b j) else im b j
/-- a whole row -/
def upA (im : IM) (a : Nat) (f : Nat → Int32) : IM := fun b j => if b = a then f j else im b j
theorem xEnt_up_ne {g : GX} {im : IM} {a b i : Nat} {x : Int32} {q : Nat × Nat} (h : b ≠ a) : xEnt g (up im a i x) b q = xEnt g im b q := by
  have e : (up im a i x) b = im b := by funext j; simp [up, h]
  have e2 : ∀ c, xFld g (up im a i x) b c = xFld g im b c := by intro c; funext k; simp [xFld, up, h]
  unfold xEnt
  rw [e, e2]
theorem xEnt_upA_ne {g : GX} {im : IM} {a b : Nat} {f : Nat → Int32} {q : Nat × Nat} (h : b ≠ a) : xEnt g (upA im a f) b q = xEnt g im b q := by
  have e : (upA im a f) b = im b := by funext j; simp [upA, h]
  have e2 : ∀ c, xFld g (upA im a f) b c = xFld g im b c := by intro c; funext k; simp [xFld, upA, h]
  unfold xEnt
  rw [e, e2]
theorem xWl_set {g : GX} {im im' : IM} {a : Nat} (ha : a < 94) (hne : ∀ b, b ≠ a → xEnt g im' b (xSH b) = xEnt g im b (xSH b)) : (xWl g im).set a (g.1 a, xEnt g im' a (xSH a)) = xWl g im' := by
  apply List.ext_getElem?
  intro b
  unfold xWl
  rw [List.getElem?_set, List.getElem?_map]
  by_cases hb : b < 94
  · rw [List.getElem?_map, List.getElem?_range hb]
    by_cases h : a = b
    · subst h
      simp [ha]
    · simp [h, hne b (fun e => h e.symm)]
  · rw [List.getElem?_map, List.getElem?_eq_none (by simp; omega)]
    have h : ¬ a = b := by omega
    simp [h]
theorem xWl_D {g : GX} (im : IM) (h : ∀ a b, a < 94 → b < 94 → g.1 a = g.1 b → a = b) : va_D (xAW g) (xWl g im) := by
  have key : ∀ (k : Nat) (q : Nat × va_E), (xWl g im)[k]? = some q → k < 94 ∧ q.1 = g.1 k := by
    intro k q hk
    unfold xWl at hk
    rw [List.getElem?_map] at hk
    by_cases hb : k < 94
    · rw [List.getElem?_range hb] at hk
      cases hk
      exact ⟨hb, rfl⟩
    · rw [List.getElem?_eq_none (by simp; omega)] at hk
      cases hk
  refine ⟨fun i j p q hi hj e => ?_, fun k q hk => ?_⟩
  · obtain ⟨a1, a2⟩ := key i p hi
    obtain ⟨b1, b2⟩ := key j q hj
    exact h i j a1 b1 (by rw [← a2, ← b2]; exact e)
  · obtain ⟨a1, a2⟩ := key k q hk
    exact ⟨k, a1, a2⟩
/-! the judgement -/
abbrev xM : Type := Nat × Nat × String × ByteArray × Option FieldType
def xR (lev : Nat) : Room := { frames := lev, cells := 0, slots := 0, locals := 37 * lev }
def xQ (g : GX) (r : Option Value × IM) : Array Value → State → Outcome → State → Prop := fun _ st oc t => oc = .returned r.1 ∧ va_P g.2.1 vwCl (xWl g r.2) t.heap ∧ va_F (xAW g) st t
def xB (g : GX) (M : xM) (p : Program) (s : State) (m : MethodId) (meth : Method) (c : Code) : Prop :=
  p.tables.exec = Jvm.exec ∧ c.code = M.2.2.2.1 ∧ c.maxLocals = M.2.1 ∧ meth.sig.returnType = M.2.2.2.2 ∧ meth.locks = false ∧ s.vm.findClass M.2.2.1 = some m.cls ∧ xKK g s s.heap
def xH (g : GX) (M : xM) (s : State) (H : Heap) (locs : List Loc) (im : IM) (ls : Array Slot) (lv : List (Nat × Value)) : Prop := va_S (xAW g) s.heap H locs ∧ va_P g.2.1 vwCl (xWl g im) H ∧ lv_has ls M.2.1 lv
def X (g : GX) (M : xM) {ρ : Type} (enc : ρ → Option Value × IM) (pc : Nat) (lv : List (Nat × Value)) (st : List Value) (im : IM) (o : Option ρ) : Prop :=
  ∀ r, o = some r → ∀ (p : Program) (l : Launch) (e : Env) (s : State) (m : MethodId) (args : Array Value) (below : List Frame) (meth : Method) (c : Code) (H : Heap) (locs : List Loc) (ls : Array Slot), xB g M p s m meth c → xH g M s H locs im ls lv →
    W p l e (xR M.1) s m args below meth c H locs 0 0 (MQ below (xQ g (enc r)) args s 0 0 (xAW g)) (F0 m pc ls st)
/-! answers -/
def eI (r : Int32 × IM) : Option Value × IM := (some (.int r.1), r.2)
def eR (im : IM) (r : Int32) : Option Value × IM := (some (.int r), im)
def eL (im : IM) (r : Int64) : Option Value × IM := (some (.long r), im)
def eV (r : IM) : Option Value × IM := (none, r)
def eN (im : IM) (_ : Unit) : Option Value × IM := (none, im)
def eA (g : GX) (im : IM) (i : Nat) : Option Value × IM := (some (.ref (g.2.2.2.1.1 i)), im)
/-! words of the answers -/
def bnd {α β : Type} (a : α) (k : α → β) : β := k a
def inb (i : Int32) (n : Nat) : Bool := !(decide (i < 0)) && decide (i.toNatClampNeg < n)
abbrev ix (i : Int32) : Nat := i.toNatClampNeg
def jshl (x y : Int32) : Int32 := x <<< (y &&& 31)
def jshr (x y : Int32) : Int32 := x >>> (y &&& 31)
def jush (x y : Int32) : Int32 := (x.toUInt32 >>> (y.toUInt32 &&& Int32.toUInt32 31)).toInt32
def jrem (x y : Int32) : Int32 := x - x / y * y
def jmax (x y : Int32) : Int32 := if x < y then y else x
def jmin (x y : Int32) : Int32 := if y < x then y else x
def jabs (x : Int32) : Int32 := if 0 ≤ x then x else 0 - x
def zb (x : Int32) : Int32 := x &&& 1
def zc (x : Int32) : Int32 := x.toUInt32.toUInt16.toUInt32.toInt32
def zy (x : Int32) : Int32 := x.toInt8.toInt32
def isb (x : Int32) : Bool := x == 0 || x == 1
theorem inb_in {i : Int32} {n : Nat} (h : inb i n = true) : vp_in i n := by
  simp only [inb, Bool.and_eq_true, Bool.not_eq_true', decide_eq_false_iff_not, decide_eq_true_eq] at h
  intro q
  rcases q with q | q
  · exact h.1 q
  · omega
theorem x_grd {ρ : Type} {b : Bool} {o : Option ρ} {r : ρ} (h : (if b = true then o else none) = some r) : b = true ∧ o = some r := by
  cases b with
  | true => exact ⟨rfl, by simpa using h⟩
  | false => simp at h
section XR
variable {g : GX} {lev nL : Nat} {own : String} {cc : ByteArray} {ret : Option FieldType} {ρ : Type} {enc : ρ → Option Value × IM} {pc : Nat} {lv : List (Nat × Value)} {st : List Value} {im : IM} {o : Option ρ}

theorem x_iconst {n : Int} {v : Int32} (hv : Int32.ofInt n = v) (d : decode cc pc = .ok (.iconst n, 1)) (k : X g (lev, nL, own, cc, ret) enc (pc + 1) lv (.int v :: st) im o) : X g (lev, nL, own, cc, ret) enc pc lv (st) im o := by
  intro r hr p l e s m args below meth c H locs ls hB hH
  exact lv_iconst hB.1 hB.2.1 d hv (k r hr p l e s m args below meth c H locs ls hB hH)
theorem x_bipush {n : Int} {v : Int32} (hv : (Int8.ofInt n).toInt32 = v) (d : decode cc pc = .ok (.bipush n, 2)) (k : X g (lev, nL, own, cc, ret) enc (pc + 2) lv (.int v :: st) im o) : X g (lev, nL, own, cc, ret) enc pc lv (st) im o := by
  intro r hr p l e s m args below meth c H locs ls hB hH
  exact lv_bipush hB.1 hB.2.1 d hv (k r hr p l e s m args below meth c H locs ls hB hH)
theorem x_sipush {n : Int} {v : Int32} (hv : (Int16.ofInt n).toInt32 = v) (d : decode cc pc = .ok (.sipush n, 3)) (k : X g (lev, nL, own, cc, ret) enc (pc + 3) lv (.int v :: st) im o) : X g (lev, nL, own, cc, ret) enc pc lv (st) im o := by
  intro r hr p l e s m args below meth c H locs ls hB hH
  exact lv_sipush hB.1 hB.2.1 d hv (k r hr p l e s m args below meth c H locs ls hB hH)
theorem x_lconst {n : Fin 2} {v : Int64} (hv : Int64.ofNat (n : Nat) = v) (d : decode cc pc = .ok (.lconst n, 1)) (k : X g (lev, nL, own, cc, ret) enc (pc + 1) lv (.long v :: st) im o) : X g (lev, nL, own, cc, ret) enc pc lv (st) im o := by
  intro r hr p l e s m args below meth c H locs ls hB hH
  exact lv_lconst hB.1 hB.2.1 d hv (k r hr p l e s m args below meth c H locs ls hB hH)
theorem x_iload_n {k : Fin 4} {i q : Nat} {x : Int32} (hi : (k : Nat) = i) (hq : lv[q]? = some (i, .int x)) (d : decode cc pc = .ok (.iload_n k, 1)) (k : X g (lev, nL, own, cc, ret) enc (pc + 1) lv (.int x :: st) im o) : X g (lev, nL, own, cc, ret) enc pc lv (st) im o := by
  intro r hr p l e s m args below meth c H locs ls hB hH
  exact lv_iload_n hB.1 hB.2.1 d hi (lv_at hH.2.2 q hq) (k r hr p l e s m args below meth c H locs ls hB hH)
theorem x_iload {i q : Nat} {x : Int32} (hq : lv[q]? = some (i, .int x)) (d : decode cc pc = .ok (.iload i, 2)) (k : X g (lev, nL, own, cc, ret) enc (pc + 2) lv (.int x :: st) im o) : X g (lev, nL, own, cc, ret) enc pc lv (st) im o := by
  intro r hr p l e s m args below meth c H locs ls hB hH
  exact lv_iload hB.1 hB.2.1 d (lv_at hH.2.2 q hq) (k r hr p l e s m args below meth c H locs ls hB hH)
theorem x_istore_n {k : Fin 4} {i : Nat} (hi : (k : Nat) = i) {x : Int32} {lv' : List (Nat × Value)} (d : decode cc pc = .ok (.istore_n k, 1)) (hn : i < nL) (hl : (i, Value.int x) :: lv.filter (fun q => !(q.1 == i) && !(q.1 + 1 == i && q.2.category == 2)) = lv') (k : X g (lev, nL, own, cc, ret) enc (pc + 1) lv' st im o) : X g (lev, nL, own, cc, ret) enc pc lv (.int x :: st) im o := by
  intro r hr p l e s m args below meth c H locs ls hB hH
  exact lv_istore_n hB.1 hB.2.1 d hi hH.2.2 hn hl (fun ls' h' => k r hr p l e s m args below meth c H locs ls' hB ⟨hH.1, hH.2.1, h'⟩)
theorem x_istore {i : Nat} {x : Int32} {lv' : List (Nat × Value)} (d : decode cc pc = .ok (.istore i, 2)) (hn : i < nL) (hl : (i, Value.int x) :: lv.filter (fun q => !(q.1 == i) && !(q.1 + 1 == i && q.2.category == 2)) = lv') (k : X g (lev, nL, own, cc, ret) enc (pc + 2) lv' st im o) : X g (lev, nL, own, cc, ret) enc pc lv (.int x :: st) im o := by
  intro r hr p l e s m args below meth c H locs ls hB hH
  exact lv_istore hB.1 hB.2.1 d hH.2.2 hn hl (fun ls' h' => k r hr p l e s m args below meth c H locs ls' hB ⟨hH.1, hH.2.1, h'⟩)
theorem x_lload_n {k : Fin 4} {i q : Nat} {x : Int64} (hi : (k : Nat) = i) (hq : lv[q]? = some (i, .long x)) (d : decode cc pc = .ok (.lload_n k, 1)) (k : X g (lev, nL, own, cc, ret) enc (pc + 1) lv (.long x :: st) im o) : X g (lev, nL, own, cc, ret) enc pc lv (st) im o := by
  intro r hr p l e s m args below meth c H locs ls hB hH
  exact lv_lload_n hB.1 hB.2.1 d hi (lv_at hH.2.2 q hq) (k r hr p l e s m args below meth c H locs ls hB hH)
theorem x_lload {i q : Nat} {x : Int64} (hq : lv[q]? = some (i, .long x)) (d : decode cc pc = .ok (.lload i, 2)) (k : X g (lev, nL, own, cc, ret) enc (pc + 2) lv (.long x :: st) im o) : X g (lev, nL, own, cc, ret) enc pc lv (st) im o := by
  intro r hr p l e s m args below meth c H locs ls hB hH
  exact lv_lload hB.1 hB.2.1 d (lv_at hH.2.2 q hq) (k r hr p l e s m args below meth c H locs ls hB hH)
theorem x_lstore_n {k : Fin 4} {i : Nat} (hi : (k : Nat) = i) {x : Int64} {lv' : List (Nat × Value)} (d : decode cc pc = .ok (.lstore_n k, 1)) (hn : i + 1 < nL) (hl : (i, Value.long x) :: lv.filter (fun q => !(q.1 == i) && (!(q.1 == i + 1) && !(q.1 + 1 == i && q.2.category == 2))) = lv') (k : X g (lev, nL, own, cc, ret) enc (pc + 1) lv' st im o) : X g (lev, nL, own, cc, ret) enc pc lv (.long x :: st) im o := by
  intro r hr p l e s m args below meth c H locs ls hB hH
  exact lv_lstore_n hB.1 hB.2.1 d hi hH.2.2 hn hl (fun ls' h' => k r hr p l e s m args below meth c H locs ls' hB ⟨hH.1, hH.2.1, h'⟩)
theorem x_lstore {i : Nat} {x : Int64} {lv' : List (Nat × Value)} (d : decode cc pc = .ok (.lstore i, 2)) (hn : i + 1 < nL) (hl : (i, Value.long x) :: lv.filter (fun q => !(q.1 == i) && (!(q.1 == i + 1) && !(q.1 + 1 == i && q.2.category == 2))) = lv') (k : X g (lev, nL, own, cc, ret) enc (pc + 2) lv' st im o) : X g (lev, nL, own, cc, ret) enc pc lv (.long x :: st) im o := by
  intro r hr p l e s m args below meth c H locs ls hB hH
  exact lv_lstore hB.1 hB.2.1 d hH.2.2 hn hl (fun ls' h' => k r hr p l e s m args below meth c H locs ls' hB ⟨hH.1, hH.2.1, h'⟩)
theorem x_aload_n {k : Fin 4} {i q : Nat} {x : Nat} (hi : (k : Nat) = i) (hq : lv[q]? = some (i, .ref x)) (d : decode cc pc = .ok (.aload_n k, 1)) (k : X g (lev, nL, own, cc, ret) enc (pc + 1) lv (.ref x :: st) im o) : X g (lev, nL, own, cc, ret) enc pc lv (st) im o := by
  intro r hr p l e s m args below meth c H locs ls hB hH
  exact lv_aload_n hB.1 hB.2.1 d hi (lv_at hH.2.2 q hq) (k r hr p l e s m args below meth c H locs ls hB hH)
theorem x_aload {i q : Nat} {x : Nat} (hq : lv[q]? = some (i, .ref x)) (d : decode cc pc = .ok (.aload i, 2)) (k : X g (lev, nL, own, cc, ret) enc (pc + 2) lv (.ref x :: st) im o) : X g (lev, nL, own, cc, ret) enc pc lv (st) im o := by
  intro r hr p l e s m args below meth c H locs ls hB hH
  exact lv_aload hB.1 hB.2.1 d (lv_at hH.2.2 q hq) (k r hr p l e s m args below meth c H locs ls hB hH)
theorem x_astore_n {k : Fin 4} {i : Nat} (hi : (k : Nat) = i) {x : Nat} {lv' : List (Nat × Value)} (d : decode cc pc = .ok (.astore_n k, 1)) (hn : i < nL) (hl : (i, Value.ref x) :: lv.filter (fun q => !(q.1 == i) && !(q.1 + 1 == i && q.2.category == 2)) = lv') (k : X g (lev, nL, own, cc, ret) enc (pc + 1) lv' st im o) : X g (lev, nL, own, cc, ret) enc pc lv (.ref x :: st) im o := by
  intro r hr p l e s m args below meth c H locs ls hB hH
  exact lv_astore_n hB.1 hB.2.1 d hi hH.2.2 hn hl (fun ls' h' => k r hr p l e s m args below meth c H locs ls' hB ⟨hH.1, hH.2.1, h'⟩)
theorem x_astore {i : Nat} {x : Nat} {lv' : List (Nat × Value)} (d : decode cc pc = .ok (.astore i, 2)) (hn : i < nL) (hl : (i, Value.ref x) :: lv.filter (fun q => !(q.1 == i) && !(q.1 + 1 == i && q.2.category == 2)) = lv') (k : X g (lev, nL, own, cc, ret) enc (pc + 2) lv' st im o) : X g (lev, nL, own, cc, ret) enc pc lv (.ref x :: st) im o := by
  intro r hr p l e s m args below meth c H locs ls hB hH
  exact lv_astore hB.1 hB.2.1 d hH.2.2 hn hl (fun ls' h' => k r hr p l e s m args below meth c H locs ls' hB ⟨hH.1, hH.2.1, h'⟩)
theorem x_iinc {i q : Nat} {n : Int} {x a : Int32} {lv' : Int32 → List (Nat × Value)} {k : Int32 → Option ρ} (d : decode cc pc = .ok (.iinc i n, 3)) (hq : lv[q]? = some (i, .int x)) (ha : Int32.ofInt n = a) (hn : i < nL) (hl : ∀ v, (i, Value.int v) :: lv.filter (fun q => !(q.1 == i) && !(q.1 + 1 == i && q.2.category == 2)) = lv' v) (kk : ∀ v, X g (lev, nL, own, cc, ret) enc (pc + 3) (lv' v) st im (k v)) : X g (lev, nL, own, cc, ret) enc pc lv st im (bnd (x + a) k) := by
  intro r hr p l e s m args below meth c H locs ls hB hH
  subst ha
  exact lv_iinc hB.1 hB.2.1 d hH.2.2 hq rfl hn (hl _) (fun ls' h' => kk (x + Int32.ofInt n) r hr p l e s m args below meth c H locs ls' hB ⟨hH.1, hH.2.1, h'⟩)
theorem x_iadd {x y : Int32} (d : decode cc pc = .ok (.iadd, 1)) (k : X g (lev, nL, own, cc, ret) enc (pc + 1) lv (.int (x + y) :: st) im o) : X g (lev, nL, own, cc, ret) enc pc lv (.int y :: .int x :: st) im o := by
  intro r hr p l e s m args below meth c H locs ls hB hH
  exact lv_iadd hB.1 hB.2.1 d (k r hr p l e s m args below meth c H locs ls hB hH)
theorem x_isub {x y : Int32} (d : decode cc pc = .ok (.isub, 1)) (k : X g (lev, nL, own, cc, ret) enc (pc + 1) lv (.int (x - y) :: st) im o) : X g (lev, nL, own, cc, ret) enc pc lv (.int y :: .int x :: st) im o := by
  intro r hr p l e s m args below meth c H locs ls hB hH
  exact lv_isub hB.1 hB.2.1 d (k r hr p l e s m args below meth c H locs ls hB hH)
theorem x_imul {x y : Int32} (d : decode cc pc = .ok (.imul, 1)) (k : X g (lev, nL, own, cc, ret) enc (pc + 1) lv (.int (x * y) :: st) im o) : X g (lev, nL, own, cc, ret) enc pc lv (.int y :: .int x :: st) im o := by
  intro r hr p l e s m args below meth c H locs ls hB hH
  exact lv_imul hB.1 hB.2.1 d (k r hr p l e s m args below meth c H locs ls hB hH)
theorem x_iand {x y : Int32} (d : decode cc pc = .ok (.iand, 1)) (k : X g (lev, nL, own, cc, ret) enc (pc + 1) lv (.int (x &&& y) :: st) im o) : X g (lev, nL, own, cc, ret) enc pc lv (.int y :: .int x :: st) im o := by
  intro r hr p l e s m args below meth c H locs ls hB hH
  exact lv_iand hB.1 hB.2.1 d (k r hr p l e s m args below meth c H locs ls hB hH)
theorem x_ior {x y : Int32} (d : decode cc pc = .ok (.ior, 1)) (k : X g (lev, nL, own, cc, ret) enc (pc + 1) lv (.int (x ||| y) :: st) im o) : X g (lev, nL, own, cc, ret) enc pc lv (.int y :: .int x :: st) im o := by
  intro r hr p l e s m args below meth c H locs ls hB hH
  exact lv_ior hB.1 hB.2.1 d (k r hr p l e s m args below meth c H locs ls hB hH)
theorem x_ixor {x y : Int32} (d : decode cc pc = .ok (.ixor, 1)) (k : X g (lev, nL, own, cc, ret) enc (pc + 1) lv (.int (x ^^^ y) :: st) im o) : X g (lev, nL, own, cc, ret) enc pc lv (.int y :: .int x :: st) im o := by
  intro r hr p l e s m args below meth c H locs ls hB hH
  exact lv_ixor hB.1 hB.2.1 d (k r hr p l e s m args below meth c H locs ls hB hH)
theorem x_ishl {x y : Int32} (d : decode cc pc = .ok (.ishl, 1)) (k : X g (lev, nL, own, cc, ret) enc (pc + 1) lv (.int (jshl x y) :: st) im o) : X g (lev, nL, own, cc, ret) enc pc lv (.int y :: .int x :: st) im o := by
  intro r hr p l e s m args below meth c H locs ls hB hH
  exact lv_ishl hB.1 hB.2.1 d (k r hr p l e s m args below meth c H locs ls hB hH)
theorem x_ishr {x y : Int32} (d : decode cc pc = .ok (.ishr, 1)) (k : X g (lev, nL, own, cc, ret) enc (pc + 1) lv (.int (jshr x y) :: st) im o) : X g (lev, nL, own, cc, ret) enc pc lv (.int y :: .int x :: st) im o := by
  intro r hr p l e s m args below meth c H locs ls hB hH
  exact lv_ishr hB.1 hB.2.1 d (k r hr p l e s m args below meth c H locs ls hB hH)
theorem x_iushr {x y : Int32} (d : decode cc pc = .ok (.iushr, 1)) (k : X g (lev, nL, own, cc, ret) enc (pc + 1) lv (.int (jush x y) :: st) im o) : X g (lev, nL, own, cc, ret) enc pc lv (.int y :: .int x :: st) im o := by
  intro r hr p l e s m args below meth c H locs ls hB hH
  exact lv_iushr hB.1 hB.2.1 d rfl (k r hr p l e s m args below meth c H locs ls hB hH)
theorem x_ineg {x : Int32} (d : decode cc pc = .ok (.ineg, 1)) (k : X g (lev, nL, own, cc, ret) enc (pc + 1) lv (.int (-x) :: st) im o) : X g (lev, nL, own, cc, ret) enc pc lv (.int x :: st) im o := by
  intro r hr p l e s m args below meth c H locs ls hB hH
  exact lv_ineg hB.1 hB.2.1 d (k r hr p l e s m args below meth c H locs ls hB hH)
theorem x_idiv {x y : Int32} (hne : ¬ y = 0) (d : decode cc pc = .ok (.idiv, 1)) (k : X g (lev, nL, own, cc, ret) enc (pc + 1) lv (.int (x / y) :: st) im o) : X g (lev, nL, own, cc, ret) enc pc lv (.int y :: .int x :: st) im o := by
  intro r hr p l e s m args below meth c H locs ls hB hH
  exact lv_idiv hB.1 hB.2.1 d hne (k r hr p l e s m args below meth c H locs ls hB hH)
theorem x_irem {x y : Int32} (hne : ¬ y = 0) (d : decode cc pc = .ok (.irem, 1)) (k : X g (lev, nL, own, cc, ret) enc (pc + 1) lv (.int (jrem x y) :: st) im o) : X g (lev, nL, own, cc, ret) enc pc lv (.int y :: .int x :: st) im o := by
  intro r hr p l e s m args below meth c H locs ls hB hH
  exact lv_irem hB.1 hB.2.1 d hne (k r hr p l e s m args below meth c H locs ls hB hH)
theorem x_ladd {x y : Int64} (d : decode cc pc = .ok (.ladd, 1)) (k : X g (lev, nL, own, cc, ret) enc (pc + 1) lv (.long (x + y) :: st) im o) : X g (lev, nL, own, cc, ret) enc pc lv (.long y :: .long x :: st) im o := by
  intro r hr p l e s m args below meth c H locs ls hB hH
  exact lv_ladd hB.1 hB.2.1 d (k r hr p l e s m args below meth c H locs ls hB hH)
theorem x_lsub {x y : Int64} (d : decode cc pc = .ok (.lsub, 1)) (k : X g (lev, nL, own, cc, ret) enc (pc + 1) lv (.long (x - y) :: st) im o) : X g (lev, nL, own, cc, ret) enc pc lv (.long y :: .long x :: st) im o := by
  intro r hr p l e s m args below meth c H locs ls hB hH
  exact lv_lsub hB.1 hB.2.1 d (k r hr p l e s m args below meth c H locs ls hB hH)
theorem x_lmul {x y : Int64} (d : decode cc pc = .ok (.lmul, 1)) (k : X g (lev, nL, own, cc, ret) enc (pc + 1) lv (.long (x * y) :: st) im o) : X g (lev, nL, own, cc, ret) enc pc lv (.long y :: .long x :: st) im o := by
  intro r hr p l e s m args below meth c H locs ls hB hH
  exact lv_lmul hB.1 hB.2.1 d (k r hr p l e s m args below meth c H locs ls hB hH)
theorem x_lcmp {x y : Int64} (d : decode cc pc = .ok (.lcmp, 1)) (k : X g (lev, nL, own, cc, ret) enc (pc + 1) lv (.int (lg_cmp x y) :: st) im o) : X g (lev, nL, own, cc, ret) enc pc lv (.long y :: .long x :: st) im o := by
  intro r hr p l e s m args below meth c H locs ls hB hH
  exact W.lcmp hB.1 hB.2.1 d (k r hr p l e s m args below meth c H locs ls hB hH)
theorem x_i2l {x : Int32} (d : decode cc pc = .ok (.i2l, 1)) (k : X g (lev, nL, own, cc, ret) enc (pc + 1) lv (.long x.toInt64 :: st) im o) : X g (lev, nL, own, cc, ret) enc pc lv (.int x :: st) im o := by
  intro r hr p l e s m args below meth c H locs ls hB hH
  exact lv_i2l hB.1 hB.2.1 d rfl (k r hr p l e s m args below meth c H locs ls hB hH)
theorem x_l2i {x : Int64} (d : decode cc pc = .ok (.l2i, 1)) (k : X g (lev, nL, own, cc, ret) enc (pc + 1) lv (.int x.toInt32 :: st) im o) : X g (lev, nL, own, cc, ret) enc pc lv (.long x :: st) im o := by
  intro r hr p l e s m args below meth c H locs ls hB hH
  exact lv_l2i hB.1 hB.2.1 d rfl (k r hr p l e s m args below meth c H locs ls hB hH)
theorem x_i2b {x : Int32} (d : decode cc pc = .ok (.i2b, 1)) (k : X g (lev, nL, own, cc, ret) enc (pc + 1) lv (.int x.toInt8.toInt32 :: st) im o) : X g (lev, nL, own, cc, ret) enc pc lv (.int x :: st) im o := by
  intro r hr p l e s m args below meth c H locs ls hB hH
  exact lv_i2b hB.1 hB.2.1 d rfl (k r hr p l e s m args below meth c H locs ls hB hH)
theorem x_i2s {x : Int32} (d : decode cc pc = .ok (.i2s, 1)) (k : X g (lev, nL, own, cc, ret) enc (pc + 1) lv (.int x.toInt16.toInt32 :: st) im o) : X g (lev, nL, own, cc, ret) enc pc lv (.int x :: st) im o := by
  intro r hr p l e s m args below meth c H locs ls hB hH
  exact lv_i2s hB.1 hB.2.1 d rfl (k r hr p l e s m args below meth c H locs ls hB hH)
theorem x_i2c {x : Int32} (d : decode cc pc = .ok (.i2c, 1)) (k : X g (lev, nL, own, cc, ret) enc (pc + 1) lv (.int (x.toUInt32 % 65536).toInt32 :: st) im o) : X g (lev, nL, own, cc, ret) enc pc lv (.int x :: st) im o := by
  intro r hr p l e s m args below meth c H locs ls hB hH
  exact lv_i2c hB.1 hB.2.1 d rfl (k r hr p l e s m args below meth c H locs ls hB hH)
theorem x_dup {v : Value} (hv : v.category = 1) (d : decode cc pc = .ok (.dup, 1)) (k : X g (lev, nL, own, cc, ret) enc (pc + 1) lv (v :: v :: st) im o) : X g (lev, nL, own, cc, ret) enc pc lv (v :: st) im o := by
  intro r hr p l e s m args below meth c H locs ls hB hH
  exact lv_dup hB.1 hB.2.1 d hv (k r hr p l e s m args below meth c H locs ls hB hH)
theorem x_pop {v : Value} (hv : v.category = 1) (d : decode cc pc = .ok (.pop, 1)) (k : X g (lev, nL, own, cc, ret) enc (pc + 1) lv (st) im o) : X g (lev, nL, own, cc, ret) enc pc lv (v :: st) im o := by
  intro r hr p l e s m args below meth c H locs ls hB hH
  exact lv_pop hB.1 hB.2.1 d hv (k r hr p l e s m args below meth c H locs ls hB hH)
theorem x_dup2 {v u : Value} (hv : v.category = 1) (hu : u.category = 1) (d : decode cc pc = .ok (.dup2, 1)) (k : X g (lev, nL, own, cc, ret) enc (pc + 1) lv (v :: u :: v :: u :: st) im o) : X g (lev, nL, own, cc, ret) enc pc lv (v :: u :: st) im o := by
  intro r hr p l e s m args below meth c H locs ls hB hH
  exact lv_dup2_11 hB.1 hB.2.1 d hv hu (k r hr p l e s m args below meth c H locs ls hB hH)
theorem x_dup_x1 {v u : Value} (hv : v.category = 1) (hu : u.category = 1) (d : decode cc pc = .ok (.dup_x1, 1)) (k : X g (lev, nL, own, cc, ret) enc (pc + 1) lv (v :: u :: v :: st) im o) : X g (lev, nL, own, cc, ret) enc pc lv (v :: u :: st) im o := by
  intro r hr p l e s m args below meth c H locs ls hB hH
  exact lv_dup_x1 hB.1 hB.2.1 d hv hu (k r hr p l e s m args below meth c H locs ls hB hH)
theorem x_goto {off : Int} {tgt : Nat} (d : decode cc pc = .ok (.goto off, 3)) (ht : (pc : Int) + off = (tgt : Int)) (k : X g (lev, nL, own, cc, ret) enc tgt lv st im o) : X g (lev, nL, own, cc, ret) enc pc lv st im o := by
  intro r hr p l e s m args below meth c H locs ls hB hH
  exact lv_goto hB.1 hB.2.1 d ht (k r hr p l e s m args below meth c H locs ls hB hH)
theorem x_if_eq {x : Int32} {off : Int} {tgt : Nat} {o1 o2 : Option ρ} (d : decode cc pc = .ok (.ifCond .eq off, 3)) (ht : (pc : Int) + off = (tgt : Int)) (kt : X g (lev, nL, own, cc, ret) enc tgt lv st im o1) (kf : X g (lev, nL, own, cc, ret) enc (pc + 3) lv st im o2) : X g (lev, nL, own, cc, ret) enc pc lv (.int x :: st) im (if x = 0 then o1 else o2) := by
  intro r hr p l e s m args below meth c H locs ls hB hH
  exact lv_if_eq hB.1 hB.2.1 d ht (fun h => kt r (by rw [if_pos h] at hr; exact hr) p l e s m args below meth c H locs ls hB hH) (fun h => kf r (by rw [if_neg h] at hr; exact hr) p l e s m args below meth c H locs ls hB hH)
theorem x_if_ne {x : Int32} {off : Int} {tgt : Nat} {o1 o2 : Option ρ} (d : decode cc pc = .ok (.ifCond .ne off, 3)) (ht : (pc : Int) + off = (tgt : Int)) (kt : X g (lev, nL, own, cc, ret) enc tgt lv st im o1) (kf : X g (lev, nL, own, cc, ret) enc (pc + 3) lv st im o2) : X g (lev, nL, own, cc, ret) enc pc lv (.int x :: st) im (if x = 0 then o2 else o1) := by
  intro r hr p l e s m args below meth c H locs ls hB hH
  exact lv_if_ne hB.1 hB.2.1 d ht (fun h => kt r (by rw [if_neg h] at hr; exact hr) p l e s m args below meth c H locs ls hB hH) (fun h => kf r (by rw [if_pos h] at hr; exact hr) p l e s m args below meth c H locs ls hB hH)
theorem x_if_lt {x : Int32} {off : Int} {tgt : Nat} {o1 o2 : Option ρ} (d : decode cc pc = .ok (.ifCond .lt off, 3)) (ht : (pc : Int) + off = (tgt : Int)) (kt : X g (lev, nL, own, cc, ret) enc tgt lv st im o1) (kf : X g (lev, nL, own, cc, ret) enc (pc + 3) lv st im o2) : X g (lev, nL, own, cc, ret) enc pc lv (.int x :: st) im (if x < 0 then o1 else o2) := by
  intro r hr p l e s m args below meth c H locs ls hB hH
  exact lv_if_lt hB.1 hB.2.1 d ht (fun h => kt r (by rw [if_pos h] at hr; exact hr) p l e s m args below meth c H locs ls hB hH) (fun h => kf r (by rw [if_neg h] at hr; exact hr) p l e s m args below meth c H locs ls hB hH)
theorem x_if_ge {x : Int32} {off : Int} {tgt : Nat} {o1 o2 : Option ρ} (d : decode cc pc = .ok (.ifCond .ge off, 3)) (ht : (pc : Int) + off = (tgt : Int)) (kt : X g (lev, nL, own, cc, ret) enc tgt lv st im o1) (kf : X g (lev, nL, own, cc, ret) enc (pc + 3) lv st im o2) : X g (lev, nL, own, cc, ret) enc pc lv (.int x :: st) im (if 0 ≤ x then o1 else o2) := by
  intro r hr p l e s m args below meth c H locs ls hB hH
  exact lv_if_ge hB.1 hB.2.1 d ht (fun h => kt r (by rw [if_pos h] at hr; exact hr) p l e s m args below meth c H locs ls hB hH) (fun h => kf r (by rw [if_neg h] at hr; exact hr) p l e s m args below meth c H locs ls hB hH)
theorem x_if_gt {x : Int32} {off : Int} {tgt : Nat} {o1 o2 : Option ρ} (d : decode cc pc = .ok (.ifCond .gt off, 3)) (ht : (pc : Int) + off = (tgt : Int)) (kt : X g (lev, nL, own, cc, ret) enc tgt lv st im o1) (kf : X g (lev, nL, own, cc, ret) enc (pc + 3) lv st im o2) : X g (lev, nL, own, cc, ret) enc pc lv (.int x :: st) im (if 0 < x then o1 else o2) := by
  intro r hr p l e s m args below meth c H locs ls hB hH
  exact lv_if_gt hB.1 hB.2.1 d ht (fun h => kt r (by rw [if_pos h] at hr; exact hr) p l e s m args below meth c H locs ls hB hH) (fun h => kf r (by rw [if_neg h] at hr; exact hr) p l e s m args below meth c H locs ls hB hH)
theorem x_if_le {x : Int32} {off : Int} {tgt : Nat} {o1 o2 : Option ρ} (d : decode cc pc = .ok (.ifCond .le off, 3)) (ht : (pc : Int) + off = (tgt : Int)) (kt : X g (lev, nL, own, cc, ret) enc tgt lv st im o1) (kf : X g (lev, nL, own, cc, ret) enc (pc + 3) lv st im o2) : X g (lev, nL, own, cc, ret) enc pc lv (.int x :: st) im (if x ≤ 0 then o1 else o2) := by
  intro r hr p l e s m args below meth c H locs ls hB hH
  exact lv_if_le hB.1 hB.2.1 d ht (fun h => kt r (by rw [if_pos h] at hr; exact hr) p l e s m args below meth c H locs ls hB hH) (fun h => kf r (by rw [if_neg h] at hr; exact hr) p l e s m args below meth c H locs ls hB hH)
theorem x_icmp_eq {x y : Int32} {off : Int} {tgt : Nat} {o1 o2 : Option ρ} (d : decode cc pc = .ok (.if_icmp .eq off, 3)) (ht : (pc : Int) + off = (tgt : Int)) (kt : X g (lev, nL, own, cc, ret) enc tgt lv st im o1) (kf : X g (lev, nL, own, cc, ret) enc (pc + 3) lv st im o2) : X g (lev, nL, own, cc, ret) enc pc lv (.int y :: .int x :: st) im (if x = y then o1 else o2) := by
  intro r hr p l e s m args below meth c H locs ls hB hH
  exact lv_icmp_eq hB.1 hB.2.1 d ht (fun h => kt r (by rw [if_pos h] at hr; exact hr) p l e s m args below meth c H locs ls hB hH) (fun h => kf r (by rw [if_neg h] at hr; exact hr) p l e s m args below meth c H locs ls hB hH)
theorem x_icmp_ne {x y : Int32} {off : Int} {tgt : Nat} {o1 o2 : Option ρ} (d : decode cc pc = .ok (.if_icmp .ne off, 3)) (ht : (pc : Int) + off = (tgt : Int)) (kt : X g (lev, nL, own, cc, ret) enc tgt lv st im o1) (kf : X g (lev, nL, own, cc, ret) enc (pc + 3) lv st im o2) : X g (lev, nL, own, cc, ret) enc pc lv (.int y :: .int x :: st) im (if x = y then o2 else o1) := by
  intro r hr p l e s m args below meth c H locs ls hB hH
  exact lv_icmp_ne hB.1 hB.2.1 d ht (fun h => kt r (by rw [if_neg h] at hr; exact hr) p l e s m args below meth c H locs ls hB hH) (fun h => kf r (by rw [if_pos h] at hr; exact hr) p l e s m args below meth c H locs ls hB hH)
theorem x_icmp_lt {x y : Int32} {off : Int} {tgt : Nat} {o1 o2 : Option ρ} (d : decode cc pc = .ok (.if_icmp .lt off, 3)) (ht : (pc : Int) + off = (tgt : Int)) (kt : X g (lev, nL, own, cc, ret) enc tgt lv st im o1) (kf : X g (lev, nL, own, cc, ret) enc (pc + 3) lv st im o2) : X g (lev, nL, own, cc, ret) enc pc lv (.int y :: .int x :: st) im (if x < y then o1 else o2) := by
  intro r hr p l e s m args below meth c H locs ls hB hH
  exact lv_icmp_lt hB.1 hB.2.1 d ht (fun h => kt r (by rw [if_pos h] at hr; exact hr) p l e s m args below meth c H locs ls hB hH) (fun h => kf r (by rw [if_neg h] at hr; exact hr) p l e s m args below meth c H locs ls hB hH)
theorem x_icmp_ge {x y : Int32} {off : Int} {tgt : Nat} {o1 o2 : Option ρ} (d : decode cc pc = .ok (.if_icmp .ge off, 3)) (ht : (pc : Int) + off = (tgt : Int)) (kt : X g (lev, nL, own, cc, ret) enc tgt lv st im o1) (kf : X g (lev, nL, own, cc, ret) enc (pc + 3) lv st im o2) : X g (lev, nL, own, cc, ret) enc pc lv (.int y :: .int x :: st) im (if y ≤ x then o1 else o2) := by
  intro r hr p l e s m args below meth c H locs ls hB hH
  exact lv_icmp_ge hB.1 hB.2.1 d ht (fun h => kt r (by rw [if_pos h] at hr; exact hr) p l e s m args below meth c H locs ls hB hH) (fun h => kf r (by rw [if_neg h] at hr; exact hr) p l e s m args below meth c H locs ls hB hH)
theorem x_icmp_gt {x y : Int32} {off : Int} {tgt : Nat} {o1 o2 : Option ρ} (d : decode cc pc = .ok (.if_icmp .gt off, 3)) (ht : (pc : Int) + off = (tgt : Int)) (kt : X g (lev, nL, own, cc, ret) enc tgt lv st im o1) (kf : X g (lev, nL, own, cc, ret) enc (pc + 3) lv st im o2) : X g (lev, nL, own, cc, ret) enc pc lv (.int y :: .int x :: st) im (if y < x then o1 else o2) := by
  intro r hr p l e s m args below meth c H locs ls hB hH
  exact lv_icmp_gt hB.1 hB.2.1 d ht (fun h => kt r (by rw [if_pos h] at hr; exact hr) p l e s m args below meth c H locs ls hB hH) (fun h => kf r (by rw [if_neg h] at hr; exact hr) p l e s m args below meth c H locs ls hB hH)
theorem x_icmp_le {x y : Int32} {off : Int} {tgt : Nat} {o1 o2 : Option ρ} (d : decode cc pc = .ok (.if_icmp .le off, 3)) (ht : (pc : Int) + off = (tgt : Int)) (kt : X g (lev, nL, own, cc, ret) enc tgt lv st im o1) (kf : X g (lev, nL, own, cc, ret) enc (pc + 3) lv st im o2) : X g (lev, nL, own, cc, ret) enc pc lv (.int y :: .int x :: st) im (if x ≤ y then o1 else o2) := by
  intro r hr p l e s m args below meth c H locs ls hB hH
  exact lv_icmp_le hB.1 hB.2.1 d ht (fun h => kt r (by rw [if_pos h] at hr; exact hr) p l e s m args below meth c H locs ls hB hH) (fun h => kf r (by rw [if_neg h] at hr; exact hr) p l e s m args below meth c H locs ls hB hH)
theorem x_none : X g (lev, nL, own, cc, ret) enc pc lv st im none := by
  intro r hr
  cases hr
theorem x_cs {c : Prop} [Decidable c] {a b : ρ} (k : X g (lev, nL, own, cc, ret) enc pc lv st im (if c then some a else some b)) : X g (lev, nL, own, cc, ret) enc pc lv st im (some (if c then a else b)) := by
  by_cases h : c
  · rw [if_pos h] at k ⊢; exact k
  · rw [if_neg h] at k ⊢; exact k
theorem x_bs {α : Type} {a : α} {k : α → ρ} (h : X g (lev, nL, own, cc, ret) enc pc lv st im (bnd a (fun x => some (k x)))) : X g (lev, nL, own, cc, ret) enc pc lv st im (some (bnd a k)) := h
theorem x_bi {e : Int32} {k : Int32 → Option ρ} (h : ∀ x, X g (lev, nL, own, cc, ret) enc pc lv (.int x :: st) im (k x)) : X g (lev, nL, own, cc, ret) enc pc lv (.int e :: st) im (bnd e k) := h e
theorem x_bi2 {e : Int32} {v : Value} {k : Int32 → Option ρ} (h : ∀ x, X g (lev, nL, own, cc, ret) enc pc lv (v :: .int x :: st) im (k x)) : X g (lev, nL, own, cc, ret) enc pc lv (v :: .int e :: st) im (bnd e k) := h e
theorem x_bl {e : Int64} {k : Int64 → Option ρ} (h : ∀ x, X g (lev, nL, own, cc, ret) enc pc lv (.long x :: st) im (k x)) : X g (lev, nL, own, cc, ret) enc pc lv (.long e :: st) im (bnd e k) := h e
theorem x_bm {k : IM → Option ρ} (h : ∀ x, X g (lev, nL, own, cc, ret) enc pc lv st x (k x)) : X g (lev, nL, own, cc, ret) enc pc lv st im (bnd im k) := h im
theorem x_sub {lv' : List (Nat × Value)} (ks : List Nat) (hl : lv_pick lv ks = lv') (k : X g (lev, nL, own, cc, ret) enc pc lv' st im o) : X g (lev, nL, own, cc, ret) enc pc lv st im o := by
  intro r hr p l e s m args below meth c H locs ls hB hH
  exact k r hr p l e s m args below meth c H locs ls hB ⟨hH.1, hH.2.1, lv_sub hH.2.2 ks hl⟩
theorem x_eqpc {pc' : Nat} (h : pc = pc') (k : X g (lev, nL, own, cc, ret) enc pc' lv st im o) : X g (lev, nL, own, cc, ret) enc pc lv st im o := h ▸ k
/-- a switch's one case -/
theorem x_tsw {dflt lo hi off : Int} {offs : Array Int} {len tgt : Nat} {x : Int32} (d : decode cc pc = .ok (.tableswitch dflt lo hi offs, len)) (h1 : ¬ x.toInt < lo) (h2 : ¬ hi < x.toInt) (ho : offs[(x.toInt - lo).toNat]? = some off) (ht : (pc : Int) + off = (tgt : Int)) (k : X g (lev, nL, own, cc, ret) enc tgt lv st im o) : X g (lev, nL, own, cc, ret) enc pc lv (.int x :: st) im o := by
  intro r hr p l e s m args below meth c H locs ls hB hH
  exact lv_tableIn hB.1 hB.2.1 d h1 h2 ho ht (k r hr p l e s m args below meth c H locs ls hB hH)
theorem x_tsd {dflt lo hi : Int} {offs : Array Int} {len tgt : Nat} {x : Int32} (d : decode cc pc = .ok (.tableswitch dflt lo hi offs, len)) (h : x.toInt < lo ∨ hi < x.toInt) (ht : (pc : Int) + dflt = (tgt : Int)) (k : X g (lev, nL, own, cc, ret) enc tgt lv st im o) : X g (lev, nL, own, cc, ret) enc pc lv (.int x :: st) im o := by
  intro r hr p l e s m args below meth c H locs ls hB hH
  exact lv_tableOut hB.1 hB.2.1 d h ht (k r hr p l e s m args below meth c H locs ls hB hH)
theorem x_lsw {dflt off : Int} {ps : Array (Int × Int)} {len tgt : Nat} {x : Int32} (d : decode cc pc = .ok (.lookupswitch dflt ps, len)) (hp : (ps.toList.zip (ps.toList.drop 1)).all (fun (a, next) => a.1 < next.1) = true) (ho : Op.lookupswitch.offset ps.toList dflt x.toInt = off) (ht : (pc : Int) + off = (tgt : Int)) (k : X g (lev, nL, own, cc, ret) enc tgt lv st im o) : X g (lev, nL, own, cc, ret) enc pc lv (.int x :: st) im o := by
  intro r hr p l e s m args below meth c H locs ls hB hH
  exact lv_lookup hB.1 hB.2.1 d hp ho ht (k r hr p l e s m args below meth c H locs ls hB hH)
theorem x_case {x k : Int32} {o1 o2 : Option ρ} (h1 : x = k → X g (lev, nL, own, cc, ret) enc pc lv (.int x :: st) im o1) (h2 : ¬ x = k → X g (lev, nL, own, cc, ret) enc pc lv (.int x :: st) im o2) : X g (lev, nL, own, cc, ret) enc pc lv (.int x :: st) im (if x = k then o1 else o2) := by
  by_cases h : x = k
  · rw [if_pos h]; exact h1 h
  · rw [if_neg h]; exact h2 h
/-! constants, statics -/
theorem x_ldc {index : Nat} {v : Int32} (hc : Cond.constant own index v ∈ xT) (d : decode cc pc = .ok (.ldc index, 2)) (k : X g (lev, nL, own, cc, ret) enc (pc + 2) lv (.int v :: st) im o) : X g (lev, nL, own, cc, ret) enc pc lv st im o := by
  intro r hr p l e s m args below meth c H locs ls hB hH
  exact lv_ldc hB.1 hB.2.1 hB.2.2.2.2.2.1 (xT_use hB.2.2.2.2.2.2 hc) d (k r hr p l e s m args below meth c H locs ls hB hH)
theorem x_ldcw {index : Nat} {v : Int32} (hc : Cond.constant own index v ∈ xT) (d : decode cc pc = .ok (.ldc_w index, 3)) (k : X g (lev, nL, own, cc, ret) enc (pc + 3) lv (.int v :: st) im o) : X g (lev, nL, own, cc, ret) enc pc lv st im o := by
  intro r hr p l e s m args below meth c H locs ls hB hH
  exact lv_ldcw hB.1 hB.2.1 hB.2.2.2.2.2.1 (xT_use hB.2.2.2.2.2.2 hc) d (k r hr p l e s m args below meth c H locs ls hB hH)
theorem x_ldc2 {index : Nat} {v : Int64} (hc : Cond.constantLong own index v ∈ xT) (d : decode cc pc = .ok (.ldc2_w index, 3)) (k : X g (lev, nL, own, cc, ret) enc (pc + 3) lv (.long v :: st) im o) : X g (lev, nL, own, cc, ret) enc pc lv st im o := by
  intro r hr p l e s m args below meth c H locs ls hB hH
  exact lv_ldc2 hB.1 hB.2.1 hB.2.2.2.2.2.1 (xT_use hB.2.2.2.2.2.2 hc) d (k r hr p l e s m args below meth c H locs ls hB hH)
/-! arrays of ints, of things, of sheets -/
theorem x_iald {a n : Nat} {i : Int32} (hs : xSH a = (8, n)) (d : decode cc pc = .ok (.iaload, 1)) (k : X g (lev, nL, own, cc, ret) enc (pc + 1) lv (.int (im a (ix i)) :: st) im o) : X g (lev, nL, own, cc, ret) enc pc lv (.int i :: .ref (g.1 a) :: st) im (if inb i n = true then o else none) := by
  intro r hr p l e s m args below meth c H locs ls hB hH
  obtain ⟨hi, hr⟩ := x_grd hr
  exact va_iald (f := im a) hB.1 hB.2.1 hB.2.2.2.2.2.2.2.1 hH.2.1 a 0 (xWl_at hs (by simp)) rfl (inb_in hi) d (k r hr p l e s m args below meth c H locs ls hB hH)
theorem x_iast {a n : Nat} {i x : Int32} (hs : xSH a = (8, n)) (d : decode cc pc = .ok (.iastore, 1)) (k : X g (lev, nL, own, cc, ret) enc (pc + 1) lv st (up im a (ix i) x) o) : X g (lev, nL, own, cc, ret) enc pc lv (.int x :: .int i :: .ref (g.1 a) :: st) im (if inb i n = true then o else none) := by
  intro r hr p l e s m args below meth c H locs ls hB hH
  obtain ⟨hi, hr⟩ := x_grd hr
  refine va_iast (f := im a) hB.1 hB.2.1 hB.2.2.2.2.2.2.2.1 hH.2.1 (xWl_D im hB.2.2.2.2.2.2.2.2.1) hH.1 a 0 (xWl_at hs (by simp)) rfl (inb_in hi) d (fun H1 locs1 hP _ hS => ?_)
  have eW : (xWl g im).set a (g.1 a, .inl (g.2.2.1.1, n, .inl (upd (im a) (ix i) x))) = xWl g (up im a (ix i) x) := by
    rw [← xWl_set (im := im) (im' := up im a (ix i) x) (xSH_lt hs (by simp)) (fun b hb => xEnt_up_ne hb), hs]
    congr 2
    show _ = Sum.inl (g.2.2.1.1, n, Sum.inl ((up im a (ix i) x) a))
    have e2 : (up im a (ix i) x) a = upd (im a) (ix i) x := by funext j; simp [up, upd]
    rw [e2]
  rw [eW] at hP
  exact k r hr p l e s m args below meth c H1 locs1 ls hB ⟨hS, hP, hH.2.2⟩
theorem x_aldT {a : Nat} {i : Int32} (hs : xSH a = (9, 10)) (d : decode cc pc = .ok (.aaload, 1)) (k : inb i 10 = true → X g (lev, nL, own, cc, ret) enc (pc + 1) lv (.ref (g.1 (a + 2 + ix i)) :: st) im o) : X g (lev, nL, own, cc, ret) enc pc lv (.int i :: .ref (g.1 a) :: st) im (if inb i 10 = true then o else none) := by
  intro r hr p l e s m args below meth c H locs ls hB hH
  obtain ⟨hi, hr⟩ := x_grd hr
  exact va_aldq (f := fun i => some (g.1 (a + 2 + i))) hB.1 hB.2.1 hB.2.2.2.2.2.2.2.1 hH.2.1 a 1 (xWl_at hs (by simp)) rfl (inb_in hi) d (k hi r hr p l e s m args below meth c H locs ls hB hH)
theorem x_aldS {a : Nat} {i : Int32} (hs : xSH a = (10, 4)) (d : decode cc pc = .ok (.aaload, 1)) (k : inb i 4 = true → X g (lev, nL, own, cc, ret) enc (pc + 1) lv (.ref (g.1 (a + 2 + 2 * ix i)) :: st) im o) : X g (lev, nL, own, cc, ret) enc pc lv (.int i :: .ref (g.1 a) :: st) im (if inb i 4 = true then o else none) := by
  intro r hr p l e s m args below meth c H locs ls hB hH
  obtain ⟨hi, hr⟩ := x_grd hr
  exact va_aldq (f := fun i => some (g.1 (a + 2 + 2 * i))) hB.1 hB.2.1 hB.2.2.2.2.2.2.2.1 hH.2.1 a 2 (xWl_at hs (by simp)) rfl (inb_in hi) d (k hi r hr p l e s m args below meth c H locs ls hB hH)
theorem x_alen {a n : Nat} {v : Int32} (hs : xSH a = (8, n)) (hv : Int32.ofNat n = v) (d : decode cc pc = .ok (.arraylength, 1)) (k : X g (lev, nL, own, cc, ret) enc (pc + 1) lv (.int v :: st) im o) : X g (lev, nL, own, cc, ret) enc pc lv (.ref (g.1 a) :: st) im o := by
  intro r hr p l e s m args below meth c H locs ls hB hH
  exact va_alen (x := (n, .inl (im a))) hB.1 hB.2.1 hB.2.2.2.2.2.2.2.1 hH.2.1 a 0 (xWl_at hs (by simp)) rfl hv d (k r hr p l e s m args below meth c H locs ls hB hH)
/-! fields -/
theorem xFs {g : GX} {im : IM} {a c n k : Nat} (hk : k < n) : ((List.range n).map (xFld g im a c))[k]? = some (xFld g im a c k) := by
  rw [List.getElem?_map, List.getElem?_range hk]; rfl
theorem xEnt_o {g : GX} {im : IM} {a c n : Nat} (hc : c < 8) : xEnt g im a (c, n) = .inr (c, (List.range n).map (xFld g im a c)) := if_pos hc
theorem x_get {a c n : Nat} {C : String} {T : u_T} {index : Nat} {v : Value} (hs : xSH a = (c, n)) (hc : c < 8) (hcl : vwCl[c]? = some (C, T, n)) (hin : ∀ w ∈ u_ws C T n, w ∈ xT) (k : Nat) (hk : k < n) (hlink : Cond.fieldLink own index (T k).1 (T k).2.1 (T k).2.2.1 ∈ xT) (hv : xFld g im a c k = v) (d : decode cc pc = .ok (.getfield index, 3)) (kk : X g (lev, nL, own, cc, ret) enc (pc + 3) lv (v :: st) im o) : X g (lev, nL, own, cc, ret) enc pc lv (.ref (g.1 a) :: st) im o := by
  intro r hr p l e s m args below meth c H locs ls hB hH
  exact va_get (Ts := xT) hB.1 hB.2.1 (fun q hq => xT_use hB.2.2.2.2.2.2 hq) hin hB.2.2.2.2.2.1 hB.2.2.2.2.2.2.2.1 hH.2.1 a ((xWl_at hs (by simp; omega)).trans (by rw [xEnt_o hc])) hcl k hk (xT_use hB.2.2.2.2.2.2 hlink) (fun _ h => h) ((xFs hk).trans (by rw [hv])) d (kk r hr p l e s m args below meth c H locs ls hB hH)
theorem x_put {a ci n : Nat} {C : String} {T : u_T} {index : Nat} {x : Int32} {ty : FieldType} (ty0 : Nat → FieldType) (hty : ∀ k, k < n → parseFieldDescriptor (T k).2.2.1 = some (ty0 k)) (hnm : ∀ a, a < n → ∀ b, b < n → a ≠ b → (T a).2.1 ≠ (T b).2.1) (hs : xSH a = (ci, n)) (hc : ci < 8) (hcl : vwCl[ci]? = some (C, T, n)) (hin : ∀ w ∈ u_ws C T n, w ∈ xT) (k : Nat) (hk : k < n) (h0 : xOFF ci k = 0) (hlink : Cond.fieldLink own index (T k).1 (T k).2.1 (T k).2.2.1 ∈ xT) (hfin : (T k).2.2.2 = false) (hd : parseFieldDescriptor (T k).2.2.1 = some ty) (hnn : narrow ty (.int x) = .int x) (hfit : fits ty (.int x) = true) (d : decode cc pc = .ok (.putfield index, 3)) (kk : X g (lev, nL, own, cc, ret) enc (pc + 3) lv st (up im a k x) o) : X g (lev, nL, own, cc, ret) enc pc lv (.int x :: .ref (g.1 a) :: st) im o := by
  intro r hr p l e s m args below meth c H locs ls hB hH
  refine va_put (Ts := xT) (fs := (List.range n).map (xFld g im a ci)) hB.1 hB.2.1 (fun q hq => xT_use hB.2.2.2.2.2.2 hq) hin ty0 hty hnm hB.2.2.2.2.2.1 hB.2.2.2.2.2.2.2.1 hH.2.1 (xWl_D im hB.2.2.2.2.2.2.2.2.1) hH.1 a ((xWl_at hs (by simp; omega)).trans (by rw [xEnt_o hc])) hcl k hk (xT_use hB.2.2.2.2.2.2 hlink) (fun _ h => h) hfin hd hnn hfit (by simp; exact hk) d (fun H1 locs1 hP _ hS => ?_)
  have eW : (xWl g im).set a (g.1 a, .inr (ci, ((List.range n).map (xFld g im a ci)).set k (.int x))) = xWl g (up im a k x) := by
    rw [← xWl_set (im := im) (im' := up im a k x) (xSH_lt hs (by simp; omega)) (fun b hb => xEnt_up_ne hb), hs, xEnt_o hc]
    congr 4
    apply List.ext_getElem?
    intro j
    rw [List.getElem?_set]
    by_cases hj : j < n
    · rw [xFs hj, xFs hj]
      by_cases h : k = j
      · subst h
        simp [hk, xFld, h0, up]
      · rw [if_neg h]
        have h2 : ¬ j = k := fun e => h e.symm
        simp [xFld, up, h2]
    · rw [List.getElem?_eq_none (by simp; omega), List.getElem?_eq_none (by simp; omega)]
      by_cases h : k = j
      · subst h; omega
      · simp [h]
  rw [eW] at hP
  exact kk r hr p l e s m args below meth c H1 locs1 ls hB ⟨hS, hP, hH.2.2⟩
/-! ends -/
theorem x_iret {x : Int32} {r0 : ρ} (he : enc r0 = (some (.int x), im)) (hret : ret = some .int) (d : decode cc pc = .ok (.ireturn, 1)) : X g (lev, nL, own, cc, ret) enc pc lv [.int x] im (some r0) := by
  intro r hr p l e s m args below meth c H locs ls hB hH
  cases hr
  exact W.iret (v := x) hB.1 hB.2.1 (hB.2.2.2.1.trans hret) (fun t ht hW => ⟨by rw [he], by rw [he, ht]; exact hH.2.1, hH.1.F ht⟩) hH.1.2.2 d (hlocks := hB.2.2.2.2.1)
theorem x_lret {x : Int64} {r0 : ρ} (he : enc r0 = (some (.long x), im)) (hret : ret = some .long) (d : decode cc pc = .ok (.lreturn, 1)) : X g (lev, nL, own, cc, ret) enc pc lv [.long x] im (some r0) := by
  intro r hr p l e s m args below meth c H locs ls hB hH
  cases hr
  exact W.lret (v := x) hB.1 hB.2.1 (hB.2.2.2.1.trans hret) (fun t ht hW => ⟨by rw [he], by rw [he, ht]; exact hH.2.1, hH.1.F ht⟩) hH.1.2.2 d (hlocks := hB.2.2.2.2.1)
theorem x_vret {r0 : ρ} (he : enc r0 = (none, im)) (hret : ret = none) (d : decode cc pc = .ok (.return_, 1)) : X g (lev, nL, own, cc, ret) enc pc lv [] im (some r0) := by
  intro r hr p l e s m args below meth c H locs ls hB hH
  cases hr
  exact W.vret hB.1 hB.2.1 (hB.2.2.2.1.trans hret) (fun t ht hW => ⟨by rw [he], by rw [he, ht]; exact hH.2.1, hH.1.F ht⟩) hH.1.2.2 d (hlocks := hB.2.2.2.2.1)
theorem x_aret {x : Nat} {r0 : ρ} {rt : FieldType} (he : enc r0 = (some (.ref x), im)) (hret : ret = some rt) (hrt : (∃ n, rt = .object n) ∨ ∃ t, rt = .array t) (d : decode cc pc = .ok (.areturn, 1)) : X g (lev, nL, own, cc, ret) enc pc lv [.ref x] im (some r0) := by
  intro r hr p l e s m args below meth c H locs ls hB hH
  cases hr
  exact W.aret hB.1 hB.2.1 (hB.2.2.2.1.trans hret) hrt (Or.inr ⟨_, rfl⟩) (fun t ht hW => ⟨by rw [he], by rw [he, ht]; exact hH.2.1, hH.1.F ht⟩) hH.1.2.2 d (hlocks := hB.2.2.2.2.1)
theorem x_nret {x y : Int32} {r0 : ρ} {ty : FieldType} (he : enc r0 = (some (.int y), im)) (hret : ret = some ty) (hn : narrow ty (.int x) = .int y) (d : decode cc pc = .ok (.ireturn, 1)) : X g (lev, nL, own, cc, ret) enc pc lv [.int x] im (some r0) := by
  intro r hr p l e s m args below meth c H locs ls hB hH
  cases hr
  have hb := hB.2.1
  have hlocks := hB.2.2.2.2.1
  have hexec := hB.1
  have hr := hB.2.2.2.1.trans hret
  intro T hT XX
  obtain ⟨fs, hre, hrun, hended, hW, hframe⟩ := XX.leave (v := some (.int y)) (hlocks := hlocks) (fun h => by rw [hr] at h; cases h)
  have hmeth' : T.vm.method? m = some meth := XX.method'
  refine ⟨T.setFrames fs, ?_, .returned (some (.int y)), hrun, hended, ⟨by rw [he], by rw [he]; show va_P _ _ _ T.heap; rw [hT]; exact hH.2.1, hH.1.F hT⟩, locs, ⟨⟨_, rfl⟩, hW, hframe⟩, hH.1.2.2⟩
  have d' : decode c.code pc = .ok (.ireturn, 1) := by rw [hb]; exact d
  jvm_step XX.here [XX.here.top, hexec, d', hmeth', hr, hn]
  (try refine ⟨rfl, ?_⟩); (try refine ⟨rfl, ?_⟩)
  first | (intro acts; rw [hre _ acts rfl rfl rfl]) | rw [hre _ _ rfl rfl rfl]
  exact Steps.refl _
end XR
/-! a method's contract -/
def xPre (g : GX) (im : IM) (U : State) : Prop := xKK g U U.heap ∧ va_P g.2.1 vwCl (xWl g im) U.heap
def xMet (g : GX) (lev : Nat) (y : MethodName) (cc : ByteArray) (nL : Nat) (ret : Option FieldType) (av : List Value) (im : IM) (r : Option Value × IM) : Prop :=
  ∀ l : Launch, Met l y [Cond.code y cc nL ret] (xR lev) (va_Pc av (xPre g im)) (xQ g r) 0 0 (xAW g)
theorem x_met {g : GX} {lev nL : Nat} {y : MethodName} {cc : ByteArray} {ret : Option FieldType} {ρ : Type} {enc : ρ → Option Value × IM} {av : List Value} {lv : List (Nat × Value)} {im : IM} {o : Option ρ} (hy : plainName y.cls = true) (hn : (lg_sl av).length ≤ nL) (hlv : lv_args 0 av = lv)
    (h : X g (lev, nL, y.cls, cc, ret) enc 0 lv [] im o) (r : ρ) (hr : o = some r) : xMet g lev y cc nL ret av im (enc r) := by
  intro l
  subst hlv
  refine Met.ofW (cc := cc) (maxL := nL) (ret := ret) hy rfl ?_
  intro p e s m args below meth c s₁ B hml hv
  obtain ⟨rfl, hK, hP⟩ := hv
  have hl := lv_entry av (n := nL) hn
  rw [lg_entry_eq]
  exact h r hr p l e s m _ below meth c s.heap [] _ ⟨B.exec, B.bytes, hml, B.returns, B.notSynchronized, findClass_of_methodNamed B.named, hK⟩ ⟨va_S.rf, hP, hl⟩
theorem x_blind {g : GX} {av : List Value} {im : IM} : FrameBlind (va_Pc av (xPre g im)) := by
  intro a U f mk h
  exact ⟨h.1, xKK.same (u := U) (U := U.calling f mk a) (H := U.heap) rfl h.2.1, h.2.2⟩
section XC
variable {g : GX} {lev nL : Nat} {own : String} {cc : ByteArray} {ret : Option FieldType} {ρ : Type} {enc : ρ → Option Value × IM} {pc : Nat} {lv : List (Nat × Value)} {st : List Value} {im : IM} {o : Option ρ}
variable {lev' nL' : Nat} {y : MethodName} {cc' : ByteArray} {ret' : Option FieldType} {index n : Nat}
/-- behind a call -/
theorem x_after {p : Program} {l : Launch} {e : Env} {s : State} {m : MethodId} {args a : Array Value} {below : List Frame} {meth : Method} {c : Code} {H : Heap} {locs : List Loc} {ls : Array Slot} {st0 : List Value} {rv : Option Value × IM} {r : ρ} (hB : xB g (lev, nL, own, cc, ret) p s m meth c) (hH : xH g (lev, nL, own, cc, ret) s H locs im ls lv)
    (hR : va_Run p l e (xR lev) s m args below meth c H locs 0 0 0 0 (F0 m pc ls st0) st (xQ g rv a) (xAW g))
    (kk : X g (lev, nL, own, cc, ret) enc (pc + 3) lv (rv.1.toList ++ st) rv.2 o) (hr : o = some r) : W p l e (xR lev) s m args below meth c H locs 0 0 (MQ below (xQ g (enc r)) args s 0 0 (xAW g)) (F0 m pc ls st0) := by
  intro T hT XX
  obtain ⟨v, st₀, t, T', L, h0, X', hL, e1, e2, ⟨hv, hP, hz, hk⟩, stp⟩ := hR T hT XX
  cases hv
  rw [h0] at hz hk
  have hS := hH.1
  have hS' : va_S (xAW g) s.heap T'.heap (locs ++ L) := ⟨Nat.le_trans hS.1 (by rw [e1]; exact hz), fun q h1 h2 => by rw [e1, hk q (Nat.lt_of_lt_of_le h1 hS.1) h2]; exact hS.2.1 q h1 h2, fun q hq => by
      rcases List.mem_append.mp hq with h | h
      · exact hS.2.2 q h
      · exact hL q h⟩
  obtain ⟨t2, a1, b1⟩ := kk r hr p l e s m args below meth c T'.heap (locs ++ L) ls hB ⟨hS', by rw [e1]; exact hP, hH.2.2⟩ T' rfl X'
  exact ⟨t2, stp t2 a1, b1⟩
abbrev xD (y : MethodName) (n : Nat) : Prop := y.cls ≠ "java/lang/invoke/MethodHandle" ∧ y.cls ≠ "java/lang/invoke/VarHandle" ∧ (parseMethodDescriptor y.desc).map (fun d => d.parameters.length) = some n
theorem x_rooms (hlev : lev' < lev) (hnL : nL' ≤ 18) : (xR lev').frames + 1 ≤ (xR lev).frames ∧ 8 + (nL' + 11) + (xR lev').locals ≤ (xR lev).locals := by
  simp only [xR]
  omega
theorem x_wstat {s : State} {args : Array Value} {H : Heap} (hK : xKK g s H) (hcode : Cond.code y cc' nL' ret' ∈ xT) : ∀ w ∈ [Cond.code y cc' nL' ret'], ∀ (a' : Array Value) (U : State), s.WarmedH U.vm → w.before a' U = true := by
  intro w hw a' U hW
  rw [List.mem_singleton] at hw
  subst hw
  exact word_at hW (Or.inl rfl) (xT_use (args := args) hK hcode)
abbrev xLinkS (own : String) (index : Nat) (y : MethodName) : Prop := (Cond.methodLink own index y ∈ xT ∨ ∃ host, Cond.methodLinkNest own index y host ∈ xT) ∧ Cond.static y ∈ xT ∧ Cond.initialized y.cls ∈ xT
abbrev xLinkV (own : String) (index : Nat) (y : MethodName) : Prop := Cond.methodLink own index y ∈ xT ∧ Cond.instanceMethod y ∈ xT ∧ Cond.selects y.cls y y ∈ xT ∧ Cond.initialized y.cls ∈ xT
theorem x_callS {av : List Value} {stk : List Value} {rv : Option Value × IM} (hM : xMet g lev' y cc' nL' ret' av im rv) (hstk : stk = av.reverse ++ st) (hlev : lev' < lev) (hnL : nL' ≤ 18) (hl : xLinkS own index y) (hcode : Cond.code y cc' nL' ret' ∈ xT) (hd : xD y n) (hn : av.length = n) (hroom : (st.map fun v => v.category).sum ≤ 8) (d : decode cc pc = .ok (.invokestatic index, 3))
    (kk : X g (lev, nL, own, cc, ret) enc (pc + 3) lv (rv.1.toList ++ st) rv.2 o) : X g (lev, nL, own, cc, ret) enc pc lv stk im o := by
  intro r hr p l e s m args below meth c H locs ls hB hH
  subst hstk
  obtain ⟨hlink, hst, hini⟩ := hl
  have hK := hB.2.2.2.2.2.2
  have hlen : ∀ sig, parseMethodDescriptor y.desc = some sig → n = sig.parameters.length := fun sig h => by
    have h2 := hd.2.2
    rw [h] at h2
    exact (Option.some.inj h2).symm
  have hpre : PreS s H (va_Pc av (xPre g im)) av := ⟨x_blind, fun U hU hW => ⟨rfl, by rw [hU]; exact hK.warm hW hH.1.2.1, by rw [hU]; exact hH.2.1⟩⟩
  have hrm := x_rooms (nL' := nL') hlev hnL
  refine x_after (a := av.toArray) hB hH ?_ kk hr
  rcases hlink with hlink | ⟨host, hlink⟩
  · exact va_runS (Ts := []) ⟨hB.1, hB.2.1, hB.2.2.1, hB.2.2.2.2.2.1, fun _ h => absurd h List.not_mem_nil⟩ (hM l) ⟨⟨rfl, rfl, hrm.1, hrm.2, x_wstat (args := args) hK hcode, List.mem_singleton.mpr rfl, xT_use hK hcode, xT_use hK hini, ⟨hd.1, hd.2.1⟩, hlen, xT_use hK hlink⟩, xT_use hK hst⟩ hpre rfl hn hH.2.2.1 rfl (lv_room hroom) d ⟨Nat.le_refl _, Nat.le_refl _⟩
  · exact va_runSN (Ts := []) ⟨hB.1, hB.2.1, hB.2.2.1, hB.2.2.2.2.2.1, fun _ h => absurd h List.not_mem_nil⟩ (hM l) ⟨⟨⟨rfl, rfl, hrm.1, hrm.2, x_wstat (args := args) hK hcode, List.mem_singleton.mpr rfl⟩, xT_use hK hcode, xT_use hK hini, ⟨hd.1, hd.2.1⟩, hlen, xT_use hK hlink⟩, xT_use hK hst, trivial⟩ hpre rfl hn hH.2.2.1 rfl (lv_room hroom) d ⟨Nat.le_refl _, Nat.le_refl _⟩
theorem x_recv {a c n : Nat} {C : String} {T : u_T} {s : State} {H : Heap} (hK : va_K g.2.1 vwCl (xTys g) s) (hP : va_P g.2.1 vwCl (xWl g im) H) (hs : xSH a = (c, n)) (hc : c < 8) (hcl : vwCl[c]? = some (C, T, n)) : ∃ cell : Cell, H[g.1 a]? = some cell ∧ cell.vm.isStatics = false ∧ s.vm.findClass C = some cell.cls :=
  va_recv hK hP hcl ((xWl_at hs (by simp; omega)).trans (by rw [xEnt_o hc]))
theorem x_callV {a c nf : Nat} {T : u_T} {av : List Value} {stk : List Value} {rv : Option Value × IM} (hM : xMet g lev' y cc' nL' ret' (.ref (g.1 a) :: av) im rv) (hs : xSH a = (c, nf)) (hc : c < 8) (hcl : vwCl[c]? = some (y.cls, T, nf)) (hstk : stk = av.reverse ++ .ref (g.1 a) :: st) (hlev : lev' < lev) (hnL : nL' ≤ 18) (hl : xLinkV own index y) (hcode : Cond.code y cc' nL' ret' ∈ xT) (hd : xD y n) (hn : av.length = n) (hroom : (st.map fun v => v.category).sum ≤ 8) (d : decode cc pc = .ok (.invokevirtual index, 3))
    (kk : X g (lev, nL, own, cc, ret) enc (pc + 3) lv (rv.1.toList ++ st) rv.2 o) : X g (lev, nL, own, cc, ret) enc pc lv stk im o := by
  intro r hr p l e s m args below meth c H locs ls hB hH
  subst hstk
  obtain ⟨hlink, hin, hse, hini⟩ := hl
  have hK := hB.2.2.2.2.2.2
  have hlen : ∀ sig, parseMethodDescriptor y.desc = some sig → n = sig.parameters.length := fun sig h => by
    have h2 := hd.2.2
    rw [h] at h2
    exact (Option.some.inj h2).symm
  have hpre : PreV s H y.cls (g.1 a) (va_Pc (.ref (g.1 a) :: av) (xPre g im)) av := ⟨x_blind, x_recv hK.2.1 hH.2.1 hs hc hcl, fun U hU hW => ⟨rfl, by rw [hU]; exact hK.warm hW hH.1.2.1, by rw [hU]; exact hH.2.1⟩⟩
  have hrm := x_rooms (nL' := nL') hlev hnL
  refine x_after (a := (Value.ref (g.1 a) :: av).toArray) hB hH ?_ kk hr
  exact va_runV (Ts := []) ⟨hB.1, hB.2.1, hB.2.2.1, hB.2.2.2.2.2.1, fun _ h => absurd h List.not_mem_nil⟩ (hM l) ⟨⟨rfl, rfl, hrm.1, hrm.2, x_wstat (args := args) hK hcode, List.mem_singleton.mpr rfl, xT_use hK hcode, xT_use hK hini, ⟨hd.1, hd.2.1⟩, hlen, xT_use hK hlink⟩, xT_use hK hin, xT_use hK hse⟩ hpre rfl hn hH.2.2.1 rfl (lv_room hroom) d ⟨Nat.le_refl _, Nat.le_refl _⟩
theorem x_bind {ρ' : Type} {o' : Option ρ'} {k : ρ' → Option ρ} (h : ∀ r', o' = some r' → X g (lev, nL, own, cc, ret) enc pc lv st im (k r')) : X g (lev, nL, own, cc, ret) enc pc lv st im (o'.bind k) := by
  cases o' with
  | none => exact x_none
  | some r' => exact h r' rfl
end XC

section XN
variable {g : GX} {lev nL : Nat} {own : String} {cc : ByteArray} {ret : Option FieldType} {ρ : Type} {enc : ρ → Option Value × IM} {pc : Nat} {lv : List (Nat × Value)} {st : List Value} {im : IM} {o : Option ρ} {index : Nat}
abbrev xLinkM (own : String) (index : Nat) (y : MethodName) (cc : ByteArray) (n : Nat) : Prop := Cond.methodLink own index y ∈ xT ∧ Cond.static y ∈ xT ∧ Cond.initialized "java/lang/Math" ∈ xT ∧ Cond.code y cc n (some .int) ∈ xT
theorem x_lev (h : 0 < lev) (hroom : (st.map fun v => v.category).sum ≤ 8) : 1 ≤ (xR lev).frames ∧ (st.map fun v => v.category).sum + 18 ≤ (xR lev).locals := by
  simp only [xR]
  omega

theorem x_mmax {x y : Int32} (hl : xLinkM own index Lib.Math.max.name Lib.Math.max.code 2) (hlev : 0 < lev) (hroom : (st.map fun v => v.category).sum ≤ 8) (d : decode cc pc = .ok (.invokestatic index, 3)) (k : X g (lev, nL, own, cc, ret) enc (pc + 3) lv (.int (jmax x y) :: st) im o) : X g (lev, nL, own, cc, ret) enc pc lv (.int y :: .int x :: st) im o := by
  intro r hr p l e s m args below meth c H locs ls hB hH
  have hK := hB.2.2.2.2.2.2
  have hrm := x_lev hlev hroom
  exact va_mmax hB.1 hB.2.1 (hB.2.2.1.trans hH.2.2.1.symm) hB.2.2.2.2.2.1 (xT_use hK hl.1) (xT_use hK hl.2.1) (xT_use hK hl.2.2.1) (xT_use hK hl.2.2.2) hrm.1 (by have := hrm.2; show _ + 13 ≤ (xR lev).locals; omega) (Nat.le_refl _) (Nat.le_refl _) d (k r hr p l e s m args below meth c H locs ls hB hH)
theorem x_mmin {x y : Int32} (hl : xLinkM own index Lib.Math.min.name Lib.Math.min.code 2) (hlev : 0 < lev) (hroom : (st.map fun v => v.category).sum ≤ 8) (d : decode cc pc = .ok (.invokestatic index, 3)) (k : X g (lev, nL, own, cc, ret) enc (pc + 3) lv (.int (jmin x y) :: st) im o) : X g (lev, nL, own, cc, ret) enc pc lv (.int y :: .int x :: st) im o := by
  intro r hr p l e s m args below meth c H locs ls hB hH
  have hK := hB.2.2.2.2.2.2
  have hrm := x_lev hlev hroom
  exact va_mmin hB.1 hB.2.1 (hB.2.2.1.trans hH.2.2.1.symm) hB.2.2.2.2.2.1 (xT_use hK hl.1) (xT_use hK hl.2.1) (xT_use hK hl.2.2.1) (xT_use hK hl.2.2.2) hrm.1 (by have := hrm.2; show _ + 13 ≤ (xR lev).locals; omega) (Nat.le_refl _) (Nat.le_refl _) d (k r hr p l e s m args below meth c H locs ls hB hH)
theorem x_mabs {x : Int32} (hl : xLinkM own index Lib.Math.abs.name Lib.Math.abs.code 1) (hlev : 0 < lev) (hroom : (st.map fun v => v.category).sum ≤ 8) (d : decode cc pc = .ok (.invokestatic index, 3)) (k : X g (lev, nL, own, cc, ret) enc (pc + 3) lv (.int (jabs x) :: st) im o) : X g (lev, nL, own, cc, ret) enc pc lv (.int x :: st) im o := by
  intro r hr p l e s m args below meth c H locs ls hB hH
  have hK := hB.2.2.2.2.2.2
  have hrm := x_lev hlev hroom
  exact va_mabs hB.1 hB.2.1 (hB.2.2.1.trans hH.2.2.1.symm) hB.2.2.2.2.2.1 (xT_use hK hl.1) (xT_use hK hl.2.1) (xT_use hK hl.2.2.1) (xT_use hK hl.2.2.2) hrm.1 (by have := hrm.2; show _ + 13 ≤ (xR lev).locals; omega) (Nat.le_refl _) (Nat.le_refl _) d (k r hr p l e s m args below meth c H locs ls hB hH)
def cpk (sp dp n : Int32) (na nb : Nat) : Bool := !(decide (sp < 0)) && !(decide (dp < 0)) && !(decide (n < 0)) && decide (sp.toNatClampNeg + n.toNatClampNeg ≤ na) && decide (dp.toNatClampNeg + n.toNatClampNeg ≤ nb)
abbrev xLinkC (own : String) (index : Nat) : Prop := Cond.methodLink own index arraycopyName ∈ xT ∧ Cond.native arraycopyName ∈ xT ∧ Cond.static arraycopyName ∈ xT ∧ Cond.initialized "java/lang/System" ∈ xT
theorem x_copy {a b na nb : Nat} {sp dp n : Int32} (ha : xSH a = (8, na)) (hb : xSH b = (8, nb)) (hl : xLinkC own index) (hlev : 0 < lev) (hroom : (st.map fun v => v.category).sum ≤ 8) (d : decode cc pc = .ok (.invokestatic index, 3)) (k : X g (lev, nL, own, cc, ret) enc (pc + 3) lv st (upA im b (va_cpy (im a) (im b) (ix sp) (ix dp) (ix n))) o) : X g (lev, nL, own, cc, ret) enc pc lv (.int n :: .int dp :: .ref (g.1 b) :: .int sp :: .ref (g.1 a) :: st) im (if cpk sp dp n na nb = true then o else none) := by
  intro r hr p l e s m args below meth c H locs ls hB hH
  obtain ⟨hi, hr⟩ := x_grd hr
  simp only [cpk, Bool.and_eq_true, Bool.not_eq_true', decide_eq_false_iff_not, decide_eq_true_eq] at hi
  obtain ⟨⟨⟨⟨h1, h2⟩, h3⟩, h4⟩, h5⟩ := hi
  have hK := hB.2.2.2.2.2.2
  have hrm := x_lev hlev hroom
  refine va_copyi (f := im a) (g := im b) hB.1 hB.2.1 (hB.2.2.1.trans hH.2.2.1.symm) hB.2.2.2.2.2.1 (xT_use hK hl.1) (xT_use hK hl.2.1) (xT_use hK hl.2.2.1) (xT_use hK hl.2.2.2) hB.2.2.2.2.2.2.2.1 hH.2.1 (xWl_D im hB.2.2.2.2.2.2.2.2.1) hH.1 a b 0 0 (xWl_at ha (by simp)) (xWl_at hb (by simp)) rfl rfl rfl h1 h2 h3 h4 h5 (fun _ _ => rfl) hrm.1 hrm.2 d (fun H1 locs1 hP _ hS => ?_)
  have eW : (xWl g im).set b (g.1 b, .inl (g.2.2.1.1, nb, .inl (va_cpy (im a) (im b) (ix sp) (ix dp) (ix n)))) = xWl g (upA im b (va_cpy (im a) (im b) (ix sp) (ix dp) (ix n))) := by
    rw [← xWl_set (im := im) (im' := upA im b (va_cpy (im a) (im b) (ix sp) (ix dp) (ix n))) (xSH_lt hb (by simp)) (fun b hb => xEnt_upA_ne hb), hb]
    congr 2
    show _ = Sum.inl (g.2.2.1.1, nb, Sum.inl ((upA im b (va_cpy (im a) (im b) (ix sp) (ix dp) (ix n))) b))
    have e2 : (upA im b (va_cpy (im a) (im b) (ix sp) (ix dp) (ix n))) b = va_cpy (im a) (im b) (ix sp) (ix dp) (ix n) := by funext j; simp [upA]
    rw [e2]
  rw [eW] at hP
  exact k r hr p l e s m args below meth c H1 locs1 ls hB ⟨hS, hP, hH.2.2⟩
/-! the two static rows -/
theorem x_getPD {host : String} (hl : Cond.fieldLinkNest own index "RollTown" "PLAIN_DRAG" "[I" host ∈ xT) (d : decode cc pc = .ok (.getstatic index, 3)) (k : X g (lev, nL, own, cc, ret) enc (pc + 3) lv (.ref g.2.2.2.2.1.1 :: st) im o) : X g (lev, nL, own, cc, ret) enc pc lv st im o := by
  intro r hr p l e s m args below meth c H locs ls hB hH
  have hK := hB.2.2.2.2.2.2
  exact va_getsN hB.1 hB.2.1 hK.2.2.2.1 hH.1 hB.2.2.2.2.2.1 (xT_use hK hl) (fun _ h => h) d (k r hr p l e s m args below meth c H locs ls hB hH)
theorem x_getKA {host : String} (hl : Cond.fieldLinkNest own index "RollTown" "KIND_ABOVE" "[I" host ∈ xT) (d : decode cc pc = .ok (.getstatic index, 3)) (k : X g (lev, nL, own, cc, ret) enc (pc + 3) lv (.ref g.2.2.2.2.1.2 :: st) im o) : X g (lev, nL, own, cc, ret) enc pc lv st im o := by
  intro r hr p l e s m args below meth c H locs ls hB hH
  have hK := hB.2.2.2.2.2.2
  exact va_getsN hB.1 hB.2.1 hK.2.2.2.2.2.1 hH.1 hB.2.2.2.2.2.1 (xT_use hK hl) (fun _ h => h) d (k r hr p l e s m args below meth c H locs ls hB hH)
theorem x_aldPD {i : Int32} (d : decode cc pc = .ok (.iaload, 1)) (k : X g (lev, nL, own, cc, ret) enc (pc + 1) lv (.int (xPD (ix i)) :: st) im o) : X g (lev, nL, own, cc, ret) enc pc lv (.int i :: .ref g.2.2.2.2.1.1 :: st) im (if inb i 5 = true then o else none) := by
  intro r hr p l e s m args below meth c H locs ls hB hH
  obtain ⟨hi, hr⟩ := x_grd hr
  exact va_ti hB.1 hB.2.1 hB.2.2.2.2.2.2.2.2.2.2.1 hH.1 (inb_in hi) rfl d (k r hr p l e s m args below meth c H locs ls hB hH)
theorem x_aldKA {i : Int32} (d : decode cc pc = .ok (.iaload, 1)) (k : X g (lev, nL, own, cc, ret) enc (pc + 1) lv (.int (xKA (ix i)) :: st) im o) : X g (lev, nL, own, cc, ret) enc pc lv (.int i :: .ref g.2.2.2.2.1.2 :: st) im (if inb i 7 = true then o else none) := by
  intro r hr p l e s m args below meth c H locs ls hB hH
  obtain ⟨hi, hr⟩ := x_grd hr
  exact va_ti hB.1 hB.2.1 hB.2.2.2.2.2.2.2.2.2.2.2.2.1 hH.1 (inb_in hi) rfl d (k r hr p l e s m args below meth c H locs ls hB hH)
/-! calls by the kind of answer -/
variable {lev' nL' : Nat} {y : MethodName} {cc' : ByteArray} {ret' : Option FieldType} {n : Nat} {av stk : List Value}
theorem x_callSR {r : Int32} (hM : xMet g lev' y cc' nL' ret' av im (eR im r)) (hstk : stk = av.reverse ++ st) (hlev : lev' < lev) (hnL : nL' ≤ 18) (hl : xLinkS own index y) (hcode : Cond.code y cc' nL' ret' ∈ xT) (hd : xD y n) (hn : av.length = n) (hroom : (st.map fun v => v.category).sum ≤ 8) (d : decode cc pc = .ok (.invokestatic index, 3))
    (kk : X g (lev, nL, own, cc, ret) enc (pc + 3) lv (.int r :: st) im o) : X g (lev, nL, own, cc, ret) enc pc lv stk im o := x_callS hM hstk hlev hnL hl hcode hd hn hroom d kk
theorem x_callVR {a ci nf : Nat} {T : u_T} {r : Int32} (hM : xMet g lev' y cc' nL' ret' (.ref (g.1 a) :: av) im (eR im r)) (hs : xSH a = (ci, nf)) (hc : ci < 8) (hcl : vwCl[ci]? = some (y.cls, T, nf)) (hstk : stk = av.reverse ++ .ref (g.1 a) :: st) (hlev : lev' < lev) (hnL : nL' ≤ 18) (hl : xLinkV own index y) (hcode : Cond.code y cc' nL' ret' ∈ xT) (hd : xD y n) (hn : av.length = n) (hroom : (st.map fun v => v.category).sum ≤ 8) (d : decode cc pc = .ok (.invokevirtual index, 3))
    (kk : X g (lev, nL, own, cc, ret) enc (pc + 3) lv (.int r :: st) im o) : X g (lev, nL, own, cc, ret) enc pc lv stk im o := x_callV hM hs hc hcl hstk hlev hnL hl hcode hd hn hroom d kk
theorem x_callSI {r : Int32 × IM} (hM : xMet g lev' y cc' nL' ret' av im (eI r)) (hstk : stk = av.reverse ++ st) (hlev : lev' < lev) (hnL : nL' ≤ 18) (hl : xLinkS own index y) (hcode : Cond.code y cc' nL' ret' ∈ xT) (hd : xD y n) (hn : av.length = n) (hroom : (st.map fun v => v.category).sum ≤ 8) (d : decode cc pc = .ok (.invokestatic index, 3))
    (kk : X g (lev, nL, own, cc, ret) enc (pc + 3) lv (.int r.1 :: st) r.2 o) : X g (lev, nL, own, cc, ret) enc pc lv stk im o := x_callS hM hstk hlev hnL hl hcode hd hn hroom d kk
theorem x_callVI {a ci nf : Nat} {T : u_T} {r : Int32 × IM} (hM : xMet g lev' y cc' nL' ret' (.ref (g.1 a) :: av) im (eI r)) (hs : xSH a = (ci, nf)) (hc : ci < 8) (hcl : vwCl[ci]? = some (y.cls, T, nf)) (hstk : stk = av.reverse ++ .ref (g.1 a) :: st) (hlev : lev' < lev) (hnL : nL' ≤ 18) (hl : xLinkV own index y) (hcode : Cond.code y cc' nL' ret' ∈ xT) (hd : xD y n) (hn : av.length = n) (hroom : (st.map fun v => v.category).sum ≤ 8) (d : decode cc pc = .ok (.invokevirtual index, 3))
    (kk : X g (lev, nL, own, cc, ret) enc (pc + 3) lv (.int r.1 :: st) r.2 o) : X g (lev, nL, own, cc, ret) enc pc lv stk im o := x_callV hM hs hc hcl hstk hlev hnL hl hcode hd hn hroom d kk
theorem x_callSL {r : Int64} (hM : xMet g lev' y cc' nL' ret' av im (eL im r)) (hstk : stk = av.reverse ++ st) (hlev : lev' < lev) (hnL : nL' ≤ 18) (hl : xLinkS own index y) (hcode : Cond.code y cc' nL' ret' ∈ xT) (hd : xD y n) (hn : av.length = n) (hroom : (st.map fun v => v.category).sum ≤ 8) (d : decode cc pc = .ok (.invokestatic index, 3))
    (kk : X g (lev, nL, own, cc, ret) enc (pc + 3) lv (.long r :: st) im o) : X g (lev, nL, own, cc, ret) enc pc lv stk im o := x_callS hM hstk hlev hnL hl hcode hd hn hroom d kk
theorem x_callVL {a ci nf : Nat} {T : u_T} {r : Int64} (hM : xMet g lev' y cc' nL' ret' (.ref (g.1 a) :: av) im (eL im r)) (hs : xSH a = (ci, nf)) (hc : ci < 8) (hcl : vwCl[ci]? = some (y.cls, T, nf)) (hstk : stk = av.reverse ++ .ref (g.1 a) :: st) (hlev : lev' < lev) (hnL : nL' ≤ 18) (hl : xLinkV own index y) (hcode : Cond.code y cc' nL' ret' ∈ xT) (hd : xD y n) (hn : av.length = n) (hroom : (st.map fun v => v.category).sum ≤ 8) (d : decode cc pc = .ok (.invokevirtual index, 3))
    (kk : X g (lev, nL, own, cc, ret) enc (pc + 3) lv (.long r :: st) im o) : X g (lev, nL, own, cc, ret) enc pc lv stk im o := x_callV hM hs hc hcl hstk hlev hnL hl hcode hd hn hroom d kk
theorem x_callSV {r : IM} (hM : xMet g lev' y cc' nL' ret' av im (eV r)) (hstk : stk = av.reverse ++ st) (hlev : lev' < lev) (hnL : nL' ≤ 18) (hl : xLinkS own index y) (hcode : Cond.code y cc' nL' ret' ∈ xT) (hd : xD y n) (hn : av.length = n) (hroom : (st.map fun v => v.category).sum ≤ 8) (d : decode cc pc = .ok (.invokestatic index, 3))
    (kk : X g (lev, nL, own, cc, ret) enc (pc + 3) lv (st) r o) : X g (lev, nL, own, cc, ret) enc pc lv stk im o := x_callS hM hstk hlev hnL hl hcode hd hn hroom d kk
theorem x_callVV {a ci nf : Nat} {T : u_T} {r : IM} (hM : xMet g lev' y cc' nL' ret' (.ref (g.1 a) :: av) im (eV r)) (hs : xSH a = (ci, nf)) (hc : ci < 8) (hcl : vwCl[ci]? = some (y.cls, T, nf)) (hstk : stk = av.reverse ++ .ref (g.1 a) :: st) (hlev : lev' < lev) (hnL : nL' ≤ 18) (hl : xLinkV own index y) (hcode : Cond.code y cc' nL' ret' ∈ xT) (hd : xD y n) (hn : av.length = n) (hroom : (st.map fun v => v.category).sum ≤ 8) (d : decode cc pc = .ok (.invokevirtual index, 3))
    (kk : X g (lev, nL, own, cc, ret) enc (pc + 3) lv (st) r o) : X g (lev, nL, own, cc, ret) enc pc lv stk im o := x_callV hM hs hc hcl hstk hlev hnL hl hcode hd hn hroom d kk
theorem x_callSN {r : Unit} (hM : xMet g lev' y cc' nL' ret' av im (eN im r)) (hstk : stk = av.reverse ++ st) (hlev : lev' < lev) (hnL : nL' ≤ 18) (hl : xLinkS own index y) (hcode : Cond.code y cc' nL' ret' ∈ xT) (hd : xD y n) (hn : av.length = n) (hroom : (st.map fun v => v.category).sum ≤ 8) (d : decode cc pc = .ok (.invokestatic index, 3))
    (kk : X g (lev, nL, own, cc, ret) enc (pc + 3) lv (st) im o) : X g (lev, nL, own, cc, ret) enc pc lv stk im o := x_callS hM hstk hlev hnL hl hcode hd hn hroom d kk
theorem x_callVN {a ci nf : Nat} {T : u_T} {r : Unit} (hM : xMet g lev' y cc' nL' ret' (.ref (g.1 a) :: av) im (eN im r)) (hs : xSH a = (ci, nf)) (hc : ci < 8) (hcl : vwCl[ci]? = some (y.cls, T, nf)) (hstk : stk = av.reverse ++ .ref (g.1 a) :: st) (hlev : lev' < lev) (hnL : nL' ≤ 18) (hl : xLinkV own index y) (hcode : Cond.code y cc' nL' ret' ∈ xT) (hd : xD y n) (hn : av.length = n) (hroom : (st.map fun v => v.category).sum ≤ 8) (d : decode cc pc = .ok (.invokevirtual index, 3))
    (kk : X g (lev, nL, own, cc, ret) enc (pc + 3) lv (st) im o) : X g (lev, nL, own, cc, ret) enc pc lv stk im o := x_callV hM hs hc hcl hstk hlev hnL hl hcode hd hn hroom d kk
theorem x_callSA {r : Nat} (hM : xMet g lev' y cc' nL' ret' av im (eA g im r)) (hstk : stk = av.reverse ++ st) (hlev : lev' < lev) (hnL : nL' ≤ 18) (hl : xLinkS own index y) (hcode : Cond.code y cc' nL' ret' ∈ xT) (hd : xD y n) (hn : av.length = n) (hroom : (st.map fun v => v.category).sum ≤ 8) (d : decode cc pc = .ok (.invokestatic index, 3))
    (kk : X g (lev, nL, own, cc, ret) enc (pc + 3) lv (.ref (g.2.2.2.1.1 r) :: st) im o) : X g (lev, nL, own, cc, ret) enc pc lv stk im o := x_callS hM hstk hlev hnL hl hcode hd hn hroom d kk
theorem x_callVA {a ci nf : Nat} {T : u_T} {r : Nat} (hM : xMet g lev' y cc' nL' ret' (.ref (g.1 a) :: av) im (eA g im r)) (hs : xSH a = (ci, nf)) (hc : ci < 8) (hcl : vwCl[ci]? = some (y.cls, T, nf)) (hstk : stk = av.reverse ++ .ref (g.1 a) :: st) (hlev : lev' < lev) (hnL : nL' ≤ 18) (hl : xLinkV own index y) (hcode : Cond.code y cc' nL' ret' ∈ xT) (hd : xD y n) (hn : av.length = n) (hroom : (st.map fun v => v.category).sum ≤ 8) (d : decode cc pc = .ok (.invokevirtual index, 3))
    (kk : X g (lev, nL, own, cc, ret) enc (pc + 3) lv (.ref (g.2.2.2.1.1 r) :: st) im o) : X g (lev, nL, own, cc, ret) enc pc lv stk im o := x_callV hM hs hc hcl hstk hlev hnL hl hcode hd hn hroom d kk
end XN
section XS
variable {g : GX} {lev nL : Nat} {own : String} {cc : ByteArray} {ret : Option FieldType} {ρ : Type} {enc : ρ → Option Value × IM} {pc : Nat} {lv : List (Nat × Value)} {st : List Value} {im : IM} {o : Option ρ} {index : Nat}
theorem x_ldcS (i : Nat) (hi : i < 19) (d : decode cc pc = .ok (.ldc (xSTI.getD i 0), 2)) (k : X g (lev, nL, RX1, cc, ret) enc (pc + 2) lv (.ref (g.2.2.2.1.1 i) :: st) im o) : X g (lev, nL, RX1, cc, ret) enc pc lv st im o := by
  intro r hr p l e s m args below meth c H locs ls hB hH
  exact va_ldcS hB.1 hB.2.1 hB.2.2.2.2.2.1 (hB.2.2.2.2.2.2.2.2.2.2.2.2.2.2.2.2 i hi) d (k r hr p l e s m args below meth c H locs ls hB hH)
theorem x_gval {i : Nat} (hi : i < 19) (hl : Cond.fieldLink own index "java/lang/String" "value" "[B" ∈ xT) (d : decode cc pc = .ok (.getfield index, 3)) (k : X g (lev, nL, own, cc, ret) enc (pc + 3) lv (.ref (g.2.2.2.1.2 i) :: st) im o) : X g (lev, nL, own, cc, ret) enc pc lv (.ref (g.2.2.2.1.1 i) :: st) im o := by
  intro r hr p l e s m args below meth c H locs ls hB hH
  have hK := hB.2.2.2.2.2.2
  exact vk_getf hB.1 hB.2.1 (hK.2.2.2.2.2.2.2.2.2.1.1 i hi).2.2.1 hH.1 hB.2.2.2.2.2.1 (xT_use hK hl) (fun _ h => h) d (k r hr p l e s m args below meth c H locs ls hB hH)
theorem x_gcod {i : Nat} (hi : i < 19) (hl : Cond.fieldLink own index "java/lang/String" "coder" "B" ∈ xT) (d : decode cc pc = .ok (.getfield index, 3)) (k : X g (lev, nL, own, cc, ret) enc (pc + 3) lv (.int 0 :: st) im o) : X g (lev, nL, own, cc, ret) enc pc lv (.ref (g.2.2.2.1.1 i) :: st) im o := by
  intro r hr p l e s m args below meth c H locs ls hB hH
  have hK := hB.2.2.2.2.2.2
  exact vk_getf hB.1 hB.2.1 (hK.2.2.2.2.2.2.2.2.2.1.1 i hi).2.1 hH.1 hB.2.2.2.2.2.1 (xT_use hK hl) (fun _ h => h) d (k r hr p l e s m args below meth c H locs ls hB hH)
theorem x_blen {i : Nat} (hi : i < 19) (d : decode cc pc = .ok (.arraylength, 1)) (k : X g (lev, nL, own, cc, ret) enc (pc + 1) lv (.int (nI (xLEN.getD i 0)) :: st) im o) : X g (lev, nL, own, cc, ret) enc pc lv (.ref (g.2.2.2.1.2 i) :: st) im o := by
  intro r hr p l e s m args below meth c H locs ls hB hH
  have hK := hB.2.2.2.2.2.2
  exact va_tlen hB.1 hB.2.1 (hK.2.2.2.2.2.2.2.2.2.1.1 i hi).2.2.2 hH.1 rfl d (k r hr p l e s m args below meth c H locs ls hB hH)
theorem x_bald {i : Nat} {j : Int32} (hi : i < 19) (d : decode cc pc = .ok (.baload, 1)) (k : X g (lev, nL, own, cc, ret) enc (pc + 1) lv (.int ((xBYT.getD i []).getD (ix j) 0) :: st) im o) : X g (lev, nL, own, cc, ret) enc pc lv (.int j :: .ref (g.2.2.2.1.2 i) :: st) im (if inb j (xLEN.getD i 0) = true then o else none) := by
  intro r hr p l e s m args below meth c H locs ls hB hH
  obtain ⟨hj, hr⟩ := x_grd hr
  have hK := hB.2.2.2.2.2.2
  exact va_tb hB.1 hB.2.1 (hK.2.2.2.2.2.2.2.2.2.1.1 i hi).2.2.2 hH.1 (inb_in hj) rfl d (k r hr p l e s m args below meth c H locs ls hB hH)
theorem x_getCS (hl : Cond.fieldLink own index "java/lang/String" "COMPACT_STRINGS" "Z" ∈ xT) (d : decode cc pc = .ok (.getstatic index, 3)) (k : X g (lev, nL, own, cc, ret) enc (pc + 3) lv (.int 1 :: st) im o) : X g (lev, nL, own, cc, ret) enc pc lv st im o := by
  intro r hr p l e s m args below meth c H locs ls hB hH
  have hK := hB.2.2.2.2.2.2
  exact va_gets hB.1 hB.2.1 hK.2.2.2.2.2.2.2.1 hH.1 hB.2.2.2.2.2.1 (xT_use hK hl) (fun _ h => h) d (k r hr p l e s m args below meth c H locs ls hB hH)
theorem x_getFV (hl : Cond.fieldLink own index "jdk/internal/util/Preconditions" "SIOOBE_FORMATTER" "Ljava/util/function/BiFunction;" ∈ xT) (d : decode cc pc = .ok (.getstatic index, 3)) (k : X g (lev, nL, own, cc, ret) enc (pc + 3) lv (va_rf g.2.2.2.2.2 :: st) im o) : X g (lev, nL, own, cc, ret) enc pc lv st im o := by
  intro r hr p l e s m args below meth c H locs ls hB hH
  have hK := hB.2.2.2.2.2.2
  exact va_gets hB.1 hB.2.1 hK.2.2.2.2.2.2.2.2.1 hH.1 hB.2.2.2.2.2.1 (xT_use hK hl) (fun _ h => h) d (k r hr p l e s m args below meth c H locs ls hB hH)
theorem lg3 {a b : Int32} (o : Option Nat) : (lg_sl [.int a, .int b, va_rf o]).length ≤ 3 := by
  cases o <;> exact Nat.le_of_ble_eq_true rfl
variable {lev' nL' : Nat} {y : MethodName} {cc' : ByteArray} {ret' : Option FieldType} {n : Nat} {av stk : List Value}
theorem x_callT {i : Nat} {rv : Option Value × IM} (hM : xMet g lev' y cc' nL' ret' (.ref (g.2.2.2.1.1 i) :: av) im rv) (hi : i < 19) (hy : y.cls = "java/lang/String") (hstk : stk = av.reverse ++ .ref (g.2.2.2.1.1 i) :: st) (hlev : lev' < lev) (hnL : nL' ≤ 18) (hl : xLinkV own index y) (hcode : Cond.code y cc' nL' ret' ∈ xT) (hd : xD y n) (hn : av.length = n) (hroom : (st.map fun v => v.category).sum ≤ 8) (d : decode cc pc = .ok (.invokevirtual index, 3))
    (kk : X g (lev, nL, own, cc, ret) enc (pc + 3) lv (rv.1.toList ++ st) rv.2 o) : X g (lev, nL, own, cc, ret) enc pc lv stk im o := by
  intro r hr p l e s m args below meth c H locs ls hB hH
  subst hstk
  obtain ⟨hlink, hin, hse, hini⟩ := hl
  have hK := hB.2.2.2.2.2.2
  have hlen : ∀ sig, parseMethodDescriptor y.desc = some sig → n = sig.parameters.length := fun sig h => by
    have h2 := hd.2.2
    rw [h] at h2
    exact (Option.some.inj h2).symm
  have hpre : PreV s H y.cls (g.2.2.2.1.1 i) (va_Pc (.ref (g.2.2.2.1.1 i) :: av) (xPre g im)) av := ⟨x_blind, by rw [hy]; exact vk_recv hK.2.2.2.2.2.2.2.2.2.1 hi hH.1, fun U hU hW => ⟨rfl, by rw [hU]; exact hK.warm hW hH.1.2.1, by rw [hU]; exact hH.2.1⟩⟩
  have hrm := x_rooms (nL' := nL') hlev hnL
  refine x_after (a := (Value.ref (g.2.2.2.1.1 i) :: av).toArray) hB hH ?_ kk hr
  exact va_runV (Ts := []) ⟨hB.1, hB.2.1, hB.2.2.1, hB.2.2.2.2.2.1, fun _ h => absurd h List.not_mem_nil⟩ (hM l) ⟨⟨rfl, rfl, hrm.1, hrm.2, x_wstat (args := args) hK hcode, List.mem_singleton.mpr rfl, xT_use hK hcode, xT_use hK hini, ⟨hd.1, hd.2.1⟩, hlen, xT_use hK hlink⟩, xT_use hK hin, xT_use hK hse⟩ hpre rfl hn hH.2.2.1 rfl (lv_room hroom) d ⟨Nat.le_refl _, Nat.le_refl _⟩
theorem x_callTR {i : Nat} {r : Int32} (hM : xMet g lev' y cc' nL' ret' (.ref (g.2.2.2.1.1 i) :: av) im (eR im r)) (hi : i < 19) (hy : y.cls = "java/lang/String") (hstk : stk = av.reverse ++ .ref (g.2.2.2.1.1 i) :: st) (hlev : lev' < lev) (hnL : nL' ≤ 18) (hl : xLinkV own index y) (hcode : Cond.code y cc' nL' ret' ∈ xT) (hd : xD y n) (hn : av.length = n) (hroom : (st.map fun v => v.category).sum ≤ 8) (d : decode cc pc = .ok (.invokevirtual index, 3))
    (kk : X g (lev, nL, own, cc, ret) enc (pc + 3) lv (.int r :: st) im o) : X g (lev, nL, own, cc, ret) enc pc lv stk im o := x_callT hM hi hy hstk hlev hnL hl hcode hd hn hroom d kk
theorem x_callTI {i : Nat} {r : Int32 × IM} (hM : xMet g lev' y cc' nL' ret' (.ref (g.2.2.2.1.1 i) :: av) im (eI r)) (hi : i < 19) (hy : y.cls = "java/lang/String") (hstk : stk = av.reverse ++ .ref (g.2.2.2.1.1 i) :: st) (hlev : lev' < lev) (hnL : nL' ≤ 18) (hl : xLinkV own index y) (hcode : Cond.code y cc' nL' ret' ∈ xT) (hd : xD y n) (hn : av.length = n) (hroom : (st.map fun v => v.category).sum ≤ 8) (d : decode cc pc = .ok (.invokevirtual index, 3))
    (kk : X g (lev, nL, own, cc, ret) enc (pc + 3) lv (.int r.1 :: st) r.2 o) : X g (lev, nL, own, cc, ret) enc pc lv stk im o := x_callT hM hi hy hstk hlev hnL hl hcode hd hn hroom d kk
theorem x_callTL {i : Nat} {r : Int64} (hM : xMet g lev' y cc' nL' ret' (.ref (g.2.2.2.1.1 i) :: av) im (eL im r)) (hi : i < 19) (hy : y.cls = "java/lang/String") (hstk : stk = av.reverse ++ .ref (g.2.2.2.1.1 i) :: st) (hlev : lev' < lev) (hnL : nL' ≤ 18) (hl : xLinkV own index y) (hcode : Cond.code y cc' nL' ret' ∈ xT) (hd : xD y n) (hn : av.length = n) (hroom : (st.map fun v => v.category).sum ≤ 8) (d : decode cc pc = .ok (.invokevirtual index, 3))
    (kk : X g (lev, nL, own, cc, ret) enc (pc + 3) lv (.long r :: st) im o) : X g (lev, nL, own, cc, ret) enc pc lv stk im o := x_callT hM hi hy hstk hlev hnL hl hcode hd hn hroom d kk
theorem x_callTV {i : Nat} {r : IM} (hM : xMet g lev' y cc' nL' ret' (.ref (g.2.2.2.1.1 i) :: av) im (eV r)) (hi : i < 19) (hy : y.cls = "java/lang/String") (hstk : stk = av.reverse ++ .ref (g.2.2.2.1.1 i) :: st) (hlev : lev' < lev) (hnL : nL' ≤ 18) (hl : xLinkV own index y) (hcode : Cond.code y cc' nL' ret' ∈ xT) (hd : xD y n) (hn : av.length = n) (hroom : (st.map fun v => v.category).sum ≤ 8) (d : decode cc pc = .ok (.invokevirtual index, 3))
    (kk : X g (lev, nL, own, cc, ret) enc (pc + 3) lv (st) r o) : X g (lev, nL, own, cc, ret) enc pc lv stk im o := x_callT hM hi hy hstk hlev hnL hl hcode hd hn hroom d kk
theorem x_callTN {i : Nat} {r : Unit} (hM : xMet g lev' y cc' nL' ret' (.ref (g.2.2.2.1.1 i) :: av) im (eN im r)) (hi : i < 19) (hy : y.cls = "java/lang/String") (hstk : stk = av.reverse ++ .ref (g.2.2.2.1.1 i) :: st) (hlev : lev' < lev) (hnL : nL' ≤ 18) (hl : xLinkV own index y) (hcode : Cond.code y cc' nL' ret' ∈ xT) (hd : xD y n) (hn : av.length = n) (hroom : (st.map fun v => v.category).sum ≤ 8) (d : decode cc pc = .ok (.invokevirtual index, 3))
    (kk : X g (lev, nL, own, cc, ret) enc (pc + 3) lv (st) im o) : X g (lev, nL, own, cc, ret) enc pc lv stk im o := x_callT hM hi hy hstk hlev hnL hl hcode hd hn hroom d kk
theorem x_callTA {i : Nat} {r : Nat} (hM : xMet g lev' y cc' nL' ret' (.ref (g.2.2.2.1.1 i) :: av) im (eA g im r)) (hi : i < 19) (hy : y.cls = "java/lang/String") (hstk : stk = av.reverse ++ .ref (g.2.2.2.1.1 i) :: st) (hlev : lev' < lev) (hnL : nL' ≤ 18) (hl : xLinkV own index y) (hcode : Cond.code y cc' nL' ret' ∈ xT) (hd : xD y n) (hn : av.length = n) (hroom : (st.map fun v => v.category).sum ≤ 8) (d : decode cc pc = .ok (.invokevirtual index, 3))
    (kk : X g (lev, nL, own, cc, ret) enc (pc + 3) lv (.ref (g.2.2.2.1.1 r) :: st) im o) : X g (lev, nL, own, cc, ret) enc pc lv stk im o := x_callT hM hi hy hstk hlev hnL hl hcode hd hn hroom d kk
end XS
