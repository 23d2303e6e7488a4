/-! constructors: the world of the first n cells -/
abbrev RM : Type := Nat → Nat → Option Nat
abbrev yU : Type := Nat × IM × RM
def upR (rm : RM) (a : Nat) (f : Nat → Option Nat) : RM := fun b j => if b = a then f j else rm b j
def upr (rm : RM) (a i : Nat) (x : Option Nat) : RM := fun b j => if b = a then (if j = i then x else rm b j) else rm b j
def yFld (g : GX) (im : IM) (rm : RM) (a c k : Nat) : Value := if xOFF c k = 0 then .int (im a k) else va_rf ((rm a k).map g.1)
def yEnt (g : GX) (im : IM) (rm : RM) (a : Nat) (q : Nat × Nat) : va_E :=
  if q.1 < 8 then .inr (q.1, (List.range q.2).map (yFld g im rm a q.1))
  else if q.1 = 8 then .inl (g.2.2.1.1, q.2, .inl (im a))
  else if q.1 = 9 then .inl (g.2.2.1.2.1, q.2, .inr (.inr (.inr (.inr (fun i => (rm a i).map g.1)))))
  else .inl (g.2.2.1.2.2, q.2, .inr (.inr (.inr (.inr (fun i => (rm a i).map g.1)))))
def yWl (g : GX) (u : yU) : va_W := (List.range u.1).map (fun a => (g.1 a, yEnt g u.2.1 u.2.2 a (xSH a)))
def yA (g : GX) : Nat → Prop := fun q => g.1 0 ≤ q
def yE (g : GX) (s : State) : Prop := va_AO "RollTown$Thing" s ∧ va_AO "RollTown$Sheet" s ∧ (∀ a, g.1 a = g.1 0 + a) ∧ ∃ A, (Cond.arrayClass .int).before A s = true
theorem yE.warm {g : GX} {s U : State} (hW : s.WarmedH U.vm) (h : yE g s) : yE g U := by
  obtain ⟨h1, h2, h3, A, h4⟩ := h
  exact ⟨va_AO.moved hW.alike h1, va_AO.moved hW.alike h2, h3, #[], word_at hW (Or.inr ⟨_, rfl⟩) h4⟩
theorem yE.arr {g : GX} {s : State} (h : yE g s) {args : Array Value} : (Cond.arrayClass .int).before args s = true := by
  obtain ⟨h1, h2, h3, A, h4⟩ := h
  exact word_at (State.WarmedH.refl s) (Or.inr ⟨_, rfl⟩) h4
theorem yWl_at {g : GX} {u : yU} {a : Nat} {q : Nat × Nat} (ha : a < u.1) (h : xSH a = q) : (yWl g u)[a]? = some (g.1 a, yEnt g u.2.1 u.2.2 a q) := by
  unfold yWl
  rw [List.getElem?_map, List.getElem?_range ha]
  simp [h]
theorem yWl_D {g : GX} (u : yU) (h : ∀ a, g.1 a = g.1 0 + a) : va_D (yA g) (yWl g u) := by
  have key : ∀ (k : Nat) (q : Nat × va_E), (yWl g u)[k]? = some q → k < u.1 ∧ q.1 = g.1 k := by
    intro k q hk
    unfold yWl at hk
    rw [List.getElem?_map] at hk
    by_cases hb : k < u.1
    · rw [List.getElem?_range hb] at hk
      cases hk
      exact ⟨hb, rfl⟩
    · rw [List.getElem?_eq_none (by simp; omega)] at hk
      cases hk
  refine ⟨fun i j p q hi hj e => ?_, fun k q hk => ?_⟩
  · obtain ⟨a1, a2⟩ := key i p hi
    obtain ⟨b1, b2⟩ := key j q hj
    rw [a2, b2, h i, h j] at e
    omega
  · obtain ⟨a1, a2⟩ := key k q hk
    show g.1 0 ≤ q.1
    rw [a2, h k]
    omega
theorem yWl_set {g : GX} {n : Nat} {im im' : IM} {rm rm' : RM} {a : Nat} (ha : a < n) (hne : ∀ b, b ≠ a → yEnt g im' rm' b (xSH b) = yEnt g im rm b (xSH b)) : (yWl g (n, im, rm)).set a (g.1 a, yEnt g im' rm' a (xSH a)) = yWl g (n, im', rm') := by
  apply List.ext_getElem?
  intro b
  unfold yWl
  rw [List.getElem?_set, List.getElem?_map]
  by_cases hb : b < n
  · rw [List.getElem?_map, List.getElem?_range hb]
    by_cases h : a = b
    · subst h
      simp [ha]
    · simp [h, hne b (fun e => h e.symm)]
  · rw [List.getElem?_map, List.getElem?_eq_none (by simp; omega)]
    have h : ¬ a = b := by omega
    simp [h]
theorem yEnt_cg {g : GX} {im im' : IM} {rm rm' : RM} {b : Nat} {q : Nat × Nat} (h1 : im' b = im b) (h2 : rm' b = rm b) : yEnt g im' rm' b q = yEnt g im rm b q := by
  have e2 : ∀ c, yFld g im' rm' b c = yFld g im rm b c := by intro c; funext k; simp [yFld, h1, h2]
  unfold yEnt
  rw [h1, h2, e2]
theorem yWl_push {g : GX} {n : Nat} {im : IM} {rm : RM} {f : Nat → Int32} {h : Nat → Option Nat} : yWl g (n + 1, upA im n f, upR rm n h) = yWl g (n, im, rm) ++ [(g.1 n, yEnt g (upA im n f) (upR rm n h) n (xSH n))] := by
  unfold yWl
  show List.map _ (List.range (n + 1)) = _
  rw [List.range_succ, List.map_append]
  congr 1
  apply List.map_congr_left
  intro a ha
  have hn : a ≠ n := by
    have : a < n := List.mem_range.mp ha
    omega
  show (g.1 a, yEnt g (upA im n f) (upR rm n h) a (xSH a)) = (g.1 a, yEnt g im rm a (xSH a))
  rw [yEnt_cg (im := im) (rm := rm)]
  · funext j; simp [upA, hn]
  · funext j; simp [upR, hn]
def yR (lev mc ms : Nat) : Room := { frames := lev, cells := mc, slots := ms, locals := 37 * lev }
def yQ (g : GX) (u : yU) : Array Value → State → Outcome → State → Prop := fun _ st oc t => oc = .returned none ∧ va_P g.2.1 vwCl (yWl g u) t.heap ∧ t.heap.size = g.1 u.1 ∧ va_F (yA g) st t
def yH (g : GX) (M : xM) (s : State) (H : Heap) (locs : List Loc) (u : yU) (ls : Array Slot) (lv : List (Nat × Value)) : Prop := va_S (yA g) s.heap H locs ∧ va_P g.2.1 vwCl (yWl g u) H ∧ H.size = g.1 u.1 ∧ lv_has ls M.2.1 lv
def Y (g : GX) (M : xM) (mc ms : Nat) (fin : yU) (pc : Nat) (lv : List (Nat × Value)) (st : List Value) (cells slots : Nat) (u : yU) : Prop :=
  ∀ (p : Program) (l : Launch) (e : Env) (s : State) (m : MethodId) (args : Array Value) (below : List Frame) (meth : Method) (c : Code) (H : Heap) (locs : List Loc) (ls : Array Slot), xB g M p s m meth c → yE g s → meth.name = "<init>" → (∃ n, n ≤ 94 ∧ s.heap.size = g.1 n) → yH g M s H locs u ls lv →
    W p l e (yR M.1 mc ms) s m args below meth c H locs cells slots (MQ below (yQ g fin) args s mc ms (yA g)) (F0 m pc ls st)
section YZ
variable {p : Program} {l : Launch} {e : Env} {R : Room} {s : State} {m : MethodId} {args : Array Value} {below : List Frame} {meth : Method} {c : Code} {H : Heap} {locs : List Loc} {cells slots : Nat} {Q : State → Prop}
variable {cc : ByteArray} {pc : Nat} {ls : Array Slot} {rest : List Value} {D : va_G} {A : Nat → Prop} {a : Nat} {tys : List (ClassId × FieldType)} {ws : va_W} {H0 : Heap}
/-- a store into a field, and the heap is no larger -/
theorem yz_put (hexec : p.tables.exec = Jvm.exec) (hb : c.code = cc) {own C : String} {T : u_T} {N ci index : Nat} {Ts : List Cond} (hts : ∀ w ∈ Ts, w.before args s = true) (hin : ∀ w ∈ u_ws C T N, w ∈ Ts) (ty0 : Nat → FieldType) (hty : ∀ k, k < N → parseFieldDescriptor (T k).2.2.1 = some (ty0 k)) (hnm : ∀ a, a < N → ∀ b, b < N → a ≠ b → (T a).2.1 ≠ (T b).2.1) (hown : s.vm.findClass own = some m.cls) (hK : va_K D vwCl tys s) (hP : va_P D vwCl ws H) (hD : va_D A ws) (hS0 : va_S A H0 H locs) (q0 : Nat) {fs : List Value} (he : ws[q0]? = some (a, .inr (ci, fs))) (hc : vwCl[ci]? = some (C, T, N)) (k : Nat) (hk : k < N) (hlink : (Cond.fieldLink own index (T k).1 (T k).2.1 (T k).2.2.1).before args s = true)
    (hfin : (T k).2.2.2 = false ∨ (meth.name = "<init>" ∧ (T k).1 = own)) {ty : FieldType} {v : Value} (hd : parseFieldDescriptor (T k).2.2.1 = some ty) (hn : narrow ty v = v) (hfit : fits ty v = true) (hl : k < fs.length)
    (hdg : decode cc pc = .ok (.putfield index, 3)) (kk : ∀ (H1 : Heap) (locs1 : List Loc), H1.size = H.size → va_P D vwCl (ws.set q0 (a, .inr (ci, fs.set k v))) H1 → va_S A H0 H1 locs1 → W p l e R s m args below meth c H1 locs1 cells slots Q (F0 m (pc + 3) ls rest)) : W p l e R s m args below meth c H locs cells slots Q (F0 m pc ls (v :: .ref a :: rest)) := by
  have hap := va_apart (own := own) hts hin ty0 hty hnm hK hc
  obtain ⟨r, h1, cell, q1, q2, q3, q4⟩ := hP q0 _ he
  have hr : r = (C, T, N) := Option.some.inj (h1.symm.trans hc)
  subst hr
  obtain ⟨hS, hfc, kC, hkC, hkind⟩ := hK.1 ci _ hc
  obtain ⟨cf, kf, fi, f, hi, hsl⟩ := hS k hk
  have hlay := hts _ (hin _ (u_in_lay hk))
  have hst := (u_facts hfc hkC (u_lays hts hin hk) hi).1
  have hend : ∀ H' : Heap, H'[a]? = some (cell.setSlot f.slot v) → H'.size = H.size → (∀ q, q ≠ a → H'[q]? = H[q]?) → W p l e R s m args below meth c H' (locs ++ [⟨a, f.slot⟩]) cells slots Q (F0 m (pc + 3) ls rest) := by
    intro H' e1 e2 e3
    rw [hsl] at e1 ⊢
    exact kk H' _ e2 (hP.set hD he ⟨_, hc, t_OB.to (V := updV (vp_V fs) k v) ⟨_, e1, q2, q3, t_set q4 hap hk v⟩ (fun j _ => vp_updV_set hl v j)⟩ e3) (hS0.put e2 e3 (hD.2 q0 _ he))
  by_cases hf : (T k).2.2.2 = true
  · rcases hfin with hfin | ⟨hin2, hdecl⟩
    · rw [hf] at hfin; cases hfin
    · unfold u_lay at hlay
      rw [if_pos hf] at hlay
      have hcf : m.cls = cf := by
        obtain ⟨_, _, c', _, _, _, -, -, hf', -, -, -, hown2, -⟩ := Cond.laysFinal_spec hlay
        have e1 : c' = cf := by have := hi.symm.trans hf'; simp at this; exact this.1.symm
        rw [hdecl] at hown2
        rw [← e1]; exact Option.some.inj (hown.symm.trans hown2)
      have h6 := u_fits hfc hkC hkind (Or.inr hlay) hi hd hn hfit
      exact W.putFinK hexec hb hown hlink hi hst hcf hin2 (by rw [q2]; exact h6) q1 q3 (by rw [hsl]; exact k2_hasslot (q4 k hk)) rfl rfl hdg hend
  · unfold u_lay at hlay
    rw [if_neg hf] at hlay
    have h6 := u_store hfc hkC hkind hlay hi hd hn hfit
    exact W.putK hexec hb (f := f) ⟨hown, hlink, ⟨_, _, _, hi⟩, hst⟩ (by rw [q2]; exact h6) q1 q3 (by rw [hsl]; exact k2_hasslot (q4 k hk)) rfl rfl hdg hend
theorem yz_iast (hexec : p.tables.exec = Jvm.exec) (hb : c.code = cc) (hK : va_K D vwCl tys s) (hP : va_P D vwCl ws H) (hD : va_D A ws) (hS : va_S A H0 H locs) (q0 t0 : Nat) {cA : ClassId} {n : Nat} {f : Nat → Int32} (ha : ws[q0]? = some (a, .inl (cA, n, .inl f))) (ht : tys[t0]? = some (cA, .int)) {i : Int32} {x : Int32} (hin : vp_in i n) (hdg : decode cc pc = .ok (.iastore, 1))
    (kk : ∀ (H1 : Heap) (locs1 : List Loc), H1.size = H.size → va_P D vwCl (ws.set q0 (a, .inl (cA, n, .inl (upd f i.toNatClampNeg x)))) H1 → va_S A H0 H1 locs1 → W p l e R s m args below meth c H1 locs1 cells slots Q (F0 m (pc + 1) ls rest)) : W p l e R s m args below meth c H locs cells slots Q (F0 m pc ls (.int x :: .int i :: .ref a :: rest)) := by
  refine W.iast hexec hb (hP q0 _ ha) ((hK.2 t0 _ ht).1 n (fun j => .int (f j))) (fun q => by cases q) (by show ¬ (i < 0 ∨ (arrV _ _ _).slots.size ≤ _); rw [arrV_size]; exact hin) rfl rfl hdg fun H1 e z oq => ?_
  refine kk H1 _ z (hP.set hD ha ?_ oq) (hS.put z oq (hD.2 q0 _ ha))
  show H1[a]? = some (vp_cell _ _)
  rw [e, vp_cell_i, vp_cell_i, arrV_store]
  congr 2
  funext q
  by_cases hq : q = i.toNatClampNeg
  · subst hq
    simp [updV, upd]
  · simp [updV, upd, hq]
theorem yz_aast (hexec : p.tables.exec = Jvm.exec) (hb : c.code = cc) (hK : va_K D vwCl tys s) (hP : va_P D vwCl ws H) (hD : va_D A ws) (hS : va_S A H0 H locs) (q0 t0 qk ci : Nat) {cA : ClassId} {r : vw_C} {n v : Nat} {vs : List Value} {f : Nat → Option Nat} (ha : ws[q0]? = some (a, .inl (cA, n, .inr (.inr (.inr (.inr f)))))) (ht : tys[t0]? = some (cA, .object r.1)) (hv : ws[qk]? = some (v, .inr (ci, vs))) (hc : vwCl[ci]? = some r) {i : Int32} (hin : vp_in i n) (hdg : decode cc pc = .ok (.aastore, 1))
    (kk : ∀ (H1 : Heap) (locs1 : List Loc), H1.size = H.size → va_P D vwCl (ws.set q0 (a, .inl (cA, n, .inr (.inr (.inr (.inr (va_up f i.toNatClampNeg (some v)))))))) H1 → va_S A H0 H1 locs1 → W p l e R s m args below meth c H1 locs1 cells slots Q (F0 m (pc + 1) ls rest)) : W p l e R s m args below meth c H locs cells slots Q (F0 m pc ls (.ref v :: .int i :: .ref a :: rest)) := by
  have hlt : i.toNatClampNeg < n := Nat.not_le.mp fun q => hin (Or.inr q)
  have h0 : ¬ i < 0 := fun q => hin (Or.inl q)
  obtain ⟨r', hr', cellV, g1, g2, g3, -⟩ := hP qk _ hv
  have hcls := (hK.1 ci r hc).2
  obtain ⟨kA, comp, k1, k2, k3, -⟩ := (hK.2 t0 _ ht).2
  have hcomp : comp = D.1 ci := Option.some.inj (k3.symm.trans hcls.1)
  subst hcomp
  obtain ⟨kC, hkC, -⟩ := hcls.2
  refine W.aast hexec hb (hP q0 _ ha) (fun q h => by cases h) (fun h => by cases h) k1 k2 rfl hkC ⟨h0, by show _ < (arrV _ _ _).slots.size; rw [arrV_size]; exact hlt⟩ g1 (fun q h => by rw [g3] at h; cases h) (by rw [g2]; exact hkC) (by rw [g2]; exact va_assign hcls) rfl rfl hdg fun H1 e z oq => ?_
  refine kk H1 _ z (hP.set hD ha ?_ oq) (hS.put z oq (hD.2 q0 _ ha))
  show H1[a]? = some (vp_cell _ _)
  rw [e, vp_cell_q, vp_cell_q, arrV_store]
  congr 2
  funext q
  by_cases hq : q = i.toNatClampNeg
  · subst hq
    simp [updV, va_up, va_rf]
  · simp [updV, va_up, hq]
end YZ
section YR
variable {g : GX} {lev nL : Nat} {own : String} {cc : ByteArray} {ret : Option FieldType} {mc ms : Nat} {fin : yU} {pc : Nat} {lv : List (Nat × Value)} {st : List Value} {cells slots : Nat} {u : yU}

theorem y_iconst {n : Int} {v : Int32} (hv : Int32.ofInt n = v) (d : decode cc pc = .ok (.iconst n, 1)) (k : Y g (lev, nL, own, cc, ret) mc ms fin (pc + 1) lv (.int v :: st) cells slots u) : Y g (lev, nL, own, cc, ret) mc ms fin pc lv (st) cells slots u := by
  intro p l e s m args below meth c H locs ls hB hE hI hN hH
  exact lv_iconst hB.1 hB.2.1 d hv (k p l e s m args below meth c H locs ls hB hE hI hN hH)
theorem y_bipush {n : Int} {v : Int32} (hv : (Int8.ofInt n).toInt32 = v) (d : decode cc pc = .ok (.bipush n, 2)) (k : Y g (lev, nL, own, cc, ret) mc ms fin (pc + 2) lv (.int v :: st) cells slots u) : Y g (lev, nL, own, cc, ret) mc ms fin pc lv (st) cells slots u := by
  intro p l e s m args below meth c H locs ls hB hE hI hN hH
  exact lv_bipush hB.1 hB.2.1 d hv (k p l e s m args below meth c H locs ls hB hE hI hN hH)
theorem y_sipush {n : Int} {v : Int32} (hv : (Int16.ofInt n).toInt32 = v) (d : decode cc pc = .ok (.sipush n, 3)) (k : Y g (lev, nL, own, cc, ret) mc ms fin (pc + 3) lv (.int v :: st) cells slots u) : Y g (lev, nL, own, cc, ret) mc ms fin pc lv (st) cells slots u := by
  intro p l e s m args below meth c H locs ls hB hE hI hN hH
  exact lv_sipush hB.1 hB.2.1 d hv (k p l e s m args below meth c H locs ls hB hE hI hN hH)
theorem y_iload_n {k : Fin 4} {i q : Nat} {x : Int32} (hi : (k : Nat) = i) (hq : lv[q]? = some (i, .int x)) (d : decode cc pc = .ok (.iload_n k, 1)) (k : Y g (lev, nL, own, cc, ret) mc ms fin (pc + 1) lv (.int x :: st) cells slots u) : Y g (lev, nL, own, cc, ret) mc ms fin pc lv (st) cells slots u := by
  intro p l e s m args below meth c H locs ls hB hE hI hN hH
  exact lv_iload_n hB.1 hB.2.1 d hi (lv_at hH.2.2.2 q hq) (k p l e s m args below meth c H locs ls hB hE hI hN hH)
theorem y_aload_n {k : Fin 4} {i q : Nat} {x : Nat} (hi : (k : Nat) = i) (hq : lv[q]? = some (i, .ref x)) (d : decode cc pc = .ok (.aload_n k, 1)) (k : Y g (lev, nL, own, cc, ret) mc ms fin (pc + 1) lv (.ref x :: st) cells slots u) : Y g (lev, nL, own, cc, ret) mc ms fin pc lv (st) cells slots u := by
  intro p l e s m args below meth c H locs ls hB hE hI hN hH
  exact lv_aload_n hB.1 hB.2.1 d hi (lv_at hH.2.2.2 q hq) (k p l e s m args below meth c H locs ls hB hE hI hN hH)
theorem y_iadd {x y v : Int32} (hv : x + y = v) (d : decode cc pc = .ok (.iadd, 1)) (k : Y g (lev, nL, own, cc, ret) mc ms fin (pc + 1) lv (.int v :: st) cells slots u) : Y g (lev, nL, own, cc, ret) mc ms fin pc lv (.int y :: .int x :: st) cells slots u := by
  intro p l e s m args below meth c H locs ls hB hE hI hN hH
  subst hv
  exact lv_iadd hB.1 hB.2.1 d (k p l e s m args below meth c H locs ls hB hE hI hN hH)
theorem y_dup {v : Value} (hv : v.category = 1) (d : decode cc pc = .ok (.dup, 1)) (k : Y g (lev, nL, own, cc, ret) mc ms fin (pc + 1) lv (v :: v :: st) cells slots u) : Y g (lev, nL, own, cc, ret) mc ms fin pc lv (v :: st) cells slots u := by
  intro p l e s m args below meth c H locs ls hB hE hI hN hH
  exact lv_dup hB.1 hB.2.1 d hv (k p l e s m args below meth c H locs ls hB hE hI hN hH)
theorem y_istore_n {k : Fin 4} {i : Nat} {x : Int32} {lv' : List (Nat × Value)} (hi : (k : Nat) = i) (d : decode cc pc = .ok (.istore_n k, 1)) (hn : i < nL) (hl : (i, Value.int x) :: lv.filter (fun q => !(q.1 == i) && !(q.1 + 1 == i && q.2.category == 2)) = lv') (k : Y g (lev, nL, own, cc, ret) mc ms fin (pc + 1) lv' st cells slots u) : Y g (lev, nL, own, cc, ret) mc ms fin pc lv (.int x :: st) cells slots u := by
  intro p l e s m args below meth c H locs ls hB hE hI hN hH
  exact lv_istore_n hB.1 hB.2.1 d hi hH.2.2.2 hn hl (fun ls' h' => k p l e s m args below meth c H locs ls' hB hE hI hN ⟨hH.1, hH.2.1, hH.2.2.1, h'⟩)
theorem y_iinc {i q : Nat} {n : Int} {x v : Int32} {lv' : List (Nat × Value)} (d : decode cc pc = .ok (.iinc i n, 3)) (hq : lv[q]? = some (i, .int x)) (hv : x + Int32.ofInt n = v) (hn : i < nL) (hl : (i, Value.int v) :: lv.filter (fun q => !(q.1 == i) && !(q.1 + 1 == i && q.2.category == 2)) = lv') (k : Y g (lev, nL, own, cc, ret) mc ms fin (pc + 3) lv' st cells slots u) : Y g (lev, nL, own, cc, ret) mc ms fin pc lv st cells slots u := by
  intro p l e s m args below meth c H locs ls hB hE hI hN hH
  exact lv_iinc hB.1 hB.2.1 d hH.2.2.2 hq hv hn hl (fun ls' h' => k p l e s m args below meth c H locs ls' hB hE hI hN ⟨hH.1, hH.2.1, hH.2.2.1, h'⟩)
theorem y_geT {x y : Int32} {off : Int} {tgt : Nat} (d : decode cc pc = .ok (.if_icmp .ge off, 3)) (ht : (pc : Int) + off = (tgt : Int)) (h : y ≤ x) (k : Y g (lev, nL, own, cc, ret) mc ms fin tgt lv st cells slots u) : Y g (lev, nL, own, cc, ret) mc ms fin pc lv (.int y :: .int x :: st) cells slots u := by
  intro p l e s m args below meth c H locs ls hB hE hI hN hH
  exact lv_icmp_ge hB.1 hB.2.1 d ht (fun _ => k p l e s m args below meth c H locs ls hB hE hI hN hH) (fun h' => absurd h h')
theorem y_geF {x y : Int32} {off : Int} {tgt : Nat} (d : decode cc pc = .ok (.if_icmp .ge off, 3)) (ht : (pc : Int) + off = (tgt : Int)) (h : ¬ y ≤ x) (k : Y g (lev, nL, own, cc, ret) mc ms fin (pc + 3) lv st cells slots u) : Y g (lev, nL, own, cc, ret) mc ms fin pc lv (.int y :: .int x :: st) cells slots u := by
  intro p l e s m args below meth c H locs ls hB hE hI hN hH
  exact lv_icmp_ge hB.1 hB.2.1 d ht (fun h' => absurd h' h) (fun _ => k p l e s m args below meth c H locs ls hB hE hI hN hH)
theorem y_goto {off : Int} {tgt : Nat} (d : decode cc pc = .ok (.goto off, 3)) (ht : (pc : Int) + off = (tgt : Int)) (k : Y g (lev, nL, own, cc, ret) mc ms fin tgt lv st cells slots u) : Y g (lev, nL, own, cc, ret) mc ms fin pc lv st cells slots u := by
  intro p l e s m args below meth c H locs ls hB hE hI hN hH
  exact lv_goto hB.1 hB.2.1 d ht (k p l e s m args below meth c H locs ls hB hE hI hN hH)
theorem y_obj {idx a : Nat} (hl : Cond.methodLink own idx Lib.objectInit ∈ xT ∧ Cond.instanceMethod Lib.objectInit ∈ xT ∧ Cond.code Lib.objectInit ⟨#[0xb1]⟩ 1 none ∈ xT) (hlev : 0 < lev) (hroom : (st.map fun v => v.category).sum ≤ 8) (d : decode cc pc = .ok (.invokespecial idx, 3)) (k : Y g (lev, nL, own, cc, ret) mc ms fin (pc + 3) lv st cells slots u) : Y g (lev, nL, own, cc, ret) mc ms fin pc lv (.ref a :: st) cells slots u := by
  intro p l e s m args below meth c H locs ls hB hE hI hN hH
  have hK := hB.2.2.2.2.2.2
  exact W.objInit hB.1 hB.2.1 hB.2.2.2.2.2.1 (xT_use hK hl.1) (xT_use hK hl.2.1) (xT_use hK hl.2.2) rfl (by show ls.size = _; rw [hB.2.2.1]; exact hH.2.2.2.1) rfl d (by show 1 ≤ lev; omega) (by show 2 * 0 + _ + 12 ≤ 37 * lev; omega) (k p l e s m args below meth c H locs ls hB hE hI hN hH)
/-! cells come -/
theorem y_new {index n c N : Nat} {C : String} {T : u_T} {im : IM} {rm : RM} (ty : Nat → FieldType) (hty : ∀ k, k < N → parseFieldDescriptor (T k).2.2.1 = some (ty k)) (hs : xSH n = (c, N)) (hc : c < 8) (hcl : vwCl[c]? = some (C, T, N)) (hin : ∀ w ∈ u_ws C T N, w ∈ xT) (hl : Cond.classLink own index C ∈ xT ∧ Cond.instantiable C N ∈ xT ∧ Cond.initialized C ∈ xT) (hdf : ∀ g : GX, ∀ j, j < N → defaultValue (ty j) = yFld g (fun _ _ => 0) (fun _ _ => none) n c j) (hcells : cells + 1 ≤ mc) (hslots : slots + N ≤ ms) (d : decode cc pc = .ok (.new index, 3))
    (k : Y g (lev, nL, own, cc, ret) mc ms fin (pc + 3) lv (.ref (g.1 n) :: st) (cells + 1) (slots + N) (n + 1, upA im n (fun _ => 0), upR rm n (fun _ => none))) : Y g (lev, nL, own, cc, ret) mc ms fin pc lv st cells slots (n, im, rm) := by
  intro p l e s m args below meth co H locs ls hB hE hI hN hH
  have hK := hB.2.2.2.2.2.2
  have hKn := hK.2.1.1 c _ hcl
  refine W.newcK hB.1 hB.2.1 hB.2.2.2.2.2.1 (xT_use hK hl.1) (xT_use hK hl.2.1) (xT_use hK hl.2.2) rfl d hcells hslots hKn.2.1 hH.2.2.1 fun H1 kC hkC e1 z1 o1 => ?_
  have hk : ∀ (k : Nat) (x : Nat × va_E), (yWl g (n, im, rm))[k]? = some x → H1[x.1]? = H[x.1]? := fun k x hx => o1 x.1 (by rw [← hH.2.2.1]; exact (hH.2.1 k x hx).lt)
  refine k p l e s m args below meth co H1 locs ls hB hE hI hN ⟨⟨Nat.le_trans hH.1.1 (by rw [z1, hH.2.2.1]; omega), fun x h1 h2 => (o1 x (by rw [← hH.2.2.1]; exact Nat.lt_of_lt_of_le h1 hH.1.1)).trans (hH.1.2.1 x h1 h2), hH.1.2.2⟩, ?_, by rw [z1]; show g.1 n + 1 = g.1 (n + 1); rw [hE.2.2.1 n, hE.2.2.1 (n + 1)]; omega, hH.2.2.2⟩
  rw [yWl_push]
  refine (hH.2.1.kept hk).app (fun k x hx => ?_)
  have hz : k < 1 := (List.getElem?_eq_some_iff.mp hx).1
  rw [show k = 0 by omega] at hx
  cases hx
  rw [hs]
  show va_at _ _ (g.1 n, if c < 8 then _ else _) H1
  rw [if_pos hc]
  refine ⟨_, hcl, (u_born ty (fun q hq => xT_use (args := args) hK hq) hin hKn hkC e1 hty).to fun j hj => ?_⟩
  rw [hdf g j hj]
  show _ = ((List.range N).map (yFld g (upA im n fun _ => 0) (upR rm n fun _ => none) n c)).getD j .null
  rw [List.getD_eq_getElem?_getD, List.getElem?_map, List.getElem?_range hj]
  simp [yFld, upA, upR]
theorem y_newI {n N : Nat} {v : Int32} {im : IM} {rm : RM} (hs : xSH n = (8, N)) (hv : ¬ v < 0) (hvN : v.toNatClampNeg = N) (hb : N * 4 ≤ 536870912) (hcells : cells + 1 ≤ mc) (hslots : slots + N ≤ ms) (d : decode cc pc = .ok (.newarray .int, 2))
    (k : Y g (lev, nL, own, cc, ret) mc ms fin (pc + 2) lv (.ref (g.1 n) :: st) (cells + 1) (slots + N) (n + 1, upA im n (fun _ => 0), upR rm n (fun _ => none))) : Y g (lev, nL, own, cc, ret) mc ms fin pc lv (.int v :: st) cells slots (n, im, rm) := by
  intro p l e s m args below meth co H locs ls hB hE hI hN hH
  have hK := hB.2.2.2.2.2.2
  refine va_newaK hB.1 hB.2.1 (atype := .int) hE.arr rfl d rfl hv hvN hb hcells hslots hH.2.2.1 fun H1 cA e1 z1 o1 hAr hNm => ?_
  have hcA : cA = g.2.2.1.1 := by
    have h2 : s.vm.findClass ("[" ++ (FieldType.int).toString) = some g.2.2.1.1 := (hK.2.1.2 0 _ rfl).2
    exact Option.some.inj (hNm.symm.trans h2)
  have hk : ∀ (k : Nat) (x : Nat × va_E), (yWl g (n, im, rm))[k]? = some x → H1[x.1]? = H[x.1]? := fun k x hx => o1 x.1 (by rw [← hH.2.2.1]; exact (hH.2.1 k x hx).lt)
  refine k p l e s m args below meth co H1 locs ls hB hE hI hN ⟨⟨Nat.le_trans hH.1.1 (by rw [z1, hH.2.2.1]; omega), fun x h1 h2 => (o1 x (by rw [← hH.2.2.1]; exact Nat.lt_of_lt_of_le h1 hH.1.1)).trans (hH.1.2.1 x h1 h2), hH.1.2.2⟩, ?_, by rw [z1]; show g.1 n + 1 = g.1 (n + 1); rw [hE.2.2.1 n, hE.2.2.1 (n + 1)]; omega, hH.2.2.2⟩
  rw [yWl_push]
  refine (hH.2.1.kept hk).app (fun k x hx => ?_)
  have hz : k < 1 := (List.getElem?_eq_some_iff.mp hx).1
  rw [show k = 0 by omega] at hx
  cases hx
  rw [hs]
  have e3 : (upA im n fun _ => (0 : Int32)) n = fun _ => 0 := by funext j; simp [upA]
  show H1[g.1 n]? = some (vp_cell g.2.2.1.1 (N, .inl ((upA im n fun _ => 0) n)))
  rw [e3, ← hcA]
  exact e1
theorem y_anew {index n N q : Nat} {v : Int32} {im : IM} {rm : RM} {C : String} (hs : xSH n = (8 + q, N)) (hq : (q = 1 ∧ C = "RollTown$Thing") ∨ (q = 2 ∧ C = "RollTown$Sheet")) (hl : Cond.classLink own index C ∈ xT) (hv : ¬ v < 0) (hvN : v.toNatClampNeg = N) (hb : N * 4 ≤ 536870912) (hcells : cells + 1 ≤ mc) (hslots : slots + N ≤ ms) (d : decode cc pc = .ok (.anewarray index, 3))
    (k : Y g (lev, nL, own, cc, ret) mc ms fin (pc + 3) lv (.ref (g.1 n) :: st) (cells + 1) (slots + N) (n + 1, upA im n (fun _ => 0), upR rm n (fun _ => none))) : Y g (lev, nL, own, cc, ret) mc ms fin pc lv (.int v :: st) cells slots (n, im, rm) := by
  intro p l e s m args below meth co H locs ls hB hE hI hN hH
  have hK := hB.2.2.2.2.2.2
  have hAO : va_AO C s := by
    rcases hq with ⟨-, rfl⟩ | ⟨-, rfl⟩
    · exact hE.1
    · exact hE.2.1
  subst hvN
  refine W.anew hB.1 hB.2.1 hB.2.2.2.2.2.1 (xT_use hK hl) (va_AO.use hAO) rfl d rfl hv hb hcells hslots fun cA kA comp f1 f2 f3 f4 => ?_
  generalize hH1 : H.push ({ cls := cA, slots := Array.replicate v.toNatClampNeg .null, vm := .none } : Cell) = H1
  have z1 : H1.size = H.size + 1 := by rw [← hH1, Array.size_push]
  have e1 : H1[H.size]? = some (arrV cA v.toNatClampNeg (fun _ => .null)) := by rw [← hH1, Array.getElem?_push_size, ← arrV_new]
  have o1 : ∀ q : Nat, q < H.size → H1[q]? = H[q]? := fun q hq => by rw [← hH1, Array.getElem?_push, if_neg (Nat.ne_of_lt hq)]
  have hk : ∀ (k : Nat) (x : Nat × va_E), (yWl g (n, im, rm))[k]? = some x → H1[x.1]? = H[x.1]? := fun k x hx => o1 x.1 (hH.2.1 k x hx).lt
  have hsz : H.size = g.1 n := hH.2.2.1
  show W _ _ _ _ _ _ _ _ _ _ _ _ _ _ _ (F0 m (pc + 3) ls (.ref H.size :: st))
  rw [hsz]
  refine k p l e s m args below meth co H1 locs ls hB hE hI hN ⟨⟨Nat.le_trans hH.1.1 (by rw [z1]; omega), fun x h1 h2 => (o1 x (Nat.lt_of_lt_of_le h1 hH.1.1)).trans (hH.1.2.1 x h1 h2), hH.1.2.2⟩, ?_, by rw [z1, hsz]; show g.1 n + 1 = g.1 (n + 1); rw [hE.2.2.1 n, hE.2.2.1 (n + 1)]; omega, hH.2.2.2⟩
  rw [yWl_push]
  refine (hH.2.1.kept hk).app (fun k x hx => ?_)
  have hz : k < 1 := (List.getElem?_eq_some_iff.mp hx).1
  rw [show k = 0 by omega] at hx
  cases hx
  rw [hs]
  have e3 : (fun i => (((upR rm n fun _ => none) n i).map g.1 : Option Nat)) = fun _ => none := by funext j; simp [upR]
  rcases hq with ⟨rfl, rfl⟩ | ⟨rfl, rfl⟩
  · have hcA : cA = g.2.2.1.2.1 := by
      obtain ⟨kB, compB, b1, b2, b3, b4⟩ := (hK.2.1.2 1 _ rfl).2
      exact Option.some.inj (f1.symm.trans b4)
    show H1[g.1 n]? = some (vp_cell g.2.2.1.2.1 (v.toNatClampNeg, .inr (.inr (.inr (.inr (fun i => ((upR rm n fun _ => none) n i).map g.1))))))
    rw [e3, ← hcA, ← hsz]
    exact e1
  · have hcA : cA = g.2.2.1.2.2 := by
      obtain ⟨kB, compB, b1, b2, b3, b4⟩ := (hK.2.1.2 2 _ rfl).2
      exact Option.some.inj (f1.symm.trans b4)
    show H1[g.1 n]? = some (vp_cell g.2.2.1.2.2 (v.toNatClampNeg, .inr (.inr (.inr (.inr (fun i => ((upR rm n fun _ => none) n i).map g.1))))))
    rw [e3, ← hcA, ← hsz]
    exact e1
/-! fields and elements -/
theorem yEnt_o {g : GX} {im : IM} {rm : RM} {a c n : Nat} (hc : c < 8) : yEnt g im rm a (c, n) = .inr (c, (List.range n).map (yFld g im rm a c)) := if_pos hc
theorem yFs {g : GX} {im : IM} {rm : RM} {a c n k : Nat} (hk : k < n) : ((List.range n).map (yFld g im rm a c))[k]? = some (yFld g im rm a c k) := by
  rw [List.getElem?_map, List.getElem?_range hk]; rfl
theorem y_getR {a c n n0 b : Nat} {C : String} {T : u_T} {index : Nat} {im : IM} {rm : RM} (hs : xSH a = (c, n)) (han : a < n0) (hc : c < 8) (hcl : vwCl[c]? = some (C, T, n)) (hin : ∀ w ∈ u_ws C T n, w ∈ xT) (k : Nat) (hk : k < n) (hof : ¬ xOFF c k = 0) (hlink : Cond.fieldLink own index (T k).1 (T k).2.1 (T k).2.2.1 ∈ xT) (hv : rm a k = some b) (d : decode cc pc = .ok (.getfield index, 3)) (kk : Y g (lev, nL, own, cc, ret) mc ms fin (pc + 3) lv (.ref (g.1 b) :: st) cells slots (n0, im, rm)) : Y g (lev, nL, own, cc, ret) mc ms fin pc lv (.ref (g.1 a) :: st) cells slots (n0, im, rm) := by
  intro p l e s m args below meth co H locs ls hB hE hI hN hH
  have hK := hB.2.2.2.2.2.2
  exact va_get (Ts := xT) hB.1 hB.2.1 (fun q hq => xT_use hK hq) hin hB.2.2.2.2.2.1 hK.2.1 hH.2.1 a ((yWl_at (u := (n0, im, rm)) han hs).trans (by rw [yEnt_o hc])) hcl k hk (xT_use hK hlink) (fun _ h => h) ((yFs hk).trans (by simp [yFld, hof, hv, va_rf])) d (kk p l e s m args below meth co H locs ls hB hE hI hN hH)
theorem y_fset {g : GX} {a ci n n0 k : Nat} {im im' : IM} {rm rm' : RM} {v : Value} (hs : xSH a = (ci, n)) (han : a < n0) (hc : ci < 8) (hk : k < n) (h1 : ∀ b, b ≠ a → im' b = im b ∧ rm' b = rm b) (h2 : yFld g im' rm' a ci k = v) (h3 : ∀ j, j ≠ k → yFld g im' rm' a ci j = yFld g im rm a ci j) : (yWl g (n0, im, rm)).set a (g.1 a, .inr (ci, ((List.range n).map (yFld g im rm a ci)).set k v)) = yWl g (n0, im', rm') := by
  rw [← yWl_set (im := im) (im' := im') (rm := rm) (rm' := rm') han (fun b hb => yEnt_cg (h1 b hb).1 (h1 b hb).2), hs, yEnt_o hc]
  congr 4
  apply List.ext_getElem?
  intro j
  rw [List.getElem?_set]
  by_cases hj : j < n
  · rw [yFs hj, yFs hj]
    by_cases h : k = j
    · subst h
      simp [hk, h2]
    · rw [if_neg h, h3 j (fun e => h e.symm)]
  · rw [List.getElem?_eq_none (by simp; omega), List.getElem?_eq_none (by simp; omega)]
    by_cases h : k = j
    · subst h; omega
    · simp [h]
theorem y_putI {a ci n n0 : Nat} {C : String} {T : u_T} {index : Nat} {x : Int32} {ty : FieldType} {im : IM} {rm : RM} (ty0 : Nat → FieldType) (hty : ∀ k, k < n → parseFieldDescriptor (T k).2.2.1 = some (ty0 k)) (hnm : ∀ a, a < n → ∀ b, b < n → a ≠ b → (T a).2.1 ≠ (T b).2.1) (hs : xSH a = (ci, n)) (han : a < n0) (hc : ci < 8) (hcl : vwCl[ci]? = some (C, T, n)) (hin : ∀ w ∈ u_ws C T n, w ∈ xT) (k : Nat) (hk : k < n) (h0 : xOFF ci k = 0) (hlink : Cond.fieldLink own index (T k).1 (T k).2.1 (T k).2.2.1 ∈ xT) (hfin : (T k).2.2.2 = false) (hd : parseFieldDescriptor (T k).2.2.1 = some ty) (hnn : narrow ty (.int x) = .int x) (hfit : fits ty (.int x) = true) (d : decode cc pc = .ok (.putfield index, 3)) (kk : Y g (lev, nL, own, cc, ret) mc ms fin (pc + 3) lv st cells slots (n0, up im a k x, rm)) : Y g (lev, nL, own, cc, ret) mc ms fin pc lv (.int x :: .ref (g.1 a) :: st) cells slots (n0, im, rm) := by
  intro p l e s m args below meth co H locs ls hB hE hI hN hH
  have hK := hB.2.2.2.2.2.2
  refine yz_put (Ts := xT) (fs := (List.range n).map (yFld g im rm a ci)) hB.1 hB.2.1 (fun q hq => xT_use hK hq) hin ty0 hty hnm hB.2.2.2.2.2.1 hK.2.1 hH.2.1 (yWl_D _ hE.2.2.1) hH.1 a ((yWl_at (u := (n0, im, rm)) han hs).trans (by rw [yEnt_o hc])) hcl k hk (xT_use hK hlink) (Or.inl hfin) hd hnn hfit (by simp; exact hk) d (fun H1 locs1 hz hP hS => ?_)
  rw [y_fset hs han hc hk (im' := up im a k x) (rm' := rm) (fun b hb => ⟨by funext j; simp [up, hb], rfl⟩) (by simp [yFld, h0, up]) (fun j hj => by simp [yFld, up, hj])] at hP
  exact kk p l e s m args below meth co H1 locs1 ls hB hE hI hN ⟨hS, hP, hz.trans hH.2.2.1, hH.2.2.2⟩
theorem y_putR {a ci n n0 b : Nat} {C : String} {T : u_T} {index : Nat} {ty : FieldType} {im : IM} {rm : RM} (ty0 : Nat → FieldType) (hty : ∀ k, k < n → parseFieldDescriptor (T k).2.2.1 = some (ty0 k)) (hnm : ∀ a, a < n → ∀ b, b < n → a ≠ b → (T a).2.1 ≠ (T b).2.1) (hs : xSH a = (ci, n)) (han : a < n0) (hc : ci < 8) (hcl : vwCl[ci]? = some (C, T, n)) (hin : ∀ w ∈ u_ws C T n, w ∈ xT) (k : Nat) (hk : k < n) (h0 : ¬ xOFF ci k = 0) (hlink : Cond.fieldLink own index (T k).1 (T k).2.1 (T k).2.2.1 ∈ xT) (hdecl : (T k).1 = own) (hd : parseFieldDescriptor (T k).2.2.1 = some ty) (hnn : ∀ q, narrow ty (.ref q) = .ref q) (hfit : ∀ q, fits ty (.ref q) = true) (d : decode cc pc = .ok (.putfield index, 3)) (kk : Y g (lev, nL, own, cc, ret) mc ms fin (pc + 3) lv st cells slots (n0, im, upr rm a k (some b))) : Y g (lev, nL, own, cc, ret) mc ms fin pc lv (.ref (g.1 b) :: .ref (g.1 a) :: st) cells slots (n0, im, rm) := by
  intro p l e s m args below meth co H locs ls hB hE hI hN hH
  have hK := hB.2.2.2.2.2.2
  refine yz_put (Ts := xT) (fs := (List.range n).map (yFld g im rm a ci)) hB.1 hB.2.1 (fun q hq => xT_use hK hq) hin ty0 hty hnm hB.2.2.2.2.2.1 hK.2.1 hH.2.1 (yWl_D _ hE.2.2.1) hH.1 a ((yWl_at (u := (n0, im, rm)) han hs).trans (by rw [yEnt_o hc])) hcl k hk (xT_use hK hlink) (Or.inr ⟨hI, hdecl⟩) hd (hnn _) (hfit _) (by simp; exact hk) d (fun H1 locs1 hz hP hS => ?_)
  rw [y_fset hs han hc hk (im' := im) (rm' := upr rm a k (some b)) (fun b hb => ⟨rfl, by funext j; simp [upr, hb]⟩) (by simp [yFld, h0, upr, va_rf]) (fun j hj => by simp [yFld, upr, hj])] at hP
  exact kk p l e s m args below meth co H1 locs1 ls hB hE hI hN ⟨hS, hP, hz.trans hH.2.2.1, hH.2.2.2⟩
theorem y_iast {a n n0 j : Nat} {i x : Int32} {im : IM} {rm : RM} (hs : xSH a = (8, n)) (han : a < n0) (hi : inb i n = true) (hj : ix i = j) (d : decode cc pc = .ok (.iastore, 1)) (kk : Y g (lev, nL, own, cc, ret) mc ms fin (pc + 1) lv st cells slots (n0, up im a j x, rm)) : Y g (lev, nL, own, cc, ret) mc ms fin pc lv (.int x :: .int i :: .ref (g.1 a) :: st) cells slots (n0, im, rm) := by
  intro p l e s m args below meth co H locs ls hB hE hI hN hH
  have hK := hB.2.2.2.2.2.2
  subst hj
  refine yz_iast (f := im a) hB.1 hB.2.1 hK.2.1 hH.2.1 (yWl_D _ hE.2.2.1) hH.1 a 0 (yWl_at (u := (n0, im, rm)) han hs) rfl (inb_in hi) d (fun H1 locs1 hz hP hS => ?_)
  have eW : (yWl g (n0, im, rm)).set a (g.1 a, .inl (g.2.2.1.1, n, .inl (upd (im a) (ix i) x))) = yWl g (n0, up im a (ix i) x, rm) := by
    rw [← yWl_set (im := im) (im' := up im a (ix i) x) (rm := rm) (rm' := rm) han (fun b hb => yEnt_cg (by funext j; simp [up, hb]) rfl), hs]
    congr 2
    show _ = Sum.inl (g.2.2.1.1, n, Sum.inl ((up im a (ix i) x) a))
    have e2 : (up im a (ix i) x) a = upd (im a) (ix i) x := by funext j; simp [up, upd]
    rw [e2]
  rw [eW] at hP
  exact kk p l e s m args below meth co H1 locs1 ls hB hE hI hN ⟨hS, hP, hz.trans hH.2.2.1, hH.2.2.2⟩
theorem y_aast {a n n0 j b q ci nf : Nat} {T : u_T} {C : String} {i : Int32} {im : IM} {rm : RM} (hs : xSH a = (8 + q, n)) (hq : (q = 1 ∧ C = "RollTown$Thing") ∨ (q = 2 ∧ C = "RollTown$Sheet")) (han : a < n0) (hbn : b < n0) (hsb : xSH b = (ci, nf)) (hc : ci < 8) (hcl : vwCl[ci]? = some (C, T, nf)) (hi : inb i n = true) (hj : ix i = j) (d : decode cc pc = .ok (.aastore, 1)) (kk : Y g (lev, nL, own, cc, ret) mc ms fin (pc + 1) lv st cells slots (n0, im, upr rm a j (some b))) : Y g (lev, nL, own, cc, ret) mc ms fin pc lv (.ref (g.1 b) :: .int i :: .ref (g.1 a) :: st) cells slots (n0, im, rm) := by
  intro p l e s m args below meth co H locs ls hB hE hI hN hH
  have hK := hB.2.2.2.2.2.2
  subst hj
  have hvb := (yWl_at (g := g) (u := (n0, im, rm)) hbn hsb).trans (by rw [yEnt_o hc])
  have eU : ∀ (cX : ClassId), (fun k => ((upr rm a (ix i) (some b)) a k).map g.1) = va_up (fun k => (rm a k).map g.1) (ix i) (some (g.1 b)) := by
    intro cX
    funext k
    by_cases h : k = ix i
    · subst h; simp [upr, va_up]
    · simp [upr, va_up, h]
  rcases hq with ⟨rfl, rfl⟩ | ⟨rfl, rfl⟩
  · refine yz_aast (f := fun k => (rm a k).map g.1) hB.1 hB.2.1 hK.2.1 hH.2.1 (yWl_D _ hE.2.2.1) hH.1 a 1 b ci (yWl_at (u := (n0, im, rm)) han hs) rfl hvb hcl (inb_in hi) d (fun H1 locs1 hz hP hS => ?_)
    have eW : (yWl g (n0, im, rm)).set a (g.1 a, .inl (g.2.2.1.2.1, n, .inr (.inr (.inr (.inr (va_up (fun k => (rm a k).map g.1) (ix i) (some (g.1 b)))))))) = yWl g (n0, im, upr rm a (ix i) (some b)) := by
      rw [← yWl_set (im := im) (im' := im) (rm := rm) (rm' := upr rm a (ix i) (some b)) han (fun b hb => yEnt_cg rfl (by funext j; simp [upr, hb])), hs, ← eU 0]
      rfl
    rw [eW] at hP
    exact kk p l e s m args below meth co H1 locs1 ls hB hE hI hN ⟨hS, hP, hz.trans hH.2.2.1, hH.2.2.2⟩
  · refine yz_aast (f := fun k => (rm a k).map g.1) hB.1 hB.2.1 hK.2.1 hH.2.1 (yWl_D _ hE.2.2.1) hH.1 a 2 b ci (yWl_at (u := (n0, im, rm)) han hs) rfl hvb hcl (inb_in hi) d (fun H1 locs1 hz hP hS => ?_)
    have eW : (yWl g (n0, im, rm)).set a (g.1 a, .inl (g.2.2.1.2.2, n, .inr (.inr (.inr (.inr (va_up (fun k => (rm a k).map g.1) (ix i) (some (g.1 b)))))))) = yWl g (n0, im, upr rm a (ix i) (some b)) := by
      rw [← yWl_set (im := im) (im' := im) (rm := rm) (rm' := upr rm a (ix i) (some b)) han (fun b hb => yEnt_cg rfl (by funext j; simp [upr, hb])), hs, ← eU 0]
      rfl
    rw [eW] at hP
    exact kk p l e s m args below meth co H1 locs1 ls hB hE hI hN ⟨hS, hP, hz.trans hH.2.2.1, hH.2.2.2⟩
theorem y_ret (hret : ret = none) (hc : cells ≤ mc) (hs : slots ≤ ms) (d : decode cc pc = .ok (.return_, 1)) : Y g (lev, nL, own, cc, ret) mc ms u pc lv [] cells slots u := by
  intro p l e s m args below meth c H locs ls hB hE hI hN hH
  refine W.widen hc hs ?_
  exact W.vret hB.1 hB.2.1 (hB.2.2.2.1.trans hret) (fun t ht hW => ⟨rfl, by rw [ht]; exact hH.2.1, by rw [ht]; exact hH.2.2.1, hH.1.F ht⟩) hH.1.2.2 d (hlocks := hB.2.2.2.2.1)
/-! a constructor's contract, and its call -/
def yPre (g : GX) (u : yU) (U : State) : Prop := xKK g U U.heap ∧ yE g U ∧ va_P g.2.1 vwCl (yWl g u) U.heap ∧ U.heap.size = g.1 u.1 ∧ u.1 ≤ 94
def yMet (g : GX) (lev : Nat) (y : MethodName) (cc : ByteArray) (nL mc ms a : Nat) (u u' : yU) : Prop :=
  ∀ l : Launch, Met l y [Cond.code y cc nL none] (yR lev mc ms) (va_Pc [.ref (g.1 a)] (yPre g u)) (yQ g u') mc ms (yA g)
theorem y_met {y : MethodName} {a : Nat} {u' : yU} (hy : plainName y.cls = true) (hyn : y.name = "<init>") (hn : 1 ≤ nL) (h : Y g (lev, nL, y.cls, cc, none) mc ms u' 0 [(0, .ref (g.1 a))] [] 0 0 u) : yMet g lev y cc nL mc ms a u u' := by
  intro l
  refine Met.ofW (cc := cc) (maxL := nL) (ret := none) hy rfl ?_
  intro p e s m args below meth c s₁ B hml hv
  obtain ⟨rfl, hK, hE, hP, hz, hle⟩ := hv
  have hl := lv_entry [.ref (g.1 a)] (n := nL) hn
  rw [lg_entry_eq]
  exact h p l e s m _ below meth c s.heap [] _ ⟨B.exec, B.bytes, hml, B.returns, B.notSynchronized, findClass_of_methodNamed B.named, hK⟩ hE ((name_of_methodNamed B.named B.method).1.trans hyn) ⟨_, hle, hz⟩ ⟨va_S.rf, hP, hz, hl⟩
theorem y_blind {a : Nat} : FrameBlind (va_Pc [.ref (g.1 a)] (yPre g u)) := by
  intro v U f mk h
  exact ⟨h.1, xKK.same (u := U) (U := U.calling f mk v) (H := U.heap) rfl h.2.1, yE.warm (State.WarmedH.refl U) h.2.2.1, h.2.2.2⟩
abbrev yLink (own : String) (index : Nat) (y : MethodName) : Prop := (Cond.methodLink own index y ∈ xT ∨ ∃ host, Cond.methodLinkNest own index y host ∈ xT) ∧ Cond.instanceMethod y ∈ xT ∧ Cond.initialized y.cls ∈ xT
theorem y_call {a index lev' nL' mc' ms' : Nat} {y : MethodName} {cc' : ByteArray} {u' : yU} (hM : yMet g lev' y cc' nL' mc' ms' a u u') (hun : u.1 ≤ 94) (hyn : y.name = "<init>") (hlev : lev' < lev) (hnL : nL' ≤ 18) (hl : yLink own index y) (hcode : Cond.code y cc' nL' none ∈ xT) (hd : xD y 0) (hroom : (st.map fun v => v.category).sum ≤ 8) (hc : cells + mc' ≤ mc) (hsl : slots + ms' ≤ ms) (d : decode cc pc = .ok (.invokespecial index, 3))
    (kk : Y g (lev, nL, own, cc, ret) mc ms fin (pc + 3) lv st (cells + mc') (slots + ms') u') : Y g (lev, nL, own, cc, ret) mc ms fin pc lv (.ref (g.1 a) :: st) cells slots u := by
  intro p l e s m args below meth c H locs ls hB hE hI hN hH
  obtain ⟨hlink, hin, hini⟩ := hl
  have hK := hB.2.2.2.2.2.2
  have hlen : ∀ sig, parseMethodDescriptor y.desc = some sig → 0 = sig.parameters.length := fun sig h => by
    have h2 := hd.2.2
    rw [h] at h2
    exact (Option.some.inj h2).symm
  have hkeep : ∀ q : Nat, q < s.heap.size → ¬ xAW g q → H[q]? = s.heap[q]? := by
    intro q h1 h2
    refine hH.1.2.1 q h1 (fun h3 => h2 ?_)
    obtain ⟨n, hn, hsz⟩ := hN
    have h4 : g.1 0 ≤ q := h3
    rw [hE.2.2.1 n] at hsz
    exact ⟨q - g.1 0, by omega, by rw [hE.2.2.1 (q - g.1 0)]; omega⟩
  have hpre : PreS s H (va_Pc [.ref (g.1 a)] (yPre g u)) [.ref (g.1 a)] := ⟨y_blind, fun U hU hW => ⟨rfl, by rw [hU]; exact hK.warm hW hkeep, hE.warm hW, by rw [hU]; exact hH.2.1, by rw [hU]; exact hH.2.2.1, hun⟩⟩
  have hrm : (yR lev' mc' ms').frames + 1 ≤ (yR lev mc ms).frames ∧ 8 + (nL' + 11) + (yR lev' mc' ms').locals ≤ (yR lev mc ms).locals := by
    simp only [yR]
    omega
  have hR : va_Run p l e (yR lev mc ms) s m args below meth c H locs cells slots mc' ms' (F0 m pc ls (.ref (g.1 a) :: st)) st (yQ g u' (Value.ref (g.1 a) :: []).toArray) (yA g) := by
    rcases hlink with hlink | ⟨host, hlink⟩
    · exact va_runI (Ts := []) (As := []) (n := 0) ⟨hB.1, hB.2.1, hB.2.2.1, hB.2.2.2.2.2.1, fun _ h => absurd h List.not_mem_nil⟩ (hM l) ⟨⟨rfl, rfl, hrm.1, hrm.2, x_wstat (args := args) hK hcode, List.mem_singleton.mpr rfl, xT_use hK hcode, xT_use hK hini, ⟨hd.1, hd.2.1⟩, hlen, xT_use hK hlink⟩, hyn, xT_use hK hin⟩ hpre rfl rfl hH.2.2.2.1 rfl (lv_room hroom) d ⟨hc, hsl⟩
    · exact va_runIN (Ts := []) (As := []) (n := 0) ⟨hB.1, hB.2.1, hB.2.2.1, hB.2.2.2.2.2.1, fun _ h => absurd h List.not_mem_nil⟩ (hM l) ⟨⟨⟨rfl, rfl, hrm.1, hrm.2, x_wstat (args := args) hK hcode, List.mem_singleton.mpr rfl⟩, xT_use hK hcode, xT_use hK hini, ⟨hd.1, hd.2.1⟩, hlen, xT_use hK hlink⟩, hyn, xT_use hK hin⟩ hpre rfl rfl hH.2.2.2.1 rfl (lv_room hroom) d ⟨hc, hsl⟩
  intro T hT XX
  obtain ⟨v, st₀, t, T', L, h0, X', hL, e1, e2, ⟨hv, hP, hz2, hz, hk⟩, stp⟩ := hR T hT XX
  cases hv
  rw [h0] at hz hk
  have hS := hH.1
  have hS' : va_S (yA g) s.heap T'.heap (locs ++ L) := ⟨Nat.le_trans hS.1 (by rw [e1]; exact hz), fun q h1 h2 => by rw [e1, hk q (Nat.lt_of_lt_of_le h1 hS.1) h2]; exact hS.2.1 q h1 h2, fun q hq => by
      rcases List.mem_append.mp hq with h | h
      · exact hS.2.2 q h
      · exact hL q h⟩
  obtain ⟨t2, a1, b1⟩ := kk p l e s m args below meth c T'.heap (locs ++ L) ls hB hE hI hN ⟨hS', by rw [e1]; exact hP, by rw [e1]; exact hz2, hH.2.2.2⟩ T' rfl X'
  exact ⟨t2, stp t2 a1, b1⟩

end YR
