theorem z_new0 : Cond.classLink RL 7 RX6 ∈ xT ∧ Cond.instantiable RX6 11 ∈ xT ∧ Cond.initialized RX6 ∈ xT := ⟨xT_in (in_tbl (List.mem_of_getElem? (i := 16) (by decide +kernel))) (by decide +kernel), xT_in (in_tbl (List.mem_of_getElem? (i := 17) (by decide +kernel))) (by decide +kernel), xT_in (in_tbl (List.mem_of_getElem? (i := 1) (by decide +kernel))) (by decide +kernel)⟩
theorem z_new1 : Cond.classLink RL 10 RX7 ∈ xT ∧ Cond.instantiable RX7 27 ∈ xT ∧ Cond.initialized RX7 ∈ xT := ⟨xT_in (in_tbl (List.mem_of_getElem? (i := 918) (by decide +kernel))) (by decide +kernel), xT_in (in_tbl (List.mem_of_getElem? (i := 919) (by decide +kernel))) (by decide +kernel), xT_in (in_tbl (List.mem_of_getElem? (i := 8) (by decide +kernel))) (by decide +kernel)⟩
theorem z_ct0 : yLink RL 9 yX6_init := ⟨Or.inl (xT_in (in_tbl (List.mem_of_getElem? (i := 18) (by decide +kernel))) (by decide +kernel)), xT_in (in_tbl (List.mem_of_getElem? (i := 19) (by decide +kernel))) (by decide +kernel), xT_in (in_tbl (List.mem_of_getElem? (i := 1) (by decide +kernel))) (by decide +kernel)⟩
theorem z_ct1 : yLink RL 12 yX7_init := ⟨Or.inl (xT_in (in_tbl (List.mem_of_getElem? (i := 920) (by decide +kernel))) (by decide +kernel)), xT_in (in_tbl (List.mem_of_getElem? (i := 921) (by decide +kernel))) (by decide +kernel), xT_in (in_tbl (List.mem_of_getElem? (i := 8) (by decide +kernel))) (by decide +kernel)⟩
theorem z_cd0 : Cond.code yX6_init cX6_init 2 none ∈ xT := xT_in (in_tbl (List.mem_of_getElem? (i := 20) (by decide +kernel))) (by decide +kernel)
theorem z_cd1 : Cond.code yX7_init cX7_init 2 none ∈ xT := xT_in (in_tbl (List.mem_of_getElem? (i := 922) (by decide +kernel))) (by decide +kernel)
theorem z_d0 : xD yX6_init 0 := by decide +kernel
theorem z_d1 : xD yX7_init 0 := by decide +kernel
def yL (p : Program) (l : Launch) (e : Env) (s : State) (m : MethodId) (below : List Frame) (meth : Method) (c : Code) (b : Nat) (g : GX) (pc : Nat) (lv : List (Nat × Value)) (st : List Value) (cells slots : Nat) (u : yU) : Prop :=
  ∀ (H : Heap) (locs : List Loc) (ls : Array Slot), va_S (yA g) s.heap H locs → va_P g.2.1 vwCl (yWl g u) H → H.size = g.1 u.1 → lv_has ls 4 lv →
    W p l e room_1 s m #[Value.ref b] below meth c H locs cells slots (lw_Z below #[Value.ref b] s) (F0 m pc ls st)
section YLR
variable {p : Program} {l : Launch} {e : Env} {s : State} {m : MethodId} {below : List Frame} {meth : Method} {c : Code} {b L : Nat} {xs : Nat → Int32} {g : GX} {pc : Nat} {lv : List (Nat × Value)} {st : List Value} {cells slots : Nat}
theorem z_new (hC : xLc p s m meth c b L xs g) (hE : yE g s) {index n ci N : Nat} {C : String} {T : u_T} {im : IM} {rm : RM} (ty : Nat → FieldType) (hty : ∀ k, k < N → parseFieldDescriptor (T k).2.2.1 = some (ty k)) (hs : xSH n = (ci, N)) (hc : ci < 8) (hcl : vwCl[ci]? = some (C, T, N)) (hin : ∀ w ∈ u_ws C T N, w ∈ xT) (hl : Cond.classLink RL index C ∈ xT ∧ Cond.instantiable C N ∈ xT ∧ Cond.initialized C ∈ xT) (hdf : ∀ g : GX, ∀ j, j < N → defaultValue (ty j) = yFld g (fun _ _ => 0) (fun _ _ => none) n ci j) (hcells : cells + 1 ≤ room_1.cells) (hslots : slots + N ≤ room_1.slots) (d : decode cL_law pc = .ok (.new index, 3))
    (k : yL p l e s m below meth c b g (pc + 3) lv (.ref (g.1 n) :: st) (cells + 1) (slots + N) (n + 1, upA im n (fun _ => 0), upR rm n (fun _ => none))) : yL p l e s m below meth c b g pc lv st cells slots (n, im, rm) := by
  intro H locs ls hS hP hz hlv
  have hK := hC.2.1
  have hKn := hK.2.1.1 ci _ hcl
  refine W.newcK hC.1.1 hC.1.2.1 hC.1.2.2.2.2.1 (xT_use hK hl.1) (xT_use hK hl.2.1) (xT_use hK hl.2.2) rfl d hcells hslots hKn.2.1 hz fun H1 kC hkC e1 z1 o1 => ?_
  have hk : ∀ (k : Nat) (x : Nat × va_E), (yWl g (n, im, rm))[k]? = some x → H1[x.1]? = H[x.1]? := fun k x hx => o1 x.1 (by rw [← hz]; exact (hP k x hx).lt)
  refine k H1 locs ls ⟨Nat.le_trans hS.1 (by rw [z1, hz]; omega), fun x h1 h2 => (o1 x (by rw [← hz]; exact Nat.lt_of_lt_of_le h1 hS.1)).trans (hS.2.1 x h1 h2), hS.2.2⟩ ?_ (by rw [z1]; show g.1 n + 1 = g.1 (n + 1); rw [hE.2.2.1 n, hE.2.2.1 (n + 1)]; omega) hlv
  rw [yWl_push]
  refine (hP.kept hk).app (fun k x hx => ?_)
  have hz : k < 1 := (List.getElem?_eq_some_iff.mp hx).1
  rw [show k = 0 by omega] at hx
  cases hx
  rw [hs]
  show va_at _ _ (g.1 n, if ci < 8 then _ else _) H1
  rw [if_pos hc]
  refine ⟨_, hcl, (u_born ty (fun q hq => xT_use (args := #[Value.ref b]) hK hq) hin hKn hkC e1 hty).to fun j hj => ?_⟩
  rw [hdf g j hj]
  show _ = ((List.range N).map (yFld g (upA im n fun _ => 0) (upR rm n fun _ => none) n ci)).getD j .null
  rw [List.getD_eq_getElem?_getD, List.getElem?_map, List.getElem?_range hj]
  simp [yFld, upA, upR]
theorem z_dup (hC : xLc p s m meth c b L xs g) {u : yU} {v : Value} (hv : v.category = 1) (d : decode cL_law pc = .ok (.dup, 1)) (k : yL p l e s m below meth c b g (pc + 1) lv (v :: v :: st) cells slots u) : yL p l e s m below meth c b g pc lv (v :: st) cells slots u := by
  intro H locs ls hS hP hz hlv
  exact lv_dup hC.1.1 hC.1.2.1 d hv (k H locs ls hS hP hz hlv)
theorem z_astore (hC : xLc p s m meth c b L xs g) {u : yU} {k : Fin 4} {i : Nat} {x : Nat} {lv' : List (Nat × Value)} (hi : (k : Nat) = i) (d : decode cL_law pc = .ok (.astore_n k, 1)) (hn : i < 4) (hl' : (i, Value.ref x) :: lv.filter (fun q => !(q.1 == i) && !(q.1 + 1 == i && q.2.category == 2)) = lv') (kk : yL p l e s m below meth c b g (pc + 1) lv' st cells slots u) : yL p l e s m below meth c b g pc lv (.ref x :: st) cells slots u := by
  intro H locs ls hS hP hz hlv
  exact lv_astore_n hC.1.1 hC.1.2.1 d hi hlv hn hl' (fun ls' h' => kk H locs ls' hS hP hz h')
theorem z_call (hC : xLc p s m meth c b L xs g) (hE : yE g s) (hbase : s.heap.size = g.1 0) {u u' : yU} {a index lev' nL' mc' ms' : Nat} {y : MethodName} {cc' : ByteArray} (hM : yMet g lev' y cc' nL' mc' ms' a u u') (hun : u.1 ≤ 94) (hyn : y.name = "<init>") (hlev : lev' < 14) (hnL : nL' ≤ 18) (hl : yLink RL index y) (hcode : Cond.code y cc' nL' none ∈ xT) (hd : xD y 0) (hroom : (st.map fun v => v.category).sum ≤ 8) (hc : cells + mc' ≤ room_1.cells) (hsl : slots + ms' ≤ room_1.slots) (d : decode cL_law pc = .ok (.invokespecial index, 3))
    (kk : yL p l e s m below meth c b g (pc + 3) lv st (cells + mc') (slots + ms') u') : yL p l e s m below meth c b g pc lv (.ref (g.1 a) :: st) cells slots u := by
  intro H locs ls hS hP hz0 hlv
  obtain ⟨hlink, hin, hini⟩ := hl
  have hK := hC.2.1
  have hlen : ∀ sig, parseMethodDescriptor y.desc = some sig → 0 = sig.parameters.length := fun sig h => by
    have h2 := hd.2.2
    rw [h] at h2
    exact (Option.some.inj h2).symm
  have hkeep : ∀ q : Nat, q < s.heap.size → ¬ xAW g q → H[q]? = s.heap[q]? := fun q h1 h2 => hS.2.1 q h1 (fun h3 => by have h4 : g.1 0 ≤ q := h3; omega)
  have hpre : PreS s H (va_Pc [.ref (g.1 a)] (yPre g u)) [.ref (g.1 a)] := ⟨y_blind, fun U hU hW => ⟨rfl, by rw [hU]; exact hK.warm hW hkeep, hE.warm hW, by rw [hU]; exact hP, by rw [hU]; exact hz0, hun⟩⟩
  have hrm : (yR lev' mc' ms').frames + 1 ≤ room_1.frames ∧ 8 + (nL' + 11) + (yR lev' mc' ms').locals ≤ room_1.locals := by
    simp only [yR, room_1]
    omega
  have hR : va_Run p l e room_1 s m #[Value.ref b] below meth c H locs cells slots mc' ms' (F0 m pc ls (.ref (g.1 a) :: st)) st (yQ g u' (Value.ref (g.1 a) :: []).toArray) (yA g) := by
    rcases hlink with hlink | ⟨host, hlink⟩
    · exact va_runI (Ts := []) (As := []) (n := 0) ⟨hC.1.1, hC.1.2.1, hC.1.2.2.2.1, hC.1.2.2.2.2.1, fun _ h => absurd h List.not_mem_nil⟩ (hM l) ⟨⟨rfl, rfl, hrm.1, hrm.2, x_wstat (args := #[Value.ref b]) hK hcode, List.mem_singleton.mpr rfl, xT_use hK hcode, xT_use hK hini, ⟨hd.1, hd.2.1⟩, hlen, xT_use hK hlink⟩, hyn, xT_use hK hin⟩ hpre rfl rfl hlv.1 rfl (lv_room hroom) d ⟨hc, hsl⟩
    · exact va_runIN (Ts := []) (As := []) (n := 0) ⟨hC.1.1, hC.1.2.1, hC.1.2.2.2.1, hC.1.2.2.2.2.1, fun _ h => absurd h List.not_mem_nil⟩ (hM l) ⟨⟨⟨rfl, rfl, hrm.1, hrm.2, x_wstat (args := #[Value.ref b]) hK hcode, List.mem_singleton.mpr rfl⟩, xT_use hK hcode, xT_use hK hini, ⟨hd.1, hd.2.1⟩, hlen, xT_use hK hlink⟩, hyn, xT_use hK hin⟩ hpre rfl rfl hlv.1 rfl (lv_room hroom) d ⟨hc, hsl⟩
  intro T hT XX
  obtain ⟨v, st₀, t, T', Lc, h0, X', hLc, e1, e2, ⟨hv, hPt, hz2, hz, hk⟩, stp⟩ := hR T hT XX
  cases hv
  rw [h0] at hz hk
  have hS' : va_S (yA g) s.heap T'.heap (locs ++ Lc) := ⟨Nat.le_trans hS.1 (by rw [e1]; exact hz), fun q h1 h2 => by rw [e1, hk q (Nat.lt_of_lt_of_le h1 hS.1) h2]; exact hS.2.1 q h1 h2, fun q hq => by
      rcases List.mem_append.mp hq with h | h
      · exact hS.2.2 q h
      · exact hLc q h⟩
  obtain ⟨t2, a1, b1⟩ := kk T'.heap (locs ++ Lc) ls hS' (by rw [e1]; exact hPt) (by rw [e1]; exact hz2) hlv T' rfl X'
  exact ⟨t2, stp t2 a1, b1⟩
/-! the finished world -/
def okR (rm : RM) : Bool := (List.range 94).all fun a =>
  if (xSH a).1 < 8 then (List.range (xSH a).2).all fun k => xOFF (xSH a).1 k == 0 || rm a k == some (a + xOFF (xSH a).1 k)
  else if (xSH a).1 = 8 then true
  else if (xSH a).1 = 9 then (List.range (xSH a).2).all fun i => rm a i == some (a + 2 + i)
  else (List.range (xSH a).2).all fun i => rm a i == some (a + 2 + 2 * i)
theorem arrV_cg {cA : ClassId} {n : Nat} {f h : Nat → Value} (e : ∀ j, j < n → f j = h j) : arrV cA n f = arrV cA n h := by
  unfold arrV
  congr 2
  funext j
  exact e j.val j.isLt
theorem z_world {im : IM} {rm : RM} {H : Heap} (hr : okR rm = true) (hP : va_P g.2.1 vwCl (yWl g (94, im, rm)) H) : va_P g.2.1 vwCl (xWl g im) H := by
  intro k q hk
  have hk94 : k < 94 := by
    rcases Nat.lt_or_ge k 94 with h | h
    · exact h
    · unfold xWl at hk
      rw [List.getElem?_eq_none (by simp; omega)] at hk
      cases hk
  have hx : (xWl g im)[k]? = some (g.1 k, xEnt g im k (xSH k)) := by
    unfold xWl
    rw [List.getElem?_map, List.getElem?_range hk94]; rfl
  rw [hx] at hk
  cases hk
  have h1 := hP k _ (yWl_at (u := (94, im, rm)) hk94 rfl)
  have h2 := List.all_eq_true.mp hr k (List.mem_range.mpr hk94)
  revert h1 h2
  show va_at _ _ (g.1 k, yEnt g im rm k (xSH k)) H → _ → va_at _ _ (g.1 k, xEnt g im k (xSH k)) H
  unfold yEnt xEnt
  generalize xSH k = q
  obtain ⟨ci, N⟩ := q
  intro h1 h2
  by_cases c1 : ci < 8
  · simp only [c1, if_true] at h1 h2 ⊢
    have e : (List.range N).map (yFld g im rm k ci) = (List.range N).map (xFld g im k ci) := by
      apply List.map_congr_left
      intro j hj
      have h3 := List.all_eq_true.mp h2 j hj
      unfold yFld xFld
      by_cases h4 : xOFF ci j = 0
      · simp [h4]
      · have h5 : rm k j = some (k + xOFF ci j) := by simpa [h4] using h3
        simp [h4, h5, va_rf]
    rw [← e]
    exact h1
  · by_cases c2 : ci = 8
    · simp only [c1, c2, if_true, if_false] at h1 h2 ⊢
      simpa using h1
    · by_cases c3 : ci = 9
      · subst c3
        simp only [c1, if_true, if_false] at h1 h2 ⊢
        simp only [show ¬ (9 : Nat) < 8 by decide, show ¬ (9 : Nat) = 8 by decide, if_true, if_false] at h1 h2 ⊢
        refine h1.trans ?_
        congr 1
        rw [vp_cell_q, vp_cell_q]
        refine arrV_cg fun j hj => ?_
        have h3 := List.all_eq_true.mp h2 j (List.mem_range.mpr hj)
        have h5 : rm k j = some (k + 2 + j) := by simpa using h3
        simp [h5]
      · simp only [c1, c2, c3, if_true, if_false] at h1 h2 ⊢
        refine h1.trans ?_
        congr 1
        rw [vp_cell_q, vp_cell_q]
        refine arrV_cg fun j hj => ?_
        have h3 := List.all_eq_true.mp h2 j (List.mem_range.mpr hj)
        have h5 : rm k j = some (k + 2 + 2 * j) := by simpa using h3
        simp [h5]
end YLR
/-- what the ints are behind both constructors -/
def zI0 : IM := cI_X7 (upA (cI_X6 (upA (fun _ _ => 0) 0 (fun _ => 0))) 82 (fun _ => 0))
def zR0 : RM := cR_X7 (upR (cR_X6 (upR (fun _ _ => none) 0 (fun _ => none))) 82 (fun _ => none))
theorem z_ok : okR zR0 = true := by decide +kernel
/-! what the Statement gives of the start -/
abbrev zT : Cond := Jvm.Cond.and given_1 narrow_1
abbrev zs (i : Nat) : Term := .string "RollTown$Reader" (xSTI.getD i 0)
theorem z_ex : ∀ i, i < 19 → Cond.exactly (zs i) "java/lang/String" ∈ flatC zT := by decide +kernel
theorem z_co : ∀ i, i < 19 → Cond.eq (.field (zs i) "java/lang/String" "coder" "B") (.int 0) ∈ flatC zT := by decide +kernel
theorem z_ar : ∀ i, i < 19 → Cond.arrayOf (.field (zs i) "java/lang/String" "value" "[B") .byte ∈ flatC zT := by decide +kernel
theorem z_le : ∀ i, i < 19 → Cond.eq (.length (.field (zs i) "java/lang/String" "value" "[B")) (.int (Int32.ofNat (xLEN.getD i 0))) ∈ flatC zT := by decide +kernel
theorem z_el : ∀ i, i < 19 → ∀ j, j < xLEN.getD i 0 → Cond.eq (.elem (.field (zs i) "java/lang/String" "value" "[B") (.int (Int32.ofNat j))) (.int ((xBYT.getD i []).getD j 0)) ∈ flatC zT := by decide +kernel
def zpick : Cond → Option (Nat × Nat)
  | .not (.eq (.string o a) (.string q b)) => if o = "RollTown$Reader" ∧ q = "RollTown$Reader" then some (a, b) else none
  | _ => none
def zP : List (Nat × Nat) := [(172, 174), (172, 176), (174, 176), (172, 178), (174, 178), (176, 178), (172, 180), (174, 180), (176, 180), (178, 180), (172, 130), (174, 130), (176, 130), (178, 130), (180, 130), (172, 182), (174, 182), (176, 182), (178, 182), (180, 182), (130, 182), (172, 184), (174, 184), (176, 184), (178, 184), (180, 184), (130, 184), (182, 184), (172, 186), (174, 186), (176, 186), (178, 186), (180, 186), (130, 186), (182, 186), (184, 186), (172, 188), (174, 188), (176, 188), (178, 188), (180, 188), (130, 188), (182, 188), (184, 188), (186, 188), (172, 190), (174, 190), (176, 190), (178, 190), (180, 190), (130, 190), (182, 190), (184, 190), (186, 190), (188, 190), (172, 192), (174, 192), (176, 192), (178, 192), (180, 192), (130, 192), (182, 192), (184, 192), (186, 192), (188, 192), (190, 192), (172, 194), (174, 194), (176, 194), (178, 194), (180, 194), (130, 194), (182, 194), (184, 194), (186, 194), (188, 194), (190, 194), (192, 194), (172, 148), (174, 148), (176, 148), (178, 148), (180, 148), (130, 148), (182, 148), (184, 148), (186, 148), (188, 148), (190, 148), (192, 148), (194, 148), (172, 154), (174, 154), (176, 154), (178, 154), (180, 154), (130, 154), (182, 154), (184, 154), (186, 154), (188, 154), (190, 154), (192, 154), (194, 154), (148, 154), (172, 158), (174, 158), (176, 158), (178, 158), (180, 158), (130, 158), (182, 158), (184, 158), (186, 158), (188, 158), (190, 158), (192, 158), (194, 158), (148, 158), (154, 158), (172, 105), (174, 105), (176, 105), (178, 105), (180, 105), (130, 105), (182, 105), (184, 105), (186, 105), (188, 105), (190, 105), (192, 105), (194, 105), (148, 105), (154, 105), (158, 105), (172, 121), (174, 121), (176, 121), (178, 121), (180, 121), (130, 121), (182, 121), (184, 121), (186, 121), (188, 121), (190, 121), (192, 121), (194, 121), (148, 121), (154, 121), (158, 121), (105, 121), (172, 110), (174, 110), (176, 110), (178, 110), (180, 110), (130, 110), (182, 110), (184, 110), (186, 110), (188, 110), (190, 110), (192, 110), (194, 110), (148, 110), (154, 110), (158, 110), (105, 110), (121, 110)]
theorem z_P : (flatC zT).filterMap zpick = zP := by decide +kernel
theorem z_pk {a b : Nat} (h : (a, b) ∈ zP) : Cond.not (Cond.eq (.string "RollTown$Reader" a) (.string "RollTown$Reader" b)) ∈ flatC zT := by
  rw [← z_P] at h
  obtain ⟨q, h1, h2⟩ := List.mem_filterMap.mp h
  unfold zpick at h2
  split at h2
  · split at h2
    · rename_i h3
      obtain ⟨rfl, rfl⟩ := h3
      cases h2
      exact h1
    · cases h2
  · cases h2
theorem z_ne1 : ∀ i, i < 19 → ∀ j, j < 19 → (i == j || zP.contains (xSTI.getD i 0, xSTI.getD j 0) || zP.contains (xSTI.getD j 0, xSTI.getD i 0)) = true := by decide +kernel
theorem z_ne0 : ∀ i, i < 19 → ∀ j, j < 19 → i ≠ j → (xSTI.getD i 0, xSTI.getD j 0) ∈ zP ∨ (xSTI.getD j 0, xSTI.getD i 0) ∈ zP := by
  intro i hi j hj hn
  have h := z_ne1 i hi j hj
  simp only [Bool.or_eq_true, beq_iff_eq, List.contains_iff_mem, hn, false_or] at h
  exact h
theorem z_ne : ∀ i, i < 19 → ∀ j, j < 19 → i ≠ j → Cond.not (Cond.eq (zs i) (zs j)) ∈ flatC zT ∨ Cond.not (Cond.eq (zs j) (zs i)) ∈ flatC zT := fun i hi j hj hn => (z_ne0 i hi j hj hn).imp z_pk z_pk
theorem z_sr : ∀ i, i < 19 → Cond.stringRef "RollTown$Reader" (xSTI.getD i 0) (xSTT.getD i "") ∈ lw_tbl := by decide +kernel
theorem z_pd : ∀ j, j < 5 → Cond.eq (.elem (.static "RollTown" "PLAIN_DRAG" "[I") (.int (Int32.ofNat j))) (.int (xPD j)) ∈ flatC zT := by decide +kernel
theorem z_ka : ∀ j, j < 7 → Cond.eq (.elem (.static "RollTown" "KIND_ABOVE" "[I") (.int (Int32.ofNat j))) (.int (xKA j)) ∈ flatC zT := by decide +kernel
theorem z_in : ∀ (c : Nat) (r : vw_C), vwCl[c]? = some r → (∀ w ∈ u_ws r.1 r.2.1 r.2.2, w ∈ xT) ∧ Cond.instantiable r.1 r.2.2 ∈ lw_tbl := by
  intro c r h
  have hk : c = 0 ∨ c = 1 ∨ c = 2 ∨ c = 3 ∨ c = 4 ∨ c = 5 ∨ c = 6 ∨ c = 7 := by
    have := (List.getElem?_eq_some_iff.mp h).1
    have e : vwCl.length = 8 := rfl
    omega
  rcases hk with rfl | rfl | rfl | rfl | rfl | rfl | rfl | rfl <;> cases h
  · exact ⟨in_X0, in_tbl (List.mem_of_getElem? (i := 154) (by decide +kernel))⟩
  · exact ⟨in_X1, in_tbl (List.mem_of_getElem? (i := 164) (by decide +kernel))⟩
  · exact ⟨in_X2, in_tbl (List.mem_of_getElem? (i := 130) (by decide +kernel))⟩
  · exact ⟨in_X3, in_tbl (List.mem_of_getElem? (i := 206) (by decide +kernel))⟩
  · exact ⟨in_X4, in_tbl (List.mem_of_getElem? (i := 32) (by decide +kernel))⟩
  · exact ⟨in_X5, in_tbl (List.mem_of_getElem? (i := 25) (by decide +kernel))⟩
  · exact ⟨in_X6, in_tbl (List.mem_of_getElem? (i := 17) (by decide +kernel))⟩
  · exact ⟨in_X7, in_tbl (List.mem_of_getElem? (i := 919) (by decide +kernel))⟩
set_option maxHeartbeats 4000000 in
theorem z_start {p : Program} {s : State} {m : MethodId} {meth : Method} {c : Code} {b L : Nat} {xs : Nat → Int32} (C0 : lw_At p s m meth c b L xs) : ∃ g : GX, xKK g s s.heap ∧ yE g s ∧ (∀ a, g.1 a = s.heap.size + a) := by
  obtain ⟨hx, hcode, hr, hml, hown, hts, hX, hbl, hlocks, hgv⟩ := C0
  have hs := flat_of_before _ hgv
  have hxt : ∀ w ∈ xT, w ∈ lw_tbl := fun w hw => (List.mem_filter.mp hw).1
  -- classes
  have hcl : ∀ k : Nat, ∃ q : ClassId × (Nat → Nat), ∀ r : vw_C, vwCl[k]? = some r → u_Kn s r.1 r.2.1 r.2.2 q.1 q.2 := by
    intro k
    cases h : vwCl[k]? with
    | none => exact ⟨(0, fun _ => 0), fun r h2 => by cases h2⟩
    | some r =>
      obtain ⟨h1, h2⟩ := z_in k r h
      obtain ⟨cC, iS, h3⟩ := u_known hts (fun w hw => hxt w (h1 w hw)) (hts _ h2)
      exact ⟨(cC, iS), fun r' h4 => by cases h4; exact h3⟩
  obtain ⟨D, hD⟩ := Classical.axiomOfChoice hcl
  -- array classes
  have hai : (Cond.arrayClass .int).before #[Value.ref b] s = true := hts _ (in_tbl (List.mem_of_getElem? (i := 82) (by decide +kernel)))
  obtain ⟨cI, kI, compI, i1, i2, i3⟩ := Cond.arrayClass_spec hai
  have haT : va_AO "RollTown$Thing" s := va_AO.of (hts _ (in_tbl (List.mem_of_getElem? (i := 31) (by decide +kernel))))
  have haS : va_AO "RollTown$Sheet" s := va_AO.of (hts _ (in_tbl (List.mem_of_getElem? (i := 205) (by decide +kernel))))
  obtain ⟨compT, cT, kT, t1, t2, t3, t4, t5⟩ := Cond.arrayOver_spec haT
  obtain ⟨compS, cS, kS, s1, s2, s3, s4, s5⟩ := Cond.arrayOver_spec haS
  -- addresses
  let A : Nat → Prop := fun q => ∃ a, a < 94 ∧ q = s.heap.size + a
  have hA : ∀ a : Nat, a < s.heap.size → ¬ A a := by
    intro a ha ⟨k, hk, e⟩
    omega
  -- statics
  obtain ⟨pd, p1, p2⟩ := va_Tof (N := 5) (f := fun j => .int (xPD j)) (A := A) (by decide) (hs (.arrayOf (.static "RollTown" "PLAIN_DRAG" "[I") .int) (by decide +kernel)) (va_eqt (hs (.eq (.length (.static "RollTown" "PLAIN_DRAG" "[I")) (.int 5)) (by decide +kernel))) (fun j hj => va_eqt (hs _ (z_pd j hj))) hA
  obtain ⟨ka, q1, q2⟩ := va_Tof (N := 7) (f := fun j => .int (xKA j)) (A := A) (by decide) (hs (.arrayOf (.static "RollTown" "KIND_ABOVE" "[I") .int) (by decide +kernel)) (va_eqt (hs (.eq (.length (.static "RollTown" "KIND_ABOVE" "[I")) (.int 7)) (by decide +kernel))) (fun j hj => va_eqt (hs _ (z_ka j hj))) hA
  have hiR : (Cond.initialized "RollTown").before #[Value.ref b] s = true := hts _ (in_tbl (List.mem_of_getElem? (i := 1) (by decide +kernel)))
  have z1 := va_Zof (hts _ (in_tbl (List.mem_of_getElem? (i := 358) (by decide +kernel)))) hiR p1 hA
  have z3 := va_Zof (hts _ (in_tbl (List.mem_of_getElem? (i := 842) (by decide +kernel)))) hiR q1 hA
  have z5 := va_Zof (hts _ (in_tbl (List.mem_of_getElem? (i := 737) (by decide +kernel)))) (hts _ (in_tbl (List.mem_of_getElem? (i := 12) (by decide +kernel)))) (va_eqi (hs (.eq (.static "java/lang/String" "COMPACT_STRINGS" "Z") (.int 1)) (by decide +kernel))) hA
  obtain ⟨fv, f1, f2⟩ := Cond.isRef_spec (hs (.isRef (.static "jdk/internal/util/Preconditions" "SIOOBE_FORMATTER" "Ljava/util/function/BiFunction;")) (by decide +kernel))
  have hfv : ∃ o : Option Nat, fv = va_rf o := by
    cases fv with
    | null => exact ⟨none, rfl⟩
    | ref a => exact ⟨some a, rfl⟩
    | _ => simp [Value.isRef] at f2
  obtain ⟨fo, rfl⟩ := hfv
  have z6 := va_Zof (hts _ (in_tbl (List.mem_of_getElem? (i := 753) (by decide +kernel)))) (hts _ (in_tbl (List.mem_of_getElem? (i := 14) (by decide +kernel)))) f1 hA
  -- texts
  obtain ⟨adK, adV, k1, k2⟩ := vk_Sof (N := 19) (tm := zs) (len := xLEN) (byt := xBYT) (A := A) (by decide +kernel) (fun i hi => hs _ (z_ex i hi)) (fun i hi => hs _ (z_co i hi)) (fun i hi => hs _ (z_ar i hi)) (fun i hi => hs _ (z_le i hi)) (fun i hi j hj => hs _ (z_el i hi j hj)) (fun i j hi hj hn => (z_ne i hi j hj hn).imp (fun h => hs _ h) (fun h => hs _ h)) hA
  refine ⟨(fun a => s.heap.size + a, (fun k => (D k).1, fun k => (D k).2), (cI, cT, cS), (adK, adV), (pd, ka), fo), ⟨fun w hw => va_tabs (xok_on (List.mem_filter.mp hw).2) rfl (hts w (hxt w hw)), ⟨fun k r h => hD k r h, ?_⟩, fun a b _ _ h => by have h : s.heap.size + a = s.heap.size + b := h; omega, z1, p2, z3, q2, z5, z6, k1, fun i hi => vk_R.of (hts _ (z_sr i hi)) (k2 i hi)⟩, ⟨haT, haS, fun a => by show s.heap.size + a = s.heap.size + 0 + a; omega, _, hai⟩, fun a => rfl⟩
  intro k q hk
  have hk3 : k = 0 ∨ k = 1 ∨ k = 2 := by
    have := (List.getElem?_eq_some_iff.mp hk).1
    have : k < 3 := this
    omega
  rcases hk3 with rfl | rfl | rfl <;> cases hk
  · exact ⟨fun n z => ⟨fun k h => (by cases h), kI, i2, compI, i3⟩, i1⟩
  · exact ⟨fun n z => ⟨fun k h => (by cases h), kT, t3, compT, t4⟩, kT, compT, t3, t4, t1, t5⟩
  · exact ⟨fun n z => ⟨fun k h => (by cases h), kS, s3, compS, s4⟩, kS, compS, s3, s4, s1, s5⟩
set_option maxHeartbeats 4000000 in
/-- the law's entry, open in the pure statements -/
theorem start_open {Inv : IM → Prop} (hp : LAWP Inv) (h0 : Inv zI0) {p : Program} {e : Env} {s : State} {m : MethodId} {below : List Frame} {meth : Method} {c : Code} (l : Launch) {b L : Nat} {xs : Nat → Int32} (hL : L ≤ 384) (C0 : lw_At p s m meth c b L xs) : W p l e room_1 s m #[Value.ref b] below meth c s.heap [] 0 0 (lw_Z below #[Value.ref b] s) (entryFrame m ([Value.ref b] : List Value).toArray 4) := by
  obtain ⟨g, hK, hE, hg⟩ := z_start C0
  have hbase : s.heap.size = g.1 0 := by rw [hg 0]; rfl
  have hC : xLc p s m meth c b L xs g := ⟨C0, hK, fun q ⟨a, ha, e⟩ => by rw [e, hg a]; omega, hL⟩
  have hl := lv_entry [Value.ref b] (n := 4) (Nat.le_of_ble_eq_true rfl)
  rw [lg_entry_eq]
  have main : yL p l e s m below meth c b g 0 [(0, .ref b)] [] 0 0 (0, fun _ _ => 0, fun _ _ => none) := by
    refine z_new hC hE (C := RX6) (T := TX6) tyX6 tyX6_ok sh_0 (by decide) rfl in_X6 z_new0 (df_6 _) (by decide) (by decide) dL_law_0 ?_
    refine z_dup hC rfl dL_law_3 ?_
    refine z_call hC hE hbase (a := 0) (y_X6_init _ _) (Nat.le_of_ble_eq_true rfl) rfl (by decide) (by decide) z_ct0 z_cd0 z_d0 (Nat.le_of_ble_eq_true rfl) (by decide) (by decide) dL_law_4 ?_
    refine z_astore hC (lv' := [(1, .ref (g.1 0)), (0, .ref b)]) rfl dL_law_7 (by decide) rfl ?_
    refine z_new hC hE (C := RX7) (T := TX7) tyX7 tyX7_ok sh_82 (by decide) rfl in_X7 z_new1 (df_7 _) (by decide) (by decide) dL_law_8 ?_
    refine z_dup hC rfl dL_law_11 ?_
    refine z_call hC hE hbase (a := 82) (y_X7_init _ _) (Nat.le_of_ble_eq_true rfl) rfl (by decide) (by decide) z_ct1 z_cd1 z_d1 (Nat.le_of_ble_eq_true rfl) (by decide) (by decide) dL_law_12 ?_
    refine z_astore hC (lv' := [(2, .ref (g.1 82)), (1, .ref (g.1 0)), (0, .ref b)]) rfl dL_law_15 (by decide) rfl ?_
    intro H locs ls hS hP hz hlv
    have hP : va_P g.2.1 vwCl (yWl g (94, zI0, zR0)) H := hP
    refine W.widen (k := 600000) (n := 7302250) (by decide) (by decide) ?_
    have hS2 : va_S (xAW g) s.heap H [] := ⟨hS.1, fun q h1 h2 => hS.2.1 q h1 (fun h3 => by have h4 : g.1 0 ≤ q := h3; omega), fun q hq => by cases hq⟩
    refine va_forget (fun q hq => by have h4 : g.1 0 ≤ q.base := hS.2.2 q hq; omega) ?_
    · have go : xL p l e s m below meth c b g 16 [(2, .ref (g.1 82)), (1, .ref (g.1 0)), (0, .ref b)] [] zI0 := by
        refine l_iconst hC (v := nI 0) (by decide) dL_law_16 ?_
        refine l_istore_n hC (lv' := [(3, .int (nI 0)), (2, .ref (g.1 82)), (1, .ref (g.1 0)), (0, .ref b)]) rfl dL_law_17 (by decide) rfl ?_
        exact law_loop hC hp (L + 6) 0 zI0 (by omega) (by omega) h0
      exact go H [] ls hS2 (z_world z_ok hP) hlv
  exact main s.heap [] _ va_S.rf (fun k q hk => by have : (yWl g (0, fun _ _ => 0, fun _ _ => none)) = [] := rfl; rw [this] at hk; cases hk) hbase hl
