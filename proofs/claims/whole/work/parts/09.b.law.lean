/-! THE CLAIM OUT OF ONE WALK OF THE LAW'S BODY. Your part is whole_start (and what it stands on); all else here is the same for every law, but numbers. -/
def R_law : String := "RollTownLaw"
def lw_P (b : Addr) (xs : List Int32) (args : Array Value) (s : State) : Prop := args = #[.ref b] ∧ s.IntsAt b xs ∧ xs.length ≤ 384 ∧ (Jvm.Cond.and given_1 narrow_1).before args s = true
def lw_Q (_ : Array Value) (s : State) (o : Outcome) (t : State) : Prop := o = .returned (some (.int 1)) ∧ Framed s o t [] 600000 7302250
def lw_Z (below : List Frame) (a : Array Value) (s : State) : State → Prop := fun t => ∃ o, t.status = .running ∧ Ended t below o ∧ lw_Q a s o t
/-- the law's own end, with 1 on the stack, nothing written that was there before, its room as the claim has it -/
theorem lw_ret {p : Program} {l : Launch} {e : Env} {s : State} {m : MethodId} {below : List Frame} {meth : Method} {c : Code} {b : Nat} (hx : p.tables.exec = Jvm.exec) (hb : c.code = code) (hr : meth.sig.returnType = ret) (hlocks : meth.locks = false) {pc : Nat} {H : Heap} {ls : Array Slot} (hdg : decode code pc = .ok (.ireturn, 1)) : W p l e room_1 s m #[Value.ref b] below meth c H [] 600000 7302250 (lw_Z below #[Value.ref b] s) (F0 m pc ls [.int 1]) := by
  intro T hT X
  obtain ⟨fs, hret, hrun, hended, hW, hframe⟩ := X.leave (v := some (.int 1)) (hlocks := hlocks) (fun h => by rw [hr] at h; cases h)
  have hmeth' : T.vm.method? m = some meth := X.method'
  refine ⟨T.setFrames fs, ?_, .returned (some (.int 1)), hrun, hended, rfl, ⟨_, rfl⟩, hW, hframe⟩
  jvm_step X.here [X.here.top, hx, hb, hdg, hmeth', hr, ret, narrow_b1]
  (try refine ⟨rfl, ?_⟩); (try refine ⟨rfl, ?_⟩)
  first | (intro acts; rw [hret _ acts rfl rfl rfl]) | rw [hret _ _ rfl rfl rfl]
  exact Steps.refl _
/-- what holds at the law's entry: the machine, the code, the tables' words (any of lw_tbl by 'hts w (by decide +kernel)'), the script of L ints xs at the cell b, what the Statement gives of the start (any of its parts by flat_of_before) -/
def lw_At (p : Program) (s : State) (m : MethodId) (meth : Method) (c : Code) (b L : Nat) (xs : Nat → Int32) : Prop :=
  p.tables.exec = Jvm.exec ∧ c.code = code ∧ meth.sig.returnType = ret ∧ c.maxLocals = 4 ∧ s.vm.findClass R_law = some m.cls ∧ (∀ w ∈ lw_tbl, w.before #[Value.ref b] s = true) ∧ va_X b L xs s s.heap ∧ b < s.heap.size ∧ meth.locks = false ∧ (Jvm.Cond.and given_1 narrow_1).before #[Value.ref b] s = true
/-! the law's own walk -/
def xLc (p : Program) (s : State) (m : MethodId) (meth : Method) (c : Code) (b L : Nat) (xs : Nat → Int32) (g : GX) : Prop := lw_At p s m meth c b L xs ∧ xKK g s s.heap ∧ (∀ q, xAW g q → s.heap.size ≤ q) ∧ L ≤ 384
def xL (p : Program) (l : Launch) (e : Env) (s : State) (m : MethodId) (below : List Frame) (meth : Method) (c : Code) (b : Nat) (g : GX) (pc : Nat) (lv : List (Nat × Value)) (st : List Value) (im : IM) : Prop :=
  ∀ (H : Heap) (locs : List Loc) (ls : Array Slot), va_S (xAW g) s.heap H locs → va_P g.2.1 vwCl (xWl g im) H → lv_has ls 4 lv →
    W p l e room_1 s m #[Value.ref b] below meth c H locs 600000 7302250 (lw_Z below #[Value.ref b] s) (F0 m pc ls st)
section XLR
variable {p : Program} {l : Launch} {e : Env} {s : State} {m : MethodId} {below : List Frame} {meth : Method} {c : Code} {b L : Nat} {xs : Nat → Int32} {g : GX} {pc : Nat} {lv : List (Nat × Value)} {st : List Value} {im : IM}
theorem l_iconst (hC : xLc p s m meth c b L xs g) {n : Int} {v : Int32} (hv : Int32.ofInt n = v) (d : decode cL_law pc = .ok (.iconst n, 1)) (k : xL p l e s m below meth c b g (pc + 1) lv (.int v :: st) im) : xL p l e s m below meth c b g pc lv (st) im := by
  intro H locs ls hS hP hl
  exact lv_iconst hC.1.1 hC.1.2.1 d hv (k H locs ls hS hP hl)
theorem l_bipush (hC : xLc p s m meth c b L xs g) {n : Int} {v : Int32} (hv : (Int8.ofInt n).toInt32 = v) (d : decode cL_law pc = .ok (.bipush n, 2)) (k : xL p l e s m below meth c b g (pc + 2) lv (.int v :: st) im) : xL p l e s m below meth c b g pc lv (st) im := by
  intro H locs ls hS hP hl
  exact lv_bipush hC.1.1 hC.1.2.1 d hv (k H locs ls hS hP hl)
theorem l_iload_n (hC : xLc p s m meth c b L xs g) {k : Fin 4} {i q : Nat} {x : Int32} (hi : (k : Nat) = i) (hq : lv[q]? = some (i, .int x)) (d : decode cL_law pc = .ok (.iload_n k, 1)) (k : xL p l e s m below meth c b g (pc + 1) lv (.int x :: st) im) : xL p l e s m below meth c b g pc lv (st) im := by
  intro H locs ls hS hP hl
  exact lv_iload_n hC.1.1 hC.1.2.1 d hi (lv_at hl q hq) (k H locs ls hS hP hl)
theorem l_aload_n (hC : xLc p s m meth c b L xs g) {k : Fin 4} {i q : Nat} {x : Nat} (hi : (k : Nat) = i) (hq : lv[q]? = some (i, .ref x)) (d : decode cL_law pc = .ok (.aload_n k, 1)) (k : xL p l e s m below meth c b g (pc + 1) lv (.ref x :: st) im) : xL p l e s m below meth c b g pc lv (st) im := by
  intro H locs ls hS hP hl
  exact lv_aload_n hC.1.1 hC.1.2.1 d hi (lv_at hl q hq) (k H locs ls hS hP hl)
theorem l_iand (hC : xLc p s m meth c b L xs g) {x y : Int32} (d : decode cL_law pc = .ok (.iand, 1)) (k : xL p l e s m below meth c b g (pc + 1) lv (.int (x &&& y) :: st) im) : xL p l e s m below meth c b g pc lv (.int y :: .int x :: st) im := by
  intro H locs ls hS hP hl
  exact lv_iand hC.1.1 hC.1.2.1 d (k H locs ls hS hP hl)
theorem l_isub (hC : xLc p s m meth c b L xs g) {x y : Int32} (d : decode cL_law pc = .ok (.isub, 1)) (k : xL p l e s m below meth c b g (pc + 1) lv (.int (x - y) :: st) im) : xL p l e s m below meth c b g pc lv (.int y :: .int x :: st) im := by
  intro H locs ls hS hP hl
  exact lv_isub hC.1.1 hC.1.2.1 d (k H locs ls hS hP hl)
theorem l_iadd (hC : xLc p s m meth c b L xs g) {j k : Nat} (d : decode cL_law pc = .ok (.iadd, 1)) (kk : xL p l e s m below meth c b g (pc + 1) lv (.int (nI (j + k)) :: st) im) : xL p l e s m below meth c b g pc lv (.int (nI k) :: .int (nI j) :: st) im := by
  intro H locs ls hS hP hl
  refine lv_iadd hC.1.1 hC.1.2.1 d ?_
  rw [nI_add]
  exact kk H locs ls hS hP hl
theorem l_sld (hC : xLc p s m meth c b L xs g) {j : Nat} (hj : j < L) (d : decode cL_law pc = .ok (.iaload, 1)) (kk : xL p l e s m below meth c b g (pc + 1) lv (.int (xs j) :: st) im) : xL p l e s m below meth c b g pc lv (.int (nI j) :: .ref b :: st) im := by
  intro H locs ls hS hP hl
  have hL := hC.2.2.2
  refine va_sld hC.1.1 hC.1.2.1 hC.1.2.2.2.2.2.2.1 hC.1.2.2.2.2.2.2.2.1 (fun h => absurd (hC.2.2.1 b h) (Nat.not_le.mpr hC.1.2.2.2.2.2.2.2.1)) hS (vp_in_nI hj (by omega)) d ?_
  rw [nI_clamp (by omega)]
  exact kk H locs ls hS hP hl
theorem l_slen (hC : xLc p s m meth c b L xs g) (d : decode cL_law pc = .ok (.arraylength, 1)) (kk : xL p l e s m below meth c b g (pc + 1) lv (.int (nI L) :: st) im) : xL p l e s m below meth c b g pc lv (.ref b :: st) im := by
  intro H locs ls hS hP hl
  exact va_slen hC.1.1 hC.1.2.1 hC.1.2.2.2.2.2.2.1 hC.1.2.2.2.2.2.2.2.1 (fun h => absurd (hC.2.2.1 b h) (Nat.not_le.mpr hC.1.2.2.2.2.2.2.2.1)) hS d (kk H locs ls hS hP hl)
theorem l_eq (hC : xLc p s m meth c b L xs g) {x : Int32} {off : Int} {tgt : Nat} (d : decode cL_law pc = .ok (.if_icmp .eq off, 3)) (ht : (pc : Int) + off = (tgt : Int)) (kk : xL p l e s m below meth c b g tgt lv st im) : xL p l e s m below meth c b g pc lv (.int x :: .int x :: st) im := by
  intro H locs ls hS hP hl
  exact lv_icmp_eq hC.1.1 hC.1.2.1 d ht (fun _ => kk H locs ls hS hP hl) (fun h => absurd rfl h)
theorem l_gt (hC : xLc p s m meth c b L xs g) {x y : Int32} {off : Int} {tgt : Nat} (d : decode cL_law pc = .ok (.if_icmp .gt off, 3)) (ht : (pc : Int) + off = (tgt : Int)) (kt : y < x → xL p l e s m below meth c b g tgt lv st im) (kf : ¬ y < x → xL p l e s m below meth c b g (pc + 3) lv st im) : xL p l e s m below meth c b g pc lv (.int y :: .int x :: st) im := by
  intro H locs ls hS hP hl
  exact lv_icmp_gt hC.1.1 hC.1.2.1 d ht (fun h => kt h H locs ls hS hP hl) (fun h => kf h H locs ls hS hP hl)
theorem l_goto (hC : xLc p s m meth c b L xs g) {off : Int} {tgt : Nat} (d : decode cL_law pc = .ok (.goto off, 3)) (ht : (pc : Int) + off = (tgt : Int)) (kk : xL p l e s m below meth c b g tgt lv st im) : xL p l e s m below meth c b g pc lv st im := by
  intro H locs ls hS hP hl
  exact lv_goto hC.1.1 hC.1.2.1 d ht (kk H locs ls hS hP hl)
theorem l_iinc (hC : xLc p s m meth c b L xs g) {i q j : Nat} {lv' : List (Nat × Value)} (d : decode cL_law pc = .ok (.iinc i 6, 3)) (hq : lv[q]? = some (i, .int (nI j))) (hn : i < 4) (hl' : (i, Value.int (nI (j + 6))) :: lv.filter (fun q => !(q.1 == i) && !(q.1 + 1 == i && q.2.category == 2)) = lv') (kk : xL p l e s m below meth c b g (pc + 3) lv' st im) : xL p l e s m below meth c b g pc lv st im := by
  intro H locs ls hS hP hl
  exact lv_iinc hC.1.1 hC.1.2.1 d hl hq (nI_add j 6) hn hl' (fun ls' h' => kk H locs ls' hS hP h')
theorem l_istore_n (hC : xLc p s m meth c b L xs g) {k : Fin 4} {i : Nat} {x : Int32} {lv' : List (Nat × Value)} (hi : (k : Nat) = i) (d : decode cL_law pc = .ok (.istore_n k, 1)) (hn : i < 4) (hl' : (i, Value.int x) :: lv.filter (fun q => !(q.1 == i) && !(q.1 + 1 == i && q.2.category == 2)) = lv') (kk : xL p l e s m below meth c b g (pc + 1) lv' st im) : xL p l e s m below meth c b g pc lv (.int x :: st) im := by
  intro H locs ls hS hP hl
  exact lv_istore_n hC.1.1 hC.1.2.1 d hi hl hn hl' (fun ls' h' => kk H locs ls' hS hP h')
theorem l_tsw (hC : xLc p s m meth c b L xs g) {dflt lo hi off : Int} {offs : Array Int} {len tgt : Nat} {x : Int32} (d : decode cL_law pc = .ok (.tableswitch dflt lo hi offs, len)) (h1 : ¬ x.toInt < lo) (h2 : ¬ hi < x.toInt) (ho : offs[(x.toInt - lo).toNat]? = some off) (ht : (pc : Int) + off = (tgt : Int)) (k : xL p l e s m below meth c b g tgt lv st im) : xL p l e s m below meth c b g pc lv (.int x :: st) im := by
  intro H locs ls hS hP hl
  exact lv_tableIn hC.1.1 hC.1.2.1 d h1 h2 ho ht (k H locs ls hS hP hl)
theorem l_tsd (hC : xLc p s m meth c b L xs g) {dflt lo hi : Int} {offs : Array Int} {len tgt : Nat} {x : Int32} (d : decode cL_law pc = .ok (.tableswitch dflt lo hi offs, len)) (h : x.toInt < lo ∨ hi < x.toInt) (ht : (pc : Int) + dflt = (tgt : Int)) (k : xL p l e s m below meth c b g tgt lv st im) : xL p l e s m below meth c b g pc lv (.int x :: st) im := by
  intro H locs ls hS hP hl
  exact lv_tableOut hC.1.1 hC.1.2.1 d h ht (k H locs ls hS hP hl)
theorem l_sub {lv' : List (Nat × Value)} (ks : List Nat) (hl' : lv_pick lv ks = lv') (k : xL p l e s m below meth c b g pc lv' st im) : xL p l e s m below meth c b g pc lv st im := by
  intro H locs ls hS hP hl
  exact k H locs ls hS hP (lv_sub hl ks hl')
theorem l_end (hC : xLc p s m meth c b L xs g) (d : decode cL_law pc = .ok (.iconst 1, 1)) (d2 : decode cL_law (pc + 1) = .ok (.ireturn, 1)) : xL p l e s m below meth c b g pc lv [] im := by
  intro H locs ls hS hP hl
  refine lv_iconst hC.1.1 hC.1.2.1 d (v := 1) (by decide) ?_
  refine va_forget (fun q hq => hC.2.2.1 _ (hS.2.2 q hq)) ?_
  exact lw_ret hC.1.1 hC.1.2.1 hC.1.2.2.1 hC.1.2.2.2.2.2.2.2.2.1 d2
variable {lev' nL' : Nat} {y : MethodName} {cc' : ByteArray} {ret' : Option FieldType} {index n : Nat}
theorem l_call (hC : xLc p s m meth c b L xs g) {a ci nf : Nat} {T : u_T} {av : List Value} {stk : List Value} {rv : Option Value × IM} (hM : xMet g lev' y cc' nL' ret' (.ref (g.1 a) :: av) im rv) (hs : xSH a = (ci, nf)) (hc : ci < 8) (hcl : vwCl[ci]? = some (y.cls, T, nf)) (hstk : stk = av.reverse ++ .ref (g.1 a) :: st) (hlev : lev' < 14) (hnL : nL' ≤ 18) (hl' : xLinkV RL index y) (hcode : Cond.code y cc' nL' ret' ∈ xT) (hd : xD y n) (hn : av.length = n) (hroom : (st.map fun v => v.category).sum ≤ 8) (d : decode cL_law pc = .ok (.invokevirtual index, 3))
    (kk : xL p l e s m below meth c b g (pc + 3) lv (rv.1.toList ++ st) rv.2) : xL p l e s m below meth c b g pc lv stk im := by
  intro H locs ls hS hP hl
  subst hstk
  obtain ⟨hlink, hin, hse, hini⟩ := hl'
  have hK := hC.2.1
  have hlen : ∀ sig, parseMethodDescriptor y.desc = some sig → n = sig.parameters.length := fun sig h => by
    have h2 := hd.2.2
    rw [h] at h2
    exact (Option.some.inj h2).symm
  have hpre : PreV s H y.cls (g.1 a) (va_Pc (.ref (g.1 a) :: av) (xPre g im)) av := ⟨x_blind, x_recv hK.2.1 hP hs hc hcl, fun U hU hW => ⟨rfl, by rw [hU]; exact hK.warm hW hS.2.1, by rw [hU]; exact hP⟩⟩
  have hrm : (xR lev').frames + 1 ≤ room_1.frames ∧ 8 + (nL' + 11) + (xR lev').locals ≤ room_1.locals := by
    simp only [xR, room_1]
    omega
  have hR := va_runV (p := p) (l := l) (e := e) (R := room_1) (args := #[Value.ref b]) (below := below) (meth := meth) (locs := locs) (cells := 600000) (slots := 7302250) (Ts := []) (g := F0 m pc ls (av.reverse ++ .ref (g.1 a) :: st)) (rest := st) ⟨hC.1.1, hC.1.2.1, hC.1.2.2.2.1, hC.1.2.2.2.2.1, fun _ h => absurd h List.not_mem_nil⟩ (hM l) ⟨⟨rfl, rfl, hrm.1, hrm.2, x_wstat (args := #[Value.ref b]) hK hcode, List.mem_singleton.mpr rfl, xT_use hK hcode, xT_use hK hini, ⟨hd.1, hd.2.1⟩, hlen, xT_use hK hlink⟩, xT_use hK hin, xT_use hK hse⟩ hpre rfl hn hl.1 rfl (lv_room hroom) d ⟨Nat.le_refl _, Nat.le_refl _⟩
  intro T0 hT XX
  obtain ⟨v, st₀, t, T', Lc, h0, X', hLc, e1, e2, ⟨hv, hPt, hz, hk⟩, stp⟩ := hR T0 hT XX
  cases hv
  rw [h0] at hz hk
  have hS' : va_S (xAW g) s.heap T'.heap (locs ++ Lc) := ⟨Nat.le_trans hS.1 (by rw [e1]; exact hz), fun q h1 h2 => by rw [e1, hk q (Nat.lt_of_lt_of_le h1 hS.1) h2]; exact hS.2.1 q h1 h2, fun q hq => by
      rcases List.mem_append.mp hq with h | h
      · exact hS.2.2 q h
      · exact hLc q h⟩
  obtain ⟨t2, a1, b1⟩ := kk T'.heap (locs ++ Lc) ls hS' (by rw [e1]; exact hPt) hl T' rfl X'
  exact ⟨t2, stp t2 a1, b1⟩
theorem l_callI (hC : xLc p s m meth c b L xs g) {a ci nf : Nat} {T : u_T} {av : List Value} {stk : List Value} {r : Int32} {m1 : IM} (hM : xMet g lev' y cc' nL' ret' (.ref (g.1 a) :: av) im (eI (r, m1))) (hs : xSH a = (ci, nf)) (hc : ci < 8) (hcl : vwCl[ci]? = some (y.cls, T, nf)) (hstk : stk = av.reverse ++ .ref (g.1 a) :: st) (hlev : lev' < 14) (hnL : nL' ≤ 18) (hl' : xLinkV RL index y) (hcode : Cond.code y cc' nL' ret' ∈ xT) (hd : xD y n) (hn : av.length = n) (hroom : (st.map fun v => v.category).sum ≤ 8) (d : decode cL_law pc = .ok (.invokevirtual index, 3))
    (kk : xL p l e s m below meth c b g (pc + 3) lv (.int r :: st) m1) : xL p l e s m below meth c b g pc lv stk im := l_call hC hM hs hc hcl hstk hlev hnL hl' hcode hd hn hroom d kk
theorem l_callR (hC : xLc p s m meth c b L xs g) {a ci nf : Nat} {T : u_T} {av : List Value} {stk : List Value} {r : Int32} (hM : xMet g lev' y cc' nL' ret' (.ref (g.1 a) :: av) im (eR im r)) (hs : xSH a = (ci, nf)) (hc : ci < 8) (hcl : vwCl[ci]? = some (y.cls, T, nf)) (hstk : stk = av.reverse ++ .ref (g.1 a) :: st) (hlev : lev' < 14) (hnL : nL' ≤ 18) (hl' : xLinkV RL index y) (hcode : Cond.code y cc' nL' ret' ∈ xT) (hd : xD y n) (hn : av.length = n) (hroom : (st.map fun v => v.category).sum ≤ 8) (d : decode cL_law pc = .ok (.invokevirtual index, 3))
    (kk : xL p l e s m below meth c b g (pc + 3) lv (.int r :: st) im) : xL p l e s m below meth c b g pc lv stk im := l_call hC hM hs hc hcl hstk hlev hnL hl' hcode hd hn hroom d kk
end XLR
def LP_fall (Inv : IM → Prop) : Prop := ∀ im : IM, Inv im → ∀ (a1 : Int32) (a2 : Int32), ∃ (r : Int32) (m1 m2 : IM), f_X6_fall a1 a2 im = some (r, m1) ∧ f_X7_fall a1 a2 m1 = some (r, m2) ∧ Inv m2
theorem law_fall {p : Program} {l : Launch} {e : Env} {s : State} {m : MethodId} {below : List Frame} {meth : Method} {c : Code} {b L : Nat} {xs : Nat → Int32} {g : GX} (hC : xLc p s m meth c b L xs g) {Inv : IM → Prop} (hp : LP_fall Inv) {j : Nat} (hj : j + 6 ≤ L) {im : IM} (hI : Inv im) (kk : ∀ m9, Inv m9 → xL p l e s m below meth c b g 1605 [(3, .int (nI j)), (2, .ref (g.1 82)), (1, .ref (g.1 0)), (0, .ref b)] [] m9) : xL p l e s m below meth c b g 252 [(3, .int (nI j)), (2, .ref (g.1 82)), (1, .ref (g.1 0)), (0, .ref b)] [] im := by
  obtain ⟨r, m1, m2, h1, h2, hI2⟩ := hp im hI (xs (j + 1)) (xs (j + 2))
  refine l_aload_n hC (q := 2) rfl rfl dL_law_252 ?_
  refine l_aload_n hC (q := 3) rfl rfl dL_law_253 ?_
  refine l_iload_n hC (q := 0) rfl rfl dL_law_254 ?_
  refine l_iconst hC (v := nI 1) (by decide) dL_law_255 ?_
  refine l_iadd hC dL_law_256 ?_
  refine l_sld hC (j := j + 1) (by omega) dL_law_257 ?_
  refine l_aload_n hC (q := 3) rfl rfl dL_law_258 ?_
  refine l_iload_n hC (q := 0) rfl rfl dL_law_259 ?_
  refine l_iconst hC (v := nI 2) (by decide) dL_law_260 ?_
  refine l_iadd hC dL_law_261 ?_
  refine l_sld hC (j := j + 2) (by omega) dL_law_262 ?_
  refine l_callI hC (av := [.int (xs (j + 1)), .int (xs (j + 2))]) (st := []) (m_X6_fall (xs (j + 1)) (xs (j + 2)) im (r, m1) h1) sh_0 (by decide) rfl rfl (by decide) (by decide) lk_L_13 cd_X6_fall xd_X6_fall rfl (Nat.le_of_ble_eq_true rfl) dL_law_263 ?_
  refine l_aload_n hC (q := 1) rfl rfl dL_law_266 ?_
  refine l_aload_n hC (q := 3) rfl rfl dL_law_267 ?_
  refine l_iload_n hC (q := 0) rfl rfl dL_law_268 ?_
  refine l_iconst hC (v := nI 1) (by decide) dL_law_269 ?_
  refine l_iadd hC dL_law_270 ?_
  refine l_sld hC (j := j + 1) (by omega) dL_law_271 ?_
  refine l_aload_n hC (q := 3) rfl rfl dL_law_272 ?_
  refine l_iload_n hC (q := 0) rfl rfl dL_law_273 ?_
  refine l_iconst hC (v := nI 2) (by decide) dL_law_274 ?_
  refine l_iadd hC dL_law_275 ?_
  refine l_sld hC (j := j + 2) (by omega) dL_law_276 ?_
  refine l_callI hC (av := [.int (xs (j + 1)), .int (xs (j + 2))]) (st := [.int r]) (m_X7_fall (xs (j + 1)) (xs (j + 2)) m1 (r, m2) h2) sh_82 (by decide) rfl rfl (by decide) (by decide) lk_L_17 cd_X7_fall xd_X7_fall rfl (Nat.le_of_ble_eq_true rfl) dL_law_277 ?_
  refine l_eq hC (tgt := 1605) dL_law_280 (by decide) ?_
  exact kk m2 hI2
def LP_ground (Inv : IM → Prop) : Prop := ∀ im : IM, Inv im → ∀ (a1 : Int32) (a2 : Int32), ∃ (r : Int32) (m1 m2 : IM), f_X6_ground a1 a2 im = some (r, m1) ∧ f_X7_ground a1 a2 m1 = some (r, m2) ∧ Inv m2
theorem law_ground {p : Program} {l : Launch} {e : Env} {s : State} {m : MethodId} {below : List Frame} {meth : Method} {c : Code} {b L : Nat} {xs : Nat → Int32} {g : GX} (hC : xLc p s m meth c b L xs g) {Inv : IM → Prop} (hp : LP_ground Inv) {j : Nat} (hj : j + 6 ≤ L) {im : IM} (hI : Inv im) (kk : ∀ m9, Inv m9 → xL p l e s m below meth c b g 1605 [(3, .int (nI j)), (2, .ref (g.1 82)), (1, .ref (g.1 0)), (0, .ref b)] [] m9) : xL p l e s m below meth c b g 285 [(3, .int (nI j)), (2, .ref (g.1 82)), (1, .ref (g.1 0)), (0, .ref b)] [] im := by
  obtain ⟨r, m1, m2, h1, h2, hI2⟩ := hp im hI (xs (j + 1)) (xs (j + 2))
  refine l_aload_n hC (q := 2) rfl rfl dL_law_285 ?_
  refine l_aload_n hC (q := 3) rfl rfl dL_law_286 ?_
  refine l_iload_n hC (q := 0) rfl rfl dL_law_287 ?_
  refine l_iconst hC (v := nI 1) (by decide) dL_law_288 ?_
  refine l_iadd hC dL_law_289 ?_
  refine l_sld hC (j := j + 1) (by omega) dL_law_290 ?_
  refine l_aload_n hC (q := 3) rfl rfl dL_law_291 ?_
  refine l_iload_n hC (q := 0) rfl rfl dL_law_292 ?_
  refine l_iconst hC (v := nI 2) (by decide) dL_law_293 ?_
  refine l_iadd hC dL_law_294 ?_
  refine l_sld hC (j := j + 2) (by omega) dL_law_295 ?_
  refine l_callI hC (av := [.int (xs (j + 1)), .int (xs (j + 2))]) (st := []) (m_X6_ground (xs (j + 1)) (xs (j + 2)) im (r, m1) h1) sh_0 (by decide) rfl rfl (by decide) (by decide) lk_L_18 cd_X6_ground xd_X6_ground rfl (Nat.le_of_ble_eq_true rfl) dL_law_296 ?_
  refine l_aload_n hC (q := 1) rfl rfl dL_law_299 ?_
  refine l_aload_n hC (q := 3) rfl rfl dL_law_300 ?_
  refine l_iload_n hC (q := 0) rfl rfl dL_law_301 ?_
  refine l_iconst hC (v := nI 1) (by decide) dL_law_302 ?_
  refine l_iadd hC dL_law_303 ?_
  refine l_sld hC (j := j + 1) (by omega) dL_law_304 ?_
  refine l_aload_n hC (q := 3) rfl rfl dL_law_305 ?_
  refine l_iload_n hC (q := 0) rfl rfl dL_law_306 ?_
  refine l_iconst hC (v := nI 2) (by decide) dL_law_307 ?_
  refine l_iadd hC dL_law_308 ?_
  refine l_sld hC (j := j + 2) (by omega) dL_law_309 ?_
  refine l_callI hC (av := [.int (xs (j + 1)), .int (xs (j + 2))]) (st := [.int r]) (m_X7_ground (xs (j + 1)) (xs (j + 2)) m1 (r, m2) h2) sh_82 (by decide) rfl rfl (by decide) (by decide) lk_L_21 cd_X7_ground xd_X7_ground rfl (Nat.le_of_ble_eq_true rfl) dL_law_310 ?_
  refine l_eq hC (tgt := 1605) dL_law_313 (by decide) ?_
  exact kk m2 hI2
def LP_gate (Inv : IM → Prop) : Prop := ∀ im : IM, Inv im → ∀ (a1 : Int32) (a2 : Int32), ∃ (r : Int32) (m1 m2 : IM), f_X6_gate a1 a2 im = some (r, m1) ∧ f_X7_gate a1 a2 m1 = some (r, m2) ∧ Inv m2
theorem law_gate {p : Program} {l : Launch} {e : Env} {s : State} {m : MethodId} {below : List Frame} {meth : Method} {c : Code} {b L : Nat} {xs : Nat → Int32} {g : GX} (hC : xLc p s m meth c b L xs g) {Inv : IM → Prop} (hp : LP_gate Inv) {j : Nat} (hj : j + 6 ≤ L) {im : IM} (hI : Inv im) (kk : ∀ m9, Inv m9 → xL p l e s m below meth c b g 1605 [(3, .int (nI j)), (2, .ref (g.1 82)), (1, .ref (g.1 0)), (0, .ref b)] [] m9) : xL p l e s m below meth c b g 318 [(3, .int (nI j)), (2, .ref (g.1 82)), (1, .ref (g.1 0)), (0, .ref b)] [] im := by
  obtain ⟨r, m1, m2, h1, h2, hI2⟩ := hp im hI (xs (j + 1)) (xs (j + 2))
  refine l_aload_n hC (q := 2) rfl rfl dL_law_318 ?_
  refine l_aload_n hC (q := 3) rfl rfl dL_law_319 ?_
  refine l_iload_n hC (q := 0) rfl rfl dL_law_320 ?_
  refine l_iconst hC (v := nI 1) (by decide) dL_law_321 ?_
  refine l_iadd hC dL_law_322 ?_
  refine l_sld hC (j := j + 1) (by omega) dL_law_323 ?_
  refine l_aload_n hC (q := 3) rfl rfl dL_law_324 ?_
  refine l_iload_n hC (q := 0) rfl rfl dL_law_325 ?_
  refine l_iconst hC (v := nI 2) (by decide) dL_law_326 ?_
  refine l_iadd hC dL_law_327 ?_
  refine l_sld hC (j := j + 2) (by omega) dL_law_328 ?_
  refine l_callI hC (av := [.int (xs (j + 1)), .int (xs (j + 2))]) (st := []) (m_X6_gate (xs (j + 1)) (xs (j + 2)) im (r, m1) h1) sh_0 (by decide) rfl rfl (by decide) (by decide) lk_L_22 cd_X6_gate xd_X6_gate rfl (Nat.le_of_ble_eq_true rfl) dL_law_329 ?_
  refine l_aload_n hC (q := 1) rfl rfl dL_law_332 ?_
  refine l_aload_n hC (q := 3) rfl rfl dL_law_333 ?_
  refine l_iload_n hC (q := 0) rfl rfl dL_law_334 ?_
  refine l_iconst hC (v := nI 1) (by decide) dL_law_335 ?_
  refine l_iadd hC dL_law_336 ?_
  refine l_sld hC (j := j + 1) (by omega) dL_law_337 ?_
  refine l_aload_n hC (q := 3) rfl rfl dL_law_338 ?_
  refine l_iload_n hC (q := 0) rfl rfl dL_law_339 ?_
  refine l_iconst hC (v := nI 2) (by decide) dL_law_340 ?_
  refine l_iadd hC dL_law_341 ?_
  refine l_sld hC (j := j + 2) (by omega) dL_law_342 ?_
  refine l_callI hC (av := [.int (xs (j + 1)), .int (xs (j + 2))]) (st := [.int r]) (m_X7_gate (xs (j + 1)) (xs (j + 2)) m1 (r, m2) h2) sh_82 (by decide) rfl rfl (by decide) (by decide) lk_L_25 cd_X7_gate xd_X7_gate rfl (Nat.le_of_ble_eq_true rfl) dL_law_343 ?_
  refine l_eq hC (tgt := 1605) dL_law_346 (by decide) ?_
  exact kk m2 hI2
def LP_shut (Inv : IM → Prop) : Prop := ∀ im : IM, Inv im → ∀ (a1 : Int32), ∃ (r : Int32) (m1 m2 : IM), f_X6_shut a1 im = some (r, m1) ∧ f_X7_shut a1 m1 = some (r, m2) ∧ Inv m2
theorem law_shut {p : Program} {l : Launch} {e : Env} {s : State} {m : MethodId} {below : List Frame} {meth : Method} {c : Code} {b L : Nat} {xs : Nat → Int32} {g : GX} (hC : xLc p s m meth c b L xs g) {Inv : IM → Prop} (hp : LP_shut Inv) {j : Nat} (hj : j + 6 ≤ L) {im : IM} (hI : Inv im) (kk : ∀ m9, Inv m9 → xL p l e s m below meth c b g 1605 [(3, .int (nI j)), (2, .ref (g.1 82)), (1, .ref (g.1 0)), (0, .ref b)] [] m9) : xL p l e s m below meth c b g 351 [(3, .int (nI j)), (2, .ref (g.1 82)), (1, .ref (g.1 0)), (0, .ref b)] [] im := by
  obtain ⟨r, m1, m2, h1, h2, hI2⟩ := hp im hI (xs (j + 1))
  refine l_aload_n hC (q := 2) rfl rfl dL_law_351 ?_
  refine l_aload_n hC (q := 3) rfl rfl dL_law_352 ?_
  refine l_iload_n hC (q := 0) rfl rfl dL_law_353 ?_
  refine l_iconst hC (v := nI 1) (by decide) dL_law_354 ?_
  refine l_iadd hC dL_law_355 ?_
  refine l_sld hC (j := j + 1) (by omega) dL_law_356 ?_
  refine l_callI hC (av := [.int (xs (j + 1))]) (st := []) (m_X6_shut (xs (j + 1)) im (r, m1) h1) sh_0 (by decide) rfl rfl (by decide) (by decide) lk_L_26 cd_X6_shut xd_X6_shut rfl (Nat.le_of_ble_eq_true rfl) dL_law_357 ?_
  refine l_aload_n hC (q := 1) rfl rfl dL_law_360 ?_
  refine l_aload_n hC (q := 3) rfl rfl dL_law_361 ?_
  refine l_iload_n hC (q := 0) rfl rfl dL_law_362 ?_
  refine l_iconst hC (v := nI 1) (by decide) dL_law_363 ?_
  refine l_iadd hC dL_law_364 ?_
  refine l_sld hC (j := j + 1) (by omega) dL_law_365 ?_
  refine l_callI hC (av := [.int (xs (j + 1))]) (st := [.int r]) (m_X7_shut (xs (j + 1)) m1 (r, m2) h2) sh_82 (by decide) rfl rfl (by decide) (by decide) lk_L_30 cd_X7_shut xd_X7_shut rfl (Nat.le_of_ble_eq_true rfl) dL_law_366 ?_
  refine l_eq hC (tgt := 1605) dL_law_369 (by decide) ?_
  exact kk m2 hI2
def LP_thing (Inv : IM → Prop) : Prop := ∀ im : IM, Inv im → ∀ (a1 : Int32) (a2 : Int32), ∃ (r : Int32) (m1 m2 : IM), f_X6_thing a1 a2 im = some (r, m1) ∧ f_X7_thing a1 a2 m1 = some (r, m2) ∧ Inv m2
theorem law_thing {p : Program} {l : Launch} {e : Env} {s : State} {m : MethodId} {below : List Frame} {meth : Method} {c : Code} {b L : Nat} {xs : Nat → Int32} {g : GX} (hC : xLc p s m meth c b L xs g) {Inv : IM → Prop} (hp : LP_thing Inv) {j : Nat} (hj : j + 6 ≤ L) {im : IM} (hI : Inv im) (kk : ∀ m9, Inv m9 → xL p l e s m below meth c b g 1605 [(3, .int (nI j)), (2, .ref (g.1 82)), (1, .ref (g.1 0)), (0, .ref b)] [] m9) : xL p l e s m below meth c b g 374 [(3, .int (nI j)), (2, .ref (g.1 82)), (1, .ref (g.1 0)), (0, .ref b)] [] im := by
  obtain ⟨r, m1, m2, h1, h2, hI2⟩ := hp im hI (xs (j + 1)) (xs (j + 2))
  refine l_aload_n hC (q := 2) rfl rfl dL_law_374 ?_
  refine l_aload_n hC (q := 3) rfl rfl dL_law_375 ?_
  refine l_iload_n hC (q := 0) rfl rfl dL_law_376 ?_
  refine l_iconst hC (v := nI 1) (by decide) dL_law_377 ?_
  refine l_iadd hC dL_law_378 ?_
  refine l_sld hC (j := j + 1) (by omega) dL_law_379 ?_
  refine l_aload_n hC (q := 3) rfl rfl dL_law_380 ?_
  refine l_iload_n hC (q := 0) rfl rfl dL_law_381 ?_
  refine l_iconst hC (v := nI 2) (by decide) dL_law_382 ?_
  refine l_iadd hC dL_law_383 ?_
  refine l_sld hC (j := j + 2) (by omega) dL_law_384 ?_
  refine l_callI hC (av := [.int (xs (j + 1)), .int (xs (j + 2))]) (st := []) (m_X6_thing (xs (j + 1)) (xs (j + 2)) im (r, m1) h1) sh_0 (by decide) rfl rfl (by decide) (by decide) lk_L_31 cd_X6_thing xd_X6_thing rfl (Nat.le_of_ble_eq_true rfl) dL_law_385 ?_
  refine l_aload_n hC (q := 1) rfl rfl dL_law_388 ?_
  refine l_aload_n hC (q := 3) rfl rfl dL_law_389 ?_
  refine l_iload_n hC (q := 0) rfl rfl dL_law_390 ?_
  refine l_iconst hC (v := nI 1) (by decide) dL_law_391 ?_
  refine l_iadd hC dL_law_392 ?_
  refine l_sld hC (j := j + 1) (by omega) dL_law_393 ?_
  refine l_aload_n hC (q := 3) rfl rfl dL_law_394 ?_
  refine l_iload_n hC (q := 0) rfl rfl dL_law_395 ?_
  refine l_iconst hC (v := nI 2) (by decide) dL_law_396 ?_
  refine l_iadd hC dL_law_397 ?_
  refine l_sld hC (j := j + 2) (by omega) dL_law_398 ?_
  refine l_callI hC (av := [.int (xs (j + 1)), .int (xs (j + 2))]) (st := [.int r]) (m_X7_thing (xs (j + 1)) (xs (j + 2)) m1 (r, m2) h2) sh_82 (by decide) rfl rfl (by decide) (by decide) lk_L_34 cd_X7_thing xd_X7_thing rfl (Nat.le_of_ble_eq_true rfl) dL_law_399 ?_
  refine l_eq hC (tgt := 1605) dL_law_402 (by decide) ?_
  exact kk m2 hI2
def LP_of (Inv : IM → Prop) : Prop := ∀ im : IM, Inv im → ∀ (a1 : Int32) (a2 : Int32), ∃ (r : Int32) (m1 m2 : IM), f_X6_of a1 a2 im = some (r, m1) ∧ f_X7_of a1 a2 m1 = some (r, m2) ∧ Inv m2
theorem law_of {p : Program} {l : Launch} {e : Env} {s : State} {m : MethodId} {below : List Frame} {meth : Method} {c : Code} {b L : Nat} {xs : Nat → Int32} {g : GX} (hC : xLc p s m meth c b L xs g) {Inv : IM → Prop} (hp : LP_of Inv) {j : Nat} (hj : j + 6 ≤ L) {im : IM} (hI : Inv im) (kk : ∀ m9, Inv m9 → xL p l e s m below meth c b g 1605 [(3, .int (nI j)), (2, .ref (g.1 82)), (1, .ref (g.1 0)), (0, .ref b)] [] m9) : xL p l e s m below meth c b g 407 [(3, .int (nI j)), (2, .ref (g.1 82)), (1, .ref (g.1 0)), (0, .ref b)] [] im := by
  obtain ⟨r, m1, m2, h1, h2, hI2⟩ := hp im hI (xs (j + 1)) (xs (j + 2))
  refine l_aload_n hC (q := 2) rfl rfl dL_law_407 ?_
  refine l_aload_n hC (q := 3) rfl rfl dL_law_408 ?_
  refine l_iload_n hC (q := 0) rfl rfl dL_law_409 ?_
  refine l_iconst hC (v := nI 1) (by decide) dL_law_410 ?_
  refine l_iadd hC dL_law_411 ?_
  refine l_sld hC (j := j + 1) (by omega) dL_law_412 ?_
  refine l_aload_n hC (q := 3) rfl rfl dL_law_413 ?_
  refine l_iload_n hC (q := 0) rfl rfl dL_law_414 ?_
  refine l_iconst hC (v := nI 2) (by decide) dL_law_415 ?_
  refine l_iadd hC dL_law_416 ?_
  refine l_sld hC (j := j + 2) (by omega) dL_law_417 ?_
  refine l_callI hC (av := [.int (xs (j + 1)), .int (xs (j + 2))]) (st := []) (m_X6_of (xs (j + 1)) (xs (j + 2)) im (r, m1) h1) sh_0 (by decide) rfl rfl (by decide) (by decide) lk_L_35 cd_X6_of xd_X6_of rfl (Nat.le_of_ble_eq_true rfl) dL_law_418 ?_
  refine l_aload_n hC (q := 1) rfl rfl dL_law_421 ?_
  refine l_aload_n hC (q := 3) rfl rfl dL_law_422 ?_
  refine l_iload_n hC (q := 0) rfl rfl dL_law_423 ?_
  refine l_iconst hC (v := nI 1) (by decide) dL_law_424 ?_
  refine l_iadd hC dL_law_425 ?_
  refine l_sld hC (j := j + 1) (by omega) dL_law_426 ?_
  refine l_aload_n hC (q := 3) rfl rfl dL_law_427 ?_
  refine l_iload_n hC (q := 0) rfl rfl dL_law_428 ?_
  refine l_iconst hC (v := nI 2) (by decide) dL_law_429 ?_
  refine l_iadd hC dL_law_430 ?_
  refine l_sld hC (j := j + 2) (by omega) dL_law_431 ?_
  refine l_callI hC (av := [.int (xs (j + 1)), .int (xs (j + 2))]) (st := [.int r]) (m_X7_of (xs (j + 1)) (xs (j + 2)) m1 (r, m2) h2) sh_82 (by decide) rfl rfl (by decide) (by decide) lk_L_38 cd_X7_of xd_X7_of rfl (Nat.le_of_ble_eq_true rfl) dL_law_432 ?_
  refine l_eq hC (tgt := 1605) dL_law_435 (by decide) ?_
  exact kk m2 hI2
def LP_change (Inv : IM → Prop) : Prop := ∀ im : IM, Inv im → ∀ (a1 : Int32) (a2 : Int32) (a3 : Int32), ∃ (r : Int32) (m1 m2 : IM), f_X6_change a1 a2 a3 im = some (r, m1) ∧ f_X7_change a1 a2 a3 m1 = some (r, m2) ∧ Inv m2
theorem law_change {p : Program} {l : Launch} {e : Env} {s : State} {m : MethodId} {below : List Frame} {meth : Method} {c : Code} {b L : Nat} {xs : Nat → Int32} {g : GX} (hC : xLc p s m meth c b L xs g) {Inv : IM → Prop} (hp : LP_change Inv) {j : Nat} (hj : j + 6 ≤ L) {im : IM} (hI : Inv im) (kk : ∀ m9, Inv m9 → xL p l e s m below meth c b g 1605 [(3, .int (nI j)), (2, .ref (g.1 82)), (1, .ref (g.1 0)), (0, .ref b)] [] m9) : xL p l e s m below meth c b g 440 [(3, .int (nI j)), (2, .ref (g.1 82)), (1, .ref (g.1 0)), (0, .ref b)] [] im := by
  obtain ⟨r, m1, m2, h1, h2, hI2⟩ := hp im hI (xs (j + 1)) (xs (j + 2)) (xs (j + 3))
  refine l_aload_n hC (q := 2) rfl rfl dL_law_440 ?_
  refine l_aload_n hC (q := 3) rfl rfl dL_law_441 ?_
  refine l_iload_n hC (q := 0) rfl rfl dL_law_442 ?_
  refine l_iconst hC (v := nI 1) (by decide) dL_law_443 ?_
  refine l_iadd hC dL_law_444 ?_
  refine l_sld hC (j := j + 1) (by omega) dL_law_445 ?_
  refine l_aload_n hC (q := 3) rfl rfl dL_law_446 ?_
  refine l_iload_n hC (q := 0) rfl rfl dL_law_447 ?_
  refine l_iconst hC (v := nI 2) (by decide) dL_law_448 ?_
  refine l_iadd hC dL_law_449 ?_
  refine l_sld hC (j := j + 2) (by omega) dL_law_450 ?_
  refine l_aload_n hC (q := 3) rfl rfl dL_law_451 ?_
  refine l_iload_n hC (q := 0) rfl rfl dL_law_452 ?_
  refine l_iconst hC (v := nI 3) (by decide) dL_law_453 ?_
  refine l_iadd hC dL_law_454 ?_
  refine l_sld hC (j := j + 3) (by omega) dL_law_455 ?_
  refine l_callI hC (av := [.int (xs (j + 1)), .int (xs (j + 2)), .int (xs (j + 3))]) (st := []) (m_X6_change (xs (j + 1)) (xs (j + 2)) (xs (j + 3)) im (r, m1) h1) sh_0 (by decide) rfl rfl (by decide) (by decide) lk_L_39 cd_X6_change xd_X6_change rfl (Nat.le_of_ble_eq_true rfl) dL_law_456 ?_
  refine l_aload_n hC (q := 1) rfl rfl dL_law_459 ?_
  refine l_aload_n hC (q := 3) rfl rfl dL_law_460 ?_
  refine l_iload_n hC (q := 0) rfl rfl dL_law_461 ?_
  refine l_iconst hC (v := nI 1) (by decide) dL_law_462 ?_
  refine l_iadd hC dL_law_463 ?_
  refine l_sld hC (j := j + 1) (by omega) dL_law_464 ?_
  refine l_aload_n hC (q := 3) rfl rfl dL_law_465 ?_
  refine l_iload_n hC (q := 0) rfl rfl dL_law_466 ?_
  refine l_iconst hC (v := nI 2) (by decide) dL_law_467 ?_
  refine l_iadd hC dL_law_468 ?_
  refine l_sld hC (j := j + 2) (by omega) dL_law_469 ?_
  refine l_aload_n hC (q := 3) rfl rfl dL_law_470 ?_
  refine l_iload_n hC (q := 0) rfl rfl dL_law_471 ?_
  refine l_iconst hC (v := nI 3) (by decide) dL_law_472 ?_
  refine l_iadd hC dL_law_473 ?_
  refine l_sld hC (j := j + 3) (by omega) dL_law_474 ?_
  refine l_callI hC (av := [.int (xs (j + 1)), .int (xs (j + 2)), .int (xs (j + 3))]) (st := [.int r]) (m_X7_change (xs (j + 1)) (xs (j + 2)) (xs (j + 3)) m1 (r, m2) h2) sh_82 (by decide) rfl rfl (by decide) (by decide) lk_L_43 cd_X7_change xd_X7_change rfl (Nat.le_of_ble_eq_true rfl) dL_law_475 ?_
  refine l_eq hC (tgt := 1605) dL_law_478 (by decide) ?_
  exact kk m2 hI2
def LP_told (Inv : IM → Prop) : Prop := ∀ im : IM, Inv im → ∀ (a1 : Int32) (a2 : Int32) (a3 : Int32), ∃ (r : Int32) (m1 m2 : IM), f_X6_told a1 a2 a3 im = some (r, m1) ∧ f_X7_told a1 a2 a3 m1 = some (r, m2) ∧ Inv m2
theorem law_told {p : Program} {l : Launch} {e : Env} {s : State} {m : MethodId} {below : List Frame} {meth : Method} {c : Code} {b L : Nat} {xs : Nat → Int32} {g : GX} (hC : xLc p s m meth c b L xs g) {Inv : IM → Prop} (hp : LP_told Inv) {j : Nat} (hj : j + 6 ≤ L) {im : IM} (hI : Inv im) (kk : ∀ m9, Inv m9 → xL p l e s m below meth c b g 1605 [(3, .int (nI j)), (2, .ref (g.1 82)), (1, .ref (g.1 0)), (0, .ref b)] [] m9) : xL p l e s m below meth c b g 483 [(3, .int (nI j)), (2, .ref (g.1 82)), (1, .ref (g.1 0)), (0, .ref b)] [] im := by
  obtain ⟨r, m1, m2, h1, h2, hI2⟩ := hp im hI (xs (j + 1)) (xs (j + 2)) (xs (j + 3))
  refine l_aload_n hC (q := 2) rfl rfl dL_law_483 ?_
  refine l_aload_n hC (q := 3) rfl rfl dL_law_484 ?_
  refine l_iload_n hC (q := 0) rfl rfl dL_law_485 ?_
  refine l_iconst hC (v := nI 1) (by decide) dL_law_486 ?_
  refine l_iadd hC dL_law_487 ?_
  refine l_sld hC (j := j + 1) (by omega) dL_law_488 ?_
  refine l_aload_n hC (q := 3) rfl rfl dL_law_489 ?_
  refine l_iload_n hC (q := 0) rfl rfl dL_law_490 ?_
  refine l_iconst hC (v := nI 2) (by decide) dL_law_491 ?_
  refine l_iadd hC dL_law_492 ?_
  refine l_sld hC (j := j + 2) (by omega) dL_law_493 ?_
  refine l_aload_n hC (q := 3) rfl rfl dL_law_494 ?_
  refine l_iload_n hC (q := 0) rfl rfl dL_law_495 ?_
  refine l_iconst hC (v := nI 3) (by decide) dL_law_496 ?_
  refine l_iadd hC dL_law_497 ?_
  refine l_sld hC (j := j + 3) (by omega) dL_law_498 ?_
  refine l_callI hC (av := [.int (xs (j + 1)), .int (xs (j + 2)), .int (xs (j + 3))]) (st := []) (m_X6_told (xs (j + 1)) (xs (j + 2)) (xs (j + 3)) im (r, m1) h1) sh_0 (by decide) rfl rfl (by decide) (by decide) lk_L_44 cd_X6_told xd_X6_told rfl (Nat.le_of_ble_eq_true rfl) dL_law_499 ?_
  refine l_aload_n hC (q := 1) rfl rfl dL_law_502 ?_
  refine l_aload_n hC (q := 3) rfl rfl dL_law_503 ?_
  refine l_iload_n hC (q := 0) rfl rfl dL_law_504 ?_
  refine l_iconst hC (v := nI 1) (by decide) dL_law_505 ?_
  refine l_iadd hC dL_law_506 ?_
  refine l_sld hC (j := j + 1) (by omega) dL_law_507 ?_
  refine l_aload_n hC (q := 3) rfl rfl dL_law_508 ?_
  refine l_iload_n hC (q := 0) rfl rfl dL_law_509 ?_
  refine l_iconst hC (v := nI 2) (by decide) dL_law_510 ?_
  refine l_iadd hC dL_law_511 ?_
  refine l_sld hC (j := j + 2) (by omega) dL_law_512 ?_
  refine l_aload_n hC (q := 3) rfl rfl dL_law_513 ?_
  refine l_iload_n hC (q := 0) rfl rfl dL_law_514 ?_
  refine l_iconst hC (v := nI 3) (by decide) dL_law_515 ?_
  refine l_iadd hC dL_law_516 ?_
  refine l_sld hC (j := j + 3) (by omega) dL_law_517 ?_
  refine l_callI hC (av := [.int (xs (j + 1)), .int (xs (j + 2)), .int (xs (j + 3))]) (st := [.int r]) (m_X7_told (xs (j + 1)) (xs (j + 2)) (xs (j + 3)) m1 (r, m2) h2) sh_82 (by decide) rfl rfl (by decide) (by decide) lk_L_47 cd_X7_told xd_X7_told rfl (Nat.le_of_ble_eq_true rfl) dL_law_518 ?_
  refine l_eq hC (tgt := 1605) dL_law_521 (by decide) ?_
  exact kk m2 hI2
def LP_go (Inv : IM → Prop) : Prop := ∀ im : IM, Inv im → ∀ (a1 : Int32), ∃ (r : Int32) (m1 m2 : IM), f_X6_go a1 im = some (r, m1) ∧ f_X7_go a1 m1 = some (r, m2) ∧ Inv m2
theorem law_go {p : Program} {l : Launch} {e : Env} {s : State} {m : MethodId} {below : List Frame} {meth : Method} {c : Code} {b L : Nat} {xs : Nat → Int32} {g : GX} (hC : xLc p s m meth c b L xs g) {Inv : IM → Prop} (hp : LP_go Inv) {j : Nat} (hj : j + 6 ≤ L) {im : IM} (hI : Inv im) (kk : ∀ m9, Inv m9 → xL p l e s m below meth c b g 1605 [(3, .int (nI j)), (2, .ref (g.1 82)), (1, .ref (g.1 0)), (0, .ref b)] [] m9) : xL p l e s m below meth c b g 526 [(3, .int (nI j)), (2, .ref (g.1 82)), (1, .ref (g.1 0)), (0, .ref b)] [] im := by
  obtain ⟨r, m1, m2, h1, h2, hI2⟩ := hp im hI (xs (j + 1))
  refine l_aload_n hC (q := 2) rfl rfl dL_law_526 ?_
  refine l_aload_n hC (q := 3) rfl rfl dL_law_527 ?_
  refine l_iload_n hC (q := 0) rfl rfl dL_law_528 ?_
  refine l_iconst hC (v := nI 1) (by decide) dL_law_529 ?_
  refine l_iadd hC dL_law_530 ?_
  refine l_sld hC (j := j + 1) (by omega) dL_law_531 ?_
  refine l_callI hC (av := [.int (xs (j + 1))]) (st := []) (m_X6_go (xs (j + 1)) im (r, m1) h1) sh_0 (by decide) rfl rfl (by decide) (by decide) lk_L_48 cd_X6_go xd_X6_go rfl (Nat.le_of_ble_eq_true rfl) dL_law_532 ?_
  refine l_aload_n hC (q := 1) rfl rfl dL_law_535 ?_
  refine l_aload_n hC (q := 3) rfl rfl dL_law_536 ?_
  refine l_iload_n hC (q := 0) rfl rfl dL_law_537 ?_
  refine l_iconst hC (v := nI 1) (by decide) dL_law_538 ?_
  refine l_iadd hC dL_law_539 ?_
  refine l_sld hC (j := j + 1) (by omega) dL_law_540 ?_
  refine l_callI hC (av := [.int (xs (j + 1))]) (st := [.int r]) (m_X7_go (xs (j + 1)) m1 (r, m2) h2) sh_82 (by decide) rfl rfl (by decide) (by decide) lk_L_51 cd_X7_go xd_X7_go rfl (Nat.le_of_ble_eq_true rfl) dL_law_541 ?_
  refine l_eq hC (tgt := 1605) dL_law_544 (by decide) ?_
  exact kk m2 hI2
def LP_put (Inv : IM → Prop) : Prop := ∀ im : IM, Inv im → ∀ (a1 : Int32) (a2 : Int32), ∃ (r : Int32) (m1 m2 : IM), f_X6_put a1 a2 im = some (r, m1) ∧ f_X7_put a1 a2 m1 = some (r, m2) ∧ Inv m2
theorem law_put {p : Program} {l : Launch} {e : Env} {s : State} {m : MethodId} {below : List Frame} {meth : Method} {c : Code} {b L : Nat} {xs : Nat → Int32} {g : GX} (hC : xLc p s m meth c b L xs g) {Inv : IM → Prop} (hp : LP_put Inv) {j : Nat} (hj : j + 6 ≤ L) {im : IM} (hI : Inv im) (kk : ∀ m9, Inv m9 → xL p l e s m below meth c b g 1605 [(3, .int (nI j)), (2, .ref (g.1 82)), (1, .ref (g.1 0)), (0, .ref b)] [] m9) : xL p l e s m below meth c b g 549 [(3, .int (nI j)), (2, .ref (g.1 82)), (1, .ref (g.1 0)), (0, .ref b)] [] im := by
  obtain ⟨r, m1, m2, h1, h2, hI2⟩ := hp im hI (xs (j + 1)) (xs (j + 2))
  refine l_aload_n hC (q := 2) rfl rfl dL_law_549 ?_
  refine l_aload_n hC (q := 3) rfl rfl dL_law_550 ?_
  refine l_iload_n hC (q := 0) rfl rfl dL_law_551 ?_
  refine l_iconst hC (v := nI 1) (by decide) dL_law_552 ?_
  refine l_iadd hC dL_law_553 ?_
  refine l_sld hC (j := j + 1) (by omega) dL_law_554 ?_
  refine l_aload_n hC (q := 3) rfl rfl dL_law_555 ?_
  refine l_iload_n hC (q := 0) rfl rfl dL_law_556 ?_
  refine l_iconst hC (v := nI 2) (by decide) dL_law_557 ?_
  refine l_iadd hC dL_law_558 ?_
  refine l_sld hC (j := j + 2) (by omega) dL_law_559 ?_
  refine l_callI hC (av := [.int (xs (j + 1)), .int (xs (j + 2))]) (st := []) (m_X6_put (xs (j + 1)) (xs (j + 2)) im (r, m1) h1) sh_0 (by decide) rfl rfl (by decide) (by decide) lk_L_52 cd_X6_put xd_X6_put rfl (Nat.le_of_ble_eq_true rfl) dL_law_560 ?_
  refine l_aload_n hC (q := 1) rfl rfl dL_law_563 ?_
  refine l_aload_n hC (q := 3) rfl rfl dL_law_564 ?_
  refine l_iload_n hC (q := 0) rfl rfl dL_law_565 ?_
  refine l_iconst hC (v := nI 1) (by decide) dL_law_566 ?_
  refine l_iadd hC dL_law_567 ?_
  refine l_sld hC (j := j + 1) (by omega) dL_law_568 ?_
  refine l_aload_n hC (q := 3) rfl rfl dL_law_569 ?_
  refine l_iload_n hC (q := 0) rfl rfl dL_law_570 ?_
  refine l_iconst hC (v := nI 2) (by decide) dL_law_571 ?_
  refine l_iadd hC dL_law_572 ?_
  refine l_sld hC (j := j + 2) (by omega) dL_law_573 ?_
  refine l_callI hC (av := [.int (xs (j + 1)), .int (xs (j + 2))]) (st := [.int r]) (m_X7_put (xs (j + 1)) (xs (j + 2)) m1 (r, m2) h2) sh_82 (by decide) rfl rfl (by decide) (by decide) lk_L_55 cd_X7_put xd_X7_put rfl (Nat.le_of_ble_eq_true rfl) dL_law_574 ?_
  refine l_eq hC (tgt := 1605) dL_law_577 (by decide) ?_
  exact kk m2 hI2
def LP_minutes (Inv : IM → Prop) : Prop := ∀ im : IM, Inv im → ∀ (a1 : Int32), ∃ (r : Int32) (m1 m2 : IM), f_X6_minutes a1 im = some (r, m1) ∧ f_X7_minutes a1 m1 = some (r, m2) ∧ Inv m2
theorem law_minutes {p : Program} {l : Launch} {e : Env} {s : State} {m : MethodId} {below : List Frame} {meth : Method} {c : Code} {b L : Nat} {xs : Nat → Int32} {g : GX} (hC : xLc p s m meth c b L xs g) {Inv : IM → Prop} (hp : LP_minutes Inv) {j : Nat} (hj : j + 6 ≤ L) {im : IM} (hI : Inv im) (kk : ∀ m9, Inv m9 → xL p l e s m below meth c b g 1605 [(3, .int (nI j)), (2, .ref (g.1 82)), (1, .ref (g.1 0)), (0, .ref b)] [] m9) : xL p l e s m below meth c b g 582 [(3, .int (nI j)), (2, .ref (g.1 82)), (1, .ref (g.1 0)), (0, .ref b)] [] im := by
  obtain ⟨r, m1, m2, h1, h2, hI2⟩ := hp im hI (xs (j + 1))
  refine l_aload_n hC (q := 2) rfl rfl dL_law_582 ?_
  refine l_aload_n hC (q := 3) rfl rfl dL_law_583 ?_
  refine l_iload_n hC (q := 0) rfl rfl dL_law_584 ?_
  refine l_iconst hC (v := nI 1) (by decide) dL_law_585 ?_
  refine l_iadd hC dL_law_586 ?_
  refine l_sld hC (j := j + 1) (by omega) dL_law_587 ?_
  refine l_callI hC (av := [.int (xs (j + 1))]) (st := []) (m_X6_minutes (xs (j + 1)) im (r, m1) h1) sh_0 (by decide) rfl rfl (by decide) (by decide) lk_L_56 cd_X6_minutes xd_X6_minutes rfl (Nat.le_of_ble_eq_true rfl) dL_law_588 ?_
  refine l_aload_n hC (q := 1) rfl rfl dL_law_591 ?_
  refine l_aload_n hC (q := 3) rfl rfl dL_law_592 ?_
  refine l_iload_n hC (q := 0) rfl rfl dL_law_593 ?_
  refine l_iconst hC (v := nI 1) (by decide) dL_law_594 ?_
  refine l_iadd hC dL_law_595 ?_
  refine l_sld hC (j := j + 1) (by omega) dL_law_596 ?_
  refine l_callI hC (av := [.int (xs (j + 1))]) (st := [.int r]) (m_X7_minutes (xs (j + 1)) m1 (r, m2) h2) sh_82 (by decide) rfl rfl (by decide) (by decide) lk_L_59 cd_X7_minutes xd_X7_minutes rfl (Nat.le_of_ble_eq_true rfl) dL_law_597 ?_
  refine l_eq hC (tgt := 1605) dL_law_600 (by decide) ?_
  exact kk m2 hI2
def LP_are (Inv : IM → Prop) : Prop := ∀ im : IM, Inv im → ∀ (a1 : Int32), ∃ (r : Int32) (m1 m2 : IM), f_X6_are a1 im = some (r, m1) ∧ f_X7_are a1 m1 = some (r, m2) ∧ Inv m2
theorem law_are {p : Program} {l : Launch} {e : Env} {s : State} {m : MethodId} {below : List Frame} {meth : Method} {c : Code} {b L : Nat} {xs : Nat → Int32} {g : GX} (hC : xLc p s m meth c b L xs g) {Inv : IM → Prop} (hp : LP_are Inv) {j : Nat} (hj : j + 6 ≤ L) {im : IM} (hI : Inv im) (kk : ∀ m9, Inv m9 → xL p l e s m below meth c b g 1605 [(3, .int (nI j)), (2, .ref (g.1 82)), (1, .ref (g.1 0)), (0, .ref b)] [] m9) : xL p l e s m below meth c b g 605 [(3, .int (nI j)), (2, .ref (g.1 82)), (1, .ref (g.1 0)), (0, .ref b)] [] im := by
  obtain ⟨r, m1, m2, h1, h2, hI2⟩ := hp im hI (xs (j + 1))
  refine l_aload_n hC (q := 2) rfl rfl dL_law_605 ?_
  refine l_aload_n hC (q := 3) rfl rfl dL_law_606 ?_
  refine l_iload_n hC (q := 0) rfl rfl dL_law_607 ?_
  refine l_iconst hC (v := nI 1) (by decide) dL_law_608 ?_
  refine l_iadd hC dL_law_609 ?_
  refine l_sld hC (j := j + 1) (by omega) dL_law_610 ?_
  refine l_callI hC (av := [.int (xs (j + 1))]) (st := []) (m_X6_are (xs (j + 1)) im (r, m1) h1) sh_0 (by decide) rfl rfl (by decide) (by decide) lk_L_60 cd_X6_are xd_X6_are rfl (Nat.le_of_ble_eq_true rfl) dL_law_611 ?_
  refine l_aload_n hC (q := 1) rfl rfl dL_law_614 ?_
  refine l_aload_n hC (q := 3) rfl rfl dL_law_615 ?_
  refine l_iload_n hC (q := 0) rfl rfl dL_law_616 ?_
  refine l_iconst hC (v := nI 1) (by decide) dL_law_617 ?_
  refine l_iadd hC dL_law_618 ?_
  refine l_sld hC (j := j + 1) (by omega) dL_law_619 ?_
  refine l_callI hC (av := [.int (xs (j + 1))]) (st := [.int r]) (m_X7_are (xs (j + 1)) m1 (r, m2) h2) sh_82 (by decide) rfl rfl (by decide) (by decide) lk_L_63 cd_X7_are xd_X7_are rfl (Nat.le_of_ble_eq_true rfl) dL_law_620 ?_
  refine l_eq hC (tgt := 1605) dL_law_623 (by decide) ?_
  exact kk m2 hI2
def LP_on (Inv : IM → Prop) : Prop := ∀ im : IM, Inv im → ∀ (a1 : Int32), ∃ (r : Int32) (m1 m2 : IM), f_X6_on a1 im = some (r, m1) ∧ f_X7_on a1 m1 = some (r, m2) ∧ Inv m2
theorem law_on {p : Program} {l : Launch} {e : Env} {s : State} {m : MethodId} {below : List Frame} {meth : Method} {c : Code} {b L : Nat} {xs : Nat → Int32} {g : GX} (hC : xLc p s m meth c b L xs g) {Inv : IM → Prop} (hp : LP_on Inv) {j : Nat} (hj : j + 6 ≤ L) {im : IM} (hI : Inv im) (kk : ∀ m9, Inv m9 → xL p l e s m below meth c b g 1605 [(3, .int (nI j)), (2, .ref (g.1 82)), (1, .ref (g.1 0)), (0, .ref b)] [] m9) : xL p l e s m below meth c b g 628 [(3, .int (nI j)), (2, .ref (g.1 82)), (1, .ref (g.1 0)), (0, .ref b)] [] im := by
  obtain ⟨r, m1, m2, h1, h2, hI2⟩ := hp im hI (xs (j + 1))
  refine l_aload_n hC (q := 2) rfl rfl dL_law_628 ?_
  refine l_aload_n hC (q := 3) rfl rfl dL_law_629 ?_
  refine l_iload_n hC (q := 0) rfl rfl dL_law_630 ?_
  refine l_iconst hC (v := nI 1) (by decide) dL_law_631 ?_
  refine l_iadd hC dL_law_632 ?_
  refine l_sld hC (j := j + 1) (by omega) dL_law_633 ?_
  refine l_callI hC (av := [.int (xs (j + 1))]) (st := []) (m_X6_on (xs (j + 1)) im (r, m1) h1) sh_0 (by decide) rfl rfl (by decide) (by decide) lk_L_64 cd_X6_on xd_X6_on rfl (Nat.le_of_ble_eq_true rfl) dL_law_634 ?_
  refine l_aload_n hC (q := 1) rfl rfl dL_law_637 ?_
  refine l_aload_n hC (q := 3) rfl rfl dL_law_638 ?_
  refine l_iload_n hC (q := 0) rfl rfl dL_law_639 ?_
  refine l_iconst hC (v := nI 1) (by decide) dL_law_640 ?_
  refine l_iadd hC dL_law_641 ?_
  refine l_sld hC (j := j + 1) (by omega) dL_law_642 ?_
  refine l_callI hC (av := [.int (xs (j + 1))]) (st := [.int r]) (m_X7_on (xs (j + 1)) m1 (r, m2) h2) sh_82 (by decide) rfl rfl (by decide) (by decide) lk_L_67 cd_X7_on xd_X7_on rfl (Nat.le_of_ble_eq_true rfl) dL_law_643 ?_
  refine l_eq hC (tgt := 1605) dL_law_646 (by decide) ?_
  exact kk m2 hI2
def LP_ahead (Inv : IM → Prop) : Prop := ∀ im : IM, Inv im → ∀ (a1 : Int32) (a2 : Int32), ∃ (r : Int32) (m1 m2 : IM), f_X6_ahead a1 a2 im = some (r, m1) ∧ f_X7_ahead a1 a2 m1 = some (r, m2) ∧ Inv m2
theorem law_ahead {p : Program} {l : Launch} {e : Env} {s : State} {m : MethodId} {below : List Frame} {meth : Method} {c : Code} {b L : Nat} {xs : Nat → Int32} {g : GX} (hC : xLc p s m meth c b L xs g) {Inv : IM → Prop} (hp : LP_ahead Inv) {j : Nat} (hj : j + 6 ≤ L) {im : IM} (hI : Inv im) (kk : ∀ m9, Inv m9 → xL p l e s m below meth c b g 1605 [(3, .int (nI j)), (2, .ref (g.1 82)), (1, .ref (g.1 0)), (0, .ref b)] [] m9) : xL p l e s m below meth c b g 651 [(3, .int (nI j)), (2, .ref (g.1 82)), (1, .ref (g.1 0)), (0, .ref b)] [] im := by
  obtain ⟨r, m1, m2, h1, h2, hI2⟩ := hp im hI (xs (j + 1)) (xs (j + 2))
  refine l_aload_n hC (q := 2) rfl rfl dL_law_651 ?_
  refine l_aload_n hC (q := 3) rfl rfl dL_law_652 ?_
  refine l_iload_n hC (q := 0) rfl rfl dL_law_653 ?_
  refine l_iconst hC (v := nI 1) (by decide) dL_law_654 ?_
  refine l_iadd hC dL_law_655 ?_
  refine l_sld hC (j := j + 1) (by omega) dL_law_656 ?_
  refine l_aload_n hC (q := 3) rfl rfl dL_law_657 ?_
  refine l_iload_n hC (q := 0) rfl rfl dL_law_658 ?_
  refine l_iconst hC (v := nI 2) (by decide) dL_law_659 ?_
  refine l_iadd hC dL_law_660 ?_
  refine l_sld hC (j := j + 2) (by omega) dL_law_661 ?_
  refine l_callI hC (av := [.int (xs (j + 1)), .int (xs (j + 2))]) (st := []) (m_X6_ahead (xs (j + 1)) (xs (j + 2)) im (r, m1) h1) sh_0 (by decide) rfl rfl (by decide) (by decide) lk_L_68 cd_X6_ahead xd_X6_ahead rfl (Nat.le_of_ble_eq_true rfl) dL_law_662 ?_
  refine l_aload_n hC (q := 1) rfl rfl dL_law_665 ?_
  refine l_aload_n hC (q := 3) rfl rfl dL_law_666 ?_
  refine l_iload_n hC (q := 0) rfl rfl dL_law_667 ?_
  refine l_iconst hC (v := nI 1) (by decide) dL_law_668 ?_
  refine l_iadd hC dL_law_669 ?_
  refine l_sld hC (j := j + 1) (by omega) dL_law_670 ?_
  refine l_aload_n hC (q := 3) rfl rfl dL_law_671 ?_
  refine l_iload_n hC (q := 0) rfl rfl dL_law_672 ?_
  refine l_iconst hC (v := nI 2) (by decide) dL_law_673 ?_
  refine l_iadd hC dL_law_674 ?_
  refine l_sld hC (j := j + 2) (by omega) dL_law_675 ?_
  refine l_callI hC (av := [.int (xs (j + 1)), .int (xs (j + 2))]) (st := [.int r]) (m_X7_ahead (xs (j + 1)) (xs (j + 2)) m1 (r, m2) h2) sh_82 (by decide) rfl rfl (by decide) (by decide) lk_L_71 cd_X7_ahead xd_X7_ahead rfl (Nat.le_of_ble_eq_true rfl) dL_law_676 ?_
  refine l_eq hC (tgt := 1605) dL_law_679 (by decide) ?_
  exact kk m2 hI2
def LP_meet (Inv : IM → Prop) : Prop := ∀ im : IM, Inv im → ∃ (r : Int32) (m1 m2 : IM), f_X6_meet im = some (r, m1) ∧ f_X7_meet m1 = some (r, m2) ∧ Inv m2
theorem law_meet {p : Program} {l : Launch} {e : Env} {s : State} {m : MethodId} {below : List Frame} {meth : Method} {c : Code} {b L : Nat} {xs : Nat → Int32} {g : GX} (hC : xLc p s m meth c b L xs g) {Inv : IM → Prop} (hp : LP_meet Inv) {j : Nat} (hj : j + 6 ≤ L) {im : IM} (hI : Inv im) (kk : ∀ m9, Inv m9 → xL p l e s m below meth c b g 1605 [(3, .int (nI j)), (2, .ref (g.1 82)), (1, .ref (g.1 0)), (0, .ref b)] [] m9) : xL p l e s m below meth c b g 684 [(3, .int (nI j)), (2, .ref (g.1 82)), (1, .ref (g.1 0)), (0, .ref b)] [] im := by
  obtain ⟨r, m1, m2, h1, h2, hI2⟩ := hp im hI 
  refine l_aload_n hC (q := 2) rfl rfl dL_law_684 ?_
  refine l_callI hC (av := []) (st := []) (m_X6_meet  im (r, m1) h1) sh_0 (by decide) rfl rfl (by decide) (by decide) lk_L_72 cd_X6_meet xd_X6_meet rfl (Nat.le_of_ble_eq_true rfl) dL_law_685 ?_
  refine l_aload_n hC (q := 1) rfl rfl dL_law_688 ?_
  refine l_callI hC (av := []) (st := [.int r]) (m_X7_meet  m1 (r, m2) h2) sh_82 (by decide) rfl rfl (by decide) (by decide) lk_L_76 cd_X7_meet xd_X7_meet rfl (Nat.le_of_ble_eq_true rfl) dL_law_689 ?_
  refine l_eq hC (tgt := 1605) dL_law_692 (by decide) ?_
  exact kk m2 hI2
def LP_ends (Inv : IM → Prop) : Prop := ∀ im : IM, Inv im → ∀ (a1 : Int32), ∃ (r : Int32) (m1 m2 : IM), f_X6_ends a1 im = some (r, m1) ∧ f_X7_ends a1 m1 = some (r, m2) ∧ Inv m2
theorem law_ends {p : Program} {l : Launch} {e : Env} {s : State} {m : MethodId} {below : List Frame} {meth : Method} {c : Code} {b L : Nat} {xs : Nat → Int32} {g : GX} (hC : xLc p s m meth c b L xs g) {Inv : IM → Prop} (hp : LP_ends Inv) {j : Nat} (hj : j + 6 ≤ L) {im : IM} (hI : Inv im) (kk : ∀ m9, Inv m9 → xL p l e s m below meth c b g 1605 [(3, .int (nI j)), (2, .ref (g.1 82)), (1, .ref (g.1 0)), (0, .ref b)] [] m9) : xL p l e s m below meth c b g 697 [(3, .int (nI j)), (2, .ref (g.1 82)), (1, .ref (g.1 0)), (0, .ref b)] [] im := by
  obtain ⟨r, m1, m2, h1, h2, hI2⟩ := hp im hI (xs (j + 1))
  refine l_aload_n hC (q := 2) rfl rfl dL_law_697 ?_
  refine l_aload_n hC (q := 3) rfl rfl dL_law_698 ?_
  refine l_iload_n hC (q := 0) rfl rfl dL_law_699 ?_
  refine l_iconst hC (v := nI 1) (by decide) dL_law_700 ?_
  refine l_iadd hC dL_law_701 ?_
  refine l_sld hC (j := j + 1) (by omega) dL_law_702 ?_
  refine l_callI hC (av := [.int (xs (j + 1))]) (st := []) (m_X6_ends (xs (j + 1)) im (r, m1) h1) sh_0 (by decide) rfl rfl (by decide) (by decide) lk_L_77 cd_X6_ends xd_X6_ends rfl (Nat.le_of_ble_eq_true rfl) dL_law_703 ?_
  refine l_aload_n hC (q := 1) rfl rfl dL_law_706 ?_
  refine l_aload_n hC (q := 3) rfl rfl dL_law_707 ?_
  refine l_iload_n hC (q := 0) rfl rfl dL_law_708 ?_
  refine l_iconst hC (v := nI 1) (by decide) dL_law_709 ?_
  refine l_iadd hC dL_law_710 ?_
  refine l_sld hC (j := j + 1) (by omega) dL_law_711 ?_
  refine l_callI hC (av := [.int (xs (j + 1))]) (st := [.int r]) (m_X7_ends (xs (j + 1)) m1 (r, m2) h2) sh_82 (by decide) rfl rfl (by decide) (by decide) lk_L_80 cd_X7_ends xd_X7_ends rfl (Nat.le_of_ble_eq_true rfl) dL_law_712 ?_
  refine l_eq hC (tgt := 1605) dL_law_715 (by decide) ?_
  exact kk m2 hI2
def LP_takes (Inv : IM → Prop) : Prop := ∀ im : IM, Inv im → ∀ (a1 : Int32), ∃ (r : Int32) (m1 m2 : IM), f_X6_takes a1 im = some (r, m1) ∧ f_X7_takes a1 m1 = some (r, m2) ∧ Inv m2
theorem law_takes {p : Program} {l : Launch} {e : Env} {s : State} {m : MethodId} {below : List Frame} {meth : Method} {c : Code} {b L : Nat} {xs : Nat → Int32} {g : GX} (hC : xLc p s m meth c b L xs g) {Inv : IM → Prop} (hp : LP_takes Inv) {j : Nat} (hj : j + 6 ≤ L) {im : IM} (hI : Inv im) (kk : ∀ m9, Inv m9 → xL p l e s m below meth c b g 1605 [(3, .int (nI j)), (2, .ref (g.1 82)), (1, .ref (g.1 0)), (0, .ref b)] [] m9) : xL p l e s m below meth c b g 720 [(3, .int (nI j)), (2, .ref (g.1 82)), (1, .ref (g.1 0)), (0, .ref b)] [] im := by
  obtain ⟨r, m1, m2, h1, h2, hI2⟩ := hp im hI (xs (j + 1))
  refine l_aload_n hC (q := 2) rfl rfl dL_law_720 ?_
  refine l_aload_n hC (q := 3) rfl rfl dL_law_721 ?_
  refine l_iload_n hC (q := 0) rfl rfl dL_law_722 ?_
  refine l_iconst hC (v := nI 1) (by decide) dL_law_723 ?_
  refine l_iadd hC dL_law_724 ?_
  refine l_sld hC (j := j + 1) (by omega) dL_law_725 ?_
  refine l_callI hC (av := [.int (xs (j + 1))]) (st := []) (m_X6_takes (xs (j + 1)) im (r, m1) h1) sh_0 (by decide) rfl rfl (by decide) (by decide) lk_L_81 cd_X6_takes xd_X6_takes rfl (Nat.le_of_ble_eq_true rfl) dL_law_726 ?_
  refine l_aload_n hC (q := 1) rfl rfl dL_law_729 ?_
  refine l_aload_n hC (q := 3) rfl rfl dL_law_730 ?_
  refine l_iload_n hC (q := 0) rfl rfl dL_law_731 ?_
  refine l_iconst hC (v := nI 1) (by decide) dL_law_732 ?_
  refine l_iadd hC dL_law_733 ?_
  refine l_sld hC (j := j + 1) (by omega) dL_law_734 ?_
  refine l_callI hC (av := [.int (xs (j + 1))]) (st := [.int r]) (m_X7_takes (xs (j + 1)) m1 (r, m2) h2) sh_82 (by decide) rfl rfl (by decide) (by decide) lk_L_84 cd_X7_takes xd_X7_takes rfl (Nat.le_of_ble_eq_true rfl) dL_law_735 ?_
  refine l_eq hC (tgt := 1605) dL_law_738 (by decide) ?_
  exact kk m2 hI2
def LP_speed (Inv : IM → Prop) : Prop := ∀ im : IM, Inv im → ∀ (a1 : Int32), ∃ (r : Int32) (m1 m2 : IM), f_X6_speed a1 im = some (r, m1) ∧ f_X7_speed a1 m1 = some (r, m2) ∧ Inv m2
theorem law_speed {p : Program} {l : Launch} {e : Env} {s : State} {m : MethodId} {below : List Frame} {meth : Method} {c : Code} {b L : Nat} {xs : Nat → Int32} {g : GX} (hC : xLc p s m meth c b L xs g) {Inv : IM → Prop} (hp : LP_speed Inv) {j : Nat} (hj : j + 6 ≤ L) {im : IM} (hI : Inv im) (kk : ∀ m9, Inv m9 → xL p l e s m below meth c b g 1605 [(3, .int (nI j)), (2, .ref (g.1 82)), (1, .ref (g.1 0)), (0, .ref b)] [] m9) : xL p l e s m below meth c b g 743 [(3, .int (nI j)), (2, .ref (g.1 82)), (1, .ref (g.1 0)), (0, .ref b)] [] im := by
  obtain ⟨r, m1, m2, h1, h2, hI2⟩ := hp im hI (xs (j + 1))
  refine l_aload_n hC (q := 2) rfl rfl dL_law_743 ?_
  refine l_aload_n hC (q := 3) rfl rfl dL_law_744 ?_
  refine l_iload_n hC (q := 0) rfl rfl dL_law_745 ?_
  refine l_iconst hC (v := nI 1) (by decide) dL_law_746 ?_
  refine l_iadd hC dL_law_747 ?_
  refine l_sld hC (j := j + 1) (by omega) dL_law_748 ?_
  refine l_callI hC (av := [.int (xs (j + 1))]) (st := []) (m_X6_speed (xs (j + 1)) im (r, m1) h1) sh_0 (by decide) rfl rfl (by decide) (by decide) lk_L_85 cd_X6_speed xd_X6_speed rfl (Nat.le_of_ble_eq_true rfl) dL_law_749 ?_
  refine l_aload_n hC (q := 1) rfl rfl dL_law_752 ?_
  refine l_aload_n hC (q := 3) rfl rfl dL_law_753 ?_
  refine l_iload_n hC (q := 0) rfl rfl dL_law_754 ?_
  refine l_iconst hC (v := nI 1) (by decide) dL_law_755 ?_
  refine l_iadd hC dL_law_756 ?_
  refine l_sld hC (j := j + 1) (by omega) dL_law_757 ?_
  refine l_callI hC (av := [.int (xs (j + 1))]) (st := [.int r]) (m_X7_speed (xs (j + 1)) m1 (r, m2) h2) sh_82 (by decide) rfl rfl (by decide) (by decide) lk_L_88 cd_X7_speed xd_X7_speed rfl (Nat.le_of_ble_eq_true rfl) dL_law_758 ?_
  refine l_eq hC (tgt := 1605) dL_law_761 (by decide) ?_
  exact kk m2 hI2
def LP_seen (Inv : IM → Prop) : Prop := ∀ im : IM, Inv im → ∀ (a1 : Int32), ∃ (r : Int32) (m1 m2 : IM), f_X6_seen a1 im = some (r, m1) ∧ f_X7_seen a1 m1 = some (r, m2) ∧ Inv m2
theorem law_seen {p : Program} {l : Launch} {e : Env} {s : State} {m : MethodId} {below : List Frame} {meth : Method} {c : Code} {b L : Nat} {xs : Nat → Int32} {g : GX} (hC : xLc p s m meth c b L xs g) {Inv : IM → Prop} (hp : LP_seen Inv) {j : Nat} (hj : j + 6 ≤ L) {im : IM} (hI : Inv im) (kk : ∀ m9, Inv m9 → xL p l e s m below meth c b g 1605 [(3, .int (nI j)), (2, .ref (g.1 82)), (1, .ref (g.1 0)), (0, .ref b)] [] m9) : xL p l e s m below meth c b g 766 [(3, .int (nI j)), (2, .ref (g.1 82)), (1, .ref (g.1 0)), (0, .ref b)] [] im := by
  obtain ⟨r, m1, m2, h1, h2, hI2⟩ := hp im hI (xs (j + 1))
  refine l_aload_n hC (q := 2) rfl rfl dL_law_766 ?_
  refine l_aload_n hC (q := 3) rfl rfl dL_law_767 ?_
  refine l_iload_n hC (q := 0) rfl rfl dL_law_768 ?_
  refine l_iconst hC (v := nI 1) (by decide) dL_law_769 ?_
  refine l_iadd hC dL_law_770 ?_
  refine l_sld hC (j := j + 1) (by omega) dL_law_771 ?_
  refine l_callI hC (av := [.int (xs (j + 1))]) (st := []) (m_X6_seen (xs (j + 1)) im (r, m1) h1) sh_0 (by decide) rfl rfl (by decide) (by decide) lk_L_89 cd_X6_seen xd_X6_seen rfl (Nat.le_of_ble_eq_true rfl) dL_law_772 ?_
  refine l_aload_n hC (q := 1) rfl rfl dL_law_775 ?_
  refine l_aload_n hC (q := 3) rfl rfl dL_law_776 ?_
  refine l_iload_n hC (q := 0) rfl rfl dL_law_777 ?_
  refine l_iconst hC (v := nI 1) (by decide) dL_law_778 ?_
  refine l_iadd hC dL_law_779 ?_
  refine l_sld hC (j := j + 1) (by omega) dL_law_780 ?_
  refine l_callI hC (av := [.int (xs (j + 1))]) (st := [.int r]) (m_X7_seen (xs (j + 1)) m1 (r, m2) h2) sh_82 (by decide) rfl rfl (by decide) (by decide) lk_L_92 cd_X7_seen xd_X7_seen rfl (Nat.le_of_ble_eq_true rfl) dL_law_781 ?_
  refine l_eq hC (tgt := 1605) dL_law_784 (by decide) ?_
  exact kk m2 hI2
def LP_sand (Inv : IM → Prop) : Prop := ∀ im : IM, Inv im → ∀ (a1 : Int32) (a2 : Int32), ∃ (r : Int32) (m1 m2 : IM), f_X6_sand a1 a2 im = some (r, m1) ∧ f_X7_sand a1 a2 m1 = some (r, m2) ∧ Inv m2
theorem law_sand {p : Program} {l : Launch} {e : Env} {s : State} {m : MethodId} {below : List Frame} {meth : Method} {c : Code} {b L : Nat} {xs : Nat → Int32} {g : GX} (hC : xLc p s m meth c b L xs g) {Inv : IM → Prop} (hp : LP_sand Inv) {j : Nat} (hj : j + 6 ≤ L) {im : IM} (hI : Inv im) (kk : ∀ m9, Inv m9 → xL p l e s m below meth c b g 1605 [(3, .int (nI j)), (2, .ref (g.1 82)), (1, .ref (g.1 0)), (0, .ref b)] [] m9) : xL p l e s m below meth c b g 789 [(3, .int (nI j)), (2, .ref (g.1 82)), (1, .ref (g.1 0)), (0, .ref b)] [] im := by
  obtain ⟨r, m1, m2, h1, h2, hI2⟩ := hp im hI (xs (j + 1)) (xs (j + 2))
  refine l_aload_n hC (q := 2) rfl rfl dL_law_789 ?_
  refine l_aload_n hC (q := 3) rfl rfl dL_law_790 ?_
  refine l_iload_n hC (q := 0) rfl rfl dL_law_791 ?_
  refine l_iconst hC (v := nI 1) (by decide) dL_law_792 ?_
  refine l_iadd hC dL_law_793 ?_
  refine l_sld hC (j := j + 1) (by omega) dL_law_794 ?_
  refine l_aload_n hC (q := 3) rfl rfl dL_law_795 ?_
  refine l_iload_n hC (q := 0) rfl rfl dL_law_796 ?_
  refine l_iconst hC (v := nI 2) (by decide) dL_law_797 ?_
  refine l_iadd hC dL_law_798 ?_
  refine l_sld hC (j := j + 2) (by omega) dL_law_799 ?_
  refine l_callI hC (av := [.int (xs (j + 1)), .int (xs (j + 2))]) (st := []) (m_X6_sand (xs (j + 1)) (xs (j + 2)) im (r, m1) h1) sh_0 (by decide) rfl rfl (by decide) (by decide) lk_L_93 cd_X6_sand xd_X6_sand rfl (Nat.le_of_ble_eq_true rfl) dL_law_800 ?_
  refine l_aload_n hC (q := 1) rfl rfl dL_law_803 ?_
  refine l_aload_n hC (q := 3) rfl rfl dL_law_804 ?_
  refine l_iload_n hC (q := 0) rfl rfl dL_law_805 ?_
  refine l_iconst hC (v := nI 1) (by decide) dL_law_806 ?_
  refine l_iadd hC dL_law_807 ?_
  refine l_sld hC (j := j + 1) (by omega) dL_law_808 ?_
  refine l_aload_n hC (q := 3) rfl rfl dL_law_809 ?_
  refine l_iload_n hC (q := 0) rfl rfl dL_law_810 ?_
  refine l_iconst hC (v := nI 2) (by decide) dL_law_811 ?_
  refine l_iadd hC dL_law_812 ?_
  refine l_sld hC (j := j + 2) (by omega) dL_law_813 ?_
  refine l_callI hC (av := [.int (xs (j + 1)), .int (xs (j + 2))]) (st := [.int r]) (m_X7_sand (xs (j + 1)) (xs (j + 2)) m1 (r, m2) h2) sh_82 (by decide) rfl rfl (by decide) (by decide) lk_L_96 cd_X7_sand xd_X7_sand rfl (Nat.le_of_ble_eq_true rfl) dL_law_814 ?_
  refine l_eq hC (tgt := 1605) dL_law_817 (by decide) ?_
  exact kk m2 hI2
def LP_rollsFor (Inv : IM → Prop) : Prop := ∀ im : IM, Inv im → ∀ (a1 : Int32), ∃ (r : Int32) (m1 m2 : IM), f_X6_rollsFor a1 im = some (r, m1) ∧ f_X7_rollsFor a1 m1 = some (r, m2) ∧ Inv m2
theorem law_rollsFor {p : Program} {l : Launch} {e : Env} {s : State} {m : MethodId} {below : List Frame} {meth : Method} {c : Code} {b L : Nat} {xs : Nat → Int32} {g : GX} (hC : xLc p s m meth c b L xs g) {Inv : IM → Prop} (hp : LP_rollsFor Inv) {j : Nat} (hj : j + 6 ≤ L) {im : IM} (hI : Inv im) (kk : ∀ m9, Inv m9 → xL p l e s m below meth c b g 1605 [(3, .int (nI j)), (2, .ref (g.1 82)), (1, .ref (g.1 0)), (0, .ref b)] [] m9) : xL p l e s m below meth c b g 822 [(3, .int (nI j)), (2, .ref (g.1 82)), (1, .ref (g.1 0)), (0, .ref b)] [] im := by
  obtain ⟨r, m1, m2, h1, h2, hI2⟩ := hp im hI (xs (j + 1))
  refine l_aload_n hC (q := 2) rfl rfl dL_law_822 ?_
  refine l_aload_n hC (q := 3) rfl rfl dL_law_823 ?_
  refine l_iload_n hC (q := 0) rfl rfl dL_law_824 ?_
  refine l_iconst hC (v := nI 1) (by decide) dL_law_825 ?_
  refine l_iadd hC dL_law_826 ?_
  refine l_sld hC (j := j + 1) (by omega) dL_law_827 ?_
  refine l_callI hC (av := [.int (xs (j + 1))]) (st := []) (m_X6_rollsFor (xs (j + 1)) im (r, m1) h1) sh_0 (by decide) rfl rfl (by decide) (by decide) lk_L_97 cd_X6_rollsFor xd_X6_rollsFor rfl (Nat.le_of_ble_eq_true rfl) dL_law_828 ?_
  refine l_aload_n hC (q := 1) rfl rfl dL_law_831 ?_
  refine l_aload_n hC (q := 3) rfl rfl dL_law_832 ?_
  refine l_iload_n hC (q := 0) rfl rfl dL_law_833 ?_
  refine l_iconst hC (v := nI 1) (by decide) dL_law_834 ?_
  refine l_iadd hC dL_law_835 ?_
  refine l_sld hC (j := j + 1) (by omega) dL_law_836 ?_
  refine l_callI hC (av := [.int (xs (j + 1))]) (st := [.int r]) (m_X7_rollsFor (xs (j + 1)) m1 (r, m2) h2) sh_82 (by decide) rfl rfl (by decide) (by decide) lk_L_100 cd_X7_rollsFor xd_X7_rollsFor rfl (Nat.le_of_ble_eq_true rfl) dL_law_837 ?_
  refine l_eq hC (tgt := 1605) dL_law_840 (by decide) ?_
  exact kk m2 hI2
def LP_matters (Inv : IM → Prop) : Prop := ∀ im : IM, Inv im → ∀ (a1 : Int32), ∃ (r : Int32) (m1 m2 : IM), f_X6_matters a1 im = some (r, m1) ∧ f_X7_matters a1 m1 = some (r, m2) ∧ Inv m2
theorem law_matters {p : Program} {l : Launch} {e : Env} {s : State} {m : MethodId} {below : List Frame} {meth : Method} {c : Code} {b L : Nat} {xs : Nat → Int32} {g : GX} (hC : xLc p s m meth c b L xs g) {Inv : IM → Prop} (hp : LP_matters Inv) {j : Nat} (hj : j + 6 ≤ L) {im : IM} (hI : Inv im) (kk : ∀ m9, Inv m9 → xL p l e s m below meth c b g 1605 [(3, .int (nI j)), (2, .ref (g.1 82)), (1, .ref (g.1 0)), (0, .ref b)] [] m9) : xL p l e s m below meth c b g 845 [(3, .int (nI j)), (2, .ref (g.1 82)), (1, .ref (g.1 0)), (0, .ref b)] [] im := by
  obtain ⟨r, m1, m2, h1, h2, hI2⟩ := hp im hI (xs (j + 1))
  refine l_aload_n hC (q := 2) rfl rfl dL_law_845 ?_
  refine l_aload_n hC (q := 3) rfl rfl dL_law_846 ?_
  refine l_iload_n hC (q := 0) rfl rfl dL_law_847 ?_
  refine l_iconst hC (v := nI 1) (by decide) dL_law_848 ?_
  refine l_iadd hC dL_law_849 ?_
  refine l_sld hC (j := j + 1) (by omega) dL_law_850 ?_
  refine l_callI hC (av := [.int (xs (j + 1))]) (st := []) (m_X6_matters (xs (j + 1)) im (r, m1) h1) sh_0 (by decide) rfl rfl (by decide) (by decide) lk_L_101 cd_X6_matters xd_X6_matters rfl (Nat.le_of_ble_eq_true rfl) dL_law_851 ?_
  refine l_aload_n hC (q := 1) rfl rfl dL_law_854 ?_
  refine l_aload_n hC (q := 3) rfl rfl dL_law_855 ?_
  refine l_iload_n hC (q := 0) rfl rfl dL_law_856 ?_
  refine l_iconst hC (v := nI 1) (by decide) dL_law_857 ?_
  refine l_iadd hC dL_law_858 ?_
  refine l_sld hC (j := j + 1) (by omega) dL_law_859 ?_
  refine l_callI hC (av := [.int (xs (j + 1))]) (st := [.int r]) (m_X7_matters (xs (j + 1)) m1 (r, m2) h2) sh_82 (by decide) rfl rfl (by decide) (by decide) lk_L_104 cd_X7_matters xd_X7_matters rfl (Nat.le_of_ble_eq_true rfl) dL_law_860 ?_
  refine l_eq hC (tgt := 1605) dL_law_863 (by decide) ?_
  exact kk m2 hI2
def LP_kindFor (Inv : IM → Prop) : Prop := ∀ im : IM, Inv im → ∀ (a1 : Int32), ∃ (r : Int32) (m1 m2 : IM), f_X6_kindFor a1 im = some (r, m1) ∧ f_X7_kindFor a1 m1 = some (r, m2) ∧ Inv m2
theorem law_kindFor {p : Program} {l : Launch} {e : Env} {s : State} {m : MethodId} {below : List Frame} {meth : Method} {c : Code} {b L : Nat} {xs : Nat → Int32} {g : GX} (hC : xLc p s m meth c b L xs g) {Inv : IM → Prop} (hp : LP_kindFor Inv) {j : Nat} (hj : j + 6 ≤ L) {im : IM} (hI : Inv im) (kk : ∀ m9, Inv m9 → xL p l e s m below meth c b g 1605 [(3, .int (nI j)), (2, .ref (g.1 82)), (1, .ref (g.1 0)), (0, .ref b)] [] m9) : xL p l e s m below meth c b g 868 [(3, .int (nI j)), (2, .ref (g.1 82)), (1, .ref (g.1 0)), (0, .ref b)] [] im := by
  obtain ⟨r, m1, m2, h1, h2, hI2⟩ := hp im hI (xs (j + 1))
  refine l_aload_n hC (q := 2) rfl rfl dL_law_868 ?_
  refine l_aload_n hC (q := 3) rfl rfl dL_law_869 ?_
  refine l_iload_n hC (q := 0) rfl rfl dL_law_870 ?_
  refine l_iconst hC (v := nI 1) (by decide) dL_law_871 ?_
  refine l_iadd hC dL_law_872 ?_
  refine l_sld hC (j := j + 1) (by omega) dL_law_873 ?_
  refine l_callI hC (av := [.int (xs (j + 1))]) (st := []) (m_X6_kindFor (xs (j + 1)) im (r, m1) h1) sh_0 (by decide) rfl rfl (by decide) (by decide) lk_L_105 cd_X6_kindFor xd_X6_kindFor rfl (Nat.le_of_ble_eq_true rfl) dL_law_874 ?_
  refine l_aload_n hC (q := 1) rfl rfl dL_law_877 ?_
  refine l_aload_n hC (q := 3) rfl rfl dL_law_878 ?_
  refine l_iload_n hC (q := 0) rfl rfl dL_law_879 ?_
  refine l_iconst hC (v := nI 1) (by decide) dL_law_880 ?_
  refine l_iadd hC dL_law_881 ?_
  refine l_sld hC (j := j + 1) (by omega) dL_law_882 ?_
  refine l_callI hC (av := [.int (xs (j + 1))]) (st := [.int r]) (m_X7_kindFor (xs (j + 1)) m1 (r, m2) h2) sh_82 (by decide) rfl rfl (by decide) (by decide) lk_L_108 cd_X7_kindFor xd_X7_kindFor rfl (Nat.le_of_ble_eq_true rfl) dL_law_883 ?_
  refine l_eq hC (tgt := 1605) dL_law_886 (by decide) ?_
  exact kk m2 hI2
def LP_wait (Inv : IM → Prop) : Prop := ∀ im : IM, Inv im → ∀ (a1 : Int32), ∃ (r : Int32) (m1 m2 : IM), f_X6_wait a1 im = some (r, m1) ∧ f_X7_wait a1 m1 = some (r, m2) ∧ Inv m2
theorem law_wait {p : Program} {l : Launch} {e : Env} {s : State} {m : MethodId} {below : List Frame} {meth : Method} {c : Code} {b L : Nat} {xs : Nat → Int32} {g : GX} (hC : xLc p s m meth c b L xs g) {Inv : IM → Prop} (hp : LP_wait Inv) {j : Nat} (hj : j + 6 ≤ L) {im : IM} (hI : Inv im) (kk : ∀ m9, Inv m9 → xL p l e s m below meth c b g 1605 [(3, .int (nI j)), (2, .ref (g.1 82)), (1, .ref (g.1 0)), (0, .ref b)] [] m9) : xL p l e s m below meth c b g 891 [(3, .int (nI j)), (2, .ref (g.1 82)), (1, .ref (g.1 0)), (0, .ref b)] [] im := by
  obtain ⟨r, m1, m2, h1, h2, hI2⟩ := hp im hI (xs (j + 1))
  refine l_aload_n hC (q := 2) rfl rfl dL_law_891 ?_
  refine l_aload_n hC (q := 3) rfl rfl dL_law_892 ?_
  refine l_iload_n hC (q := 0) rfl rfl dL_law_893 ?_
  refine l_iconst hC (v := nI 1) (by decide) dL_law_894 ?_
  refine l_iadd hC dL_law_895 ?_
  refine l_sld hC (j := j + 1) (by omega) dL_law_896 ?_
  refine l_callI hC (av := [.int (xs (j + 1))]) (st := []) (m_X6_wait (xs (j + 1)) im (r, m1) h1) sh_0 (by decide) rfl rfl (by decide) (by decide) lk_L_109 cd_X6_wait xd_X6_wait rfl (Nat.le_of_ble_eq_true rfl) dL_law_897 ?_
  refine l_aload_n hC (q := 1) rfl rfl dL_law_900 ?_
  refine l_aload_n hC (q := 3) rfl rfl dL_law_901 ?_
  refine l_iload_n hC (q := 0) rfl rfl dL_law_902 ?_
  refine l_iconst hC (v := nI 1) (by decide) dL_law_903 ?_
  refine l_iadd hC dL_law_904 ?_
  refine l_sld hC (j := j + 1) (by omega) dL_law_905 ?_
  refine l_callI hC (av := [.int (xs (j + 1))]) (st := [.int r]) (m_X7_wait (xs (j + 1)) m1 (r, m2) h2) sh_82 (by decide) rfl rfl (by decide) (by decide) lk_L_112 cd_X7_wait xd_X7_wait rfl (Nat.le_of_ble_eq_true rfl) dL_law_906 ?_
  refine l_eq hC (tgt := 1605) dL_law_909 (by decide) ?_
  exact kk m2 hI2
def LP_behind (Inv : IM → Prop) : Prop := ∀ im : IM, Inv im → ∀ (a1 : Int32) (a2 : Int32), ∃ (r : Int32) (m1 m2 : IM), f_X6_behind a1 a2 im = some (r, m1) ∧ f_X7_behind a1 a2 m1 = some (r, m2) ∧ Inv m2
theorem law_behind {p : Program} {l : Launch} {e : Env} {s : State} {m : MethodId} {below : List Frame} {meth : Method} {c : Code} {b L : Nat} {xs : Nat → Int32} {g : GX} (hC : xLc p s m meth c b L xs g) {Inv : IM → Prop} (hp : LP_behind Inv) {j : Nat} (hj : j + 6 ≤ L) {im : IM} (hI : Inv im) (kk : ∀ m9, Inv m9 → xL p l e s m below meth c b g 1605 [(3, .int (nI j)), (2, .ref (g.1 82)), (1, .ref (g.1 0)), (0, .ref b)] [] m9) : xL p l e s m below meth c b g 914 [(3, .int (nI j)), (2, .ref (g.1 82)), (1, .ref (g.1 0)), (0, .ref b)] [] im := by
  obtain ⟨r, m1, m2, h1, h2, hI2⟩ := hp im hI (xs (j + 1)) (xs (j + 2))
  refine l_aload_n hC (q := 2) rfl rfl dL_law_914 ?_
  refine l_aload_n hC (q := 3) rfl rfl dL_law_915 ?_
  refine l_iload_n hC (q := 0) rfl rfl dL_law_916 ?_
  refine l_iconst hC (v := nI 1) (by decide) dL_law_917 ?_
  refine l_iadd hC dL_law_918 ?_
  refine l_sld hC (j := j + 1) (by omega) dL_law_919 ?_
  refine l_aload_n hC (q := 3) rfl rfl dL_law_920 ?_
  refine l_iload_n hC (q := 0) rfl rfl dL_law_921 ?_
  refine l_iconst hC (v := nI 2) (by decide) dL_law_922 ?_
  refine l_iadd hC dL_law_923 ?_
  refine l_sld hC (j := j + 2) (by omega) dL_law_924 ?_
  refine l_callI hC (av := [.int (xs (j + 1)), .int (xs (j + 2))]) (st := []) (m_X6_behind (xs (j + 1)) (xs (j + 2)) im (r, m1) h1) sh_0 (by decide) rfl rfl (by decide) (by decide) lk_L_113 cd_X6_behind xd_X6_behind rfl (Nat.le_of_ble_eq_true rfl) dL_law_925 ?_
  refine l_aload_n hC (q := 1) rfl rfl dL_law_928 ?_
  refine l_aload_n hC (q := 3) rfl rfl dL_law_929 ?_
  refine l_iload_n hC (q := 0) rfl rfl dL_law_930 ?_
  refine l_iconst hC (v := nI 1) (by decide) dL_law_931 ?_
  refine l_iadd hC dL_law_932 ?_
  refine l_sld hC (j := j + 1) (by omega) dL_law_933 ?_
  refine l_aload_n hC (q := 3) rfl rfl dL_law_934 ?_
  refine l_iload_n hC (q := 0) rfl rfl dL_law_935 ?_
  refine l_iconst hC (v := nI 2) (by decide) dL_law_936 ?_
  refine l_iadd hC dL_law_937 ?_
  refine l_sld hC (j := j + 2) (by omega) dL_law_938 ?_
  refine l_callI hC (av := [.int (xs (j + 1)), .int (xs (j + 2))]) (st := [.int r]) (m_X7_behind (xs (j + 1)) (xs (j + 2)) m1 (r, m2) h2) sh_82 (by decide) rfl rfl (by decide) (by decide) lk_L_116 cd_X7_behind xd_X7_behind rfl (Nat.le_of_ble_eq_true rfl) dL_law_939 ?_
  refine l_eq hC (tgt := 1605) dL_law_942 (by decide) ?_
  exact kk m2 hI2
def LP_come (Inv : IM → Prop) : Prop := ∀ im : IM, Inv im → ∃ (r : Int32) (m1 m2 : IM), f_X6_come im = some (r, m1) ∧ f_X7_come m1 = some (r, m2) ∧ Inv m2
theorem law_come {p : Program} {l : Launch} {e : Env} {s : State} {m : MethodId} {below : List Frame} {meth : Method} {c : Code} {b L : Nat} {xs : Nat → Int32} {g : GX} (hC : xLc p s m meth c b L xs g) {Inv : IM → Prop} (hp : LP_come Inv) {j : Nat} (hj : j + 6 ≤ L) {im : IM} (hI : Inv im) (kk : ∀ m9, Inv m9 → xL p l e s m below meth c b g 1605 [(3, .int (nI j)), (2, .ref (g.1 82)), (1, .ref (g.1 0)), (0, .ref b)] [] m9) : xL p l e s m below meth c b g 947 [(3, .int (nI j)), (2, .ref (g.1 82)), (1, .ref (g.1 0)), (0, .ref b)] [] im := by
  obtain ⟨r, m1, m2, h1, h2, hI2⟩ := hp im hI 
  refine l_aload_n hC (q := 2) rfl rfl dL_law_947 ?_
  refine l_callI hC (av := []) (st := []) (m_X6_come  im (r, m1) h1) sh_0 (by decide) rfl rfl (by decide) (by decide) lk_L_117 cd_X6_come xd_X6_come rfl (Nat.le_of_ble_eq_true rfl) dL_law_948 ?_
  refine l_aload_n hC (q := 1) rfl rfl dL_law_951 ?_
  refine l_callI hC (av := []) (st := [.int r]) (m_X7_come  m1 (r, m2) h2) sh_82 (by decide) rfl rfl (by decide) (by decide) lk_L_120 cd_X7_come xd_X7_come rfl (Nat.le_of_ble_eq_true rfl) dL_law_952 ?_
  refine l_eq hC (tgt := 1605) dL_law_955 (by decide) ?_
  exact kk m2 hI2
def LP_pack (Inv : IM → Prop) : Prop := ∀ im : IM, Inv im → ∀ (a1 : Int32), ∃ (r : Int32) (m1 m2 : IM), f_X6_pack a1 im = some (r, m1) ∧ f_X7_pack a1 m1 = some (r, m2) ∧ Inv m2
theorem law_pack {p : Program} {l : Launch} {e : Env} {s : State} {m : MethodId} {below : List Frame} {meth : Method} {c : Code} {b L : Nat} {xs : Nat → Int32} {g : GX} (hC : xLc p s m meth c b L xs g) {Inv : IM → Prop} (hp : LP_pack Inv) {j : Nat} (hj : j + 6 ≤ L) {im : IM} (hI : Inv im) (kk : ∀ m9, Inv m9 → xL p l e s m below meth c b g 1605 [(3, .int (nI j)), (2, .ref (g.1 82)), (1, .ref (g.1 0)), (0, .ref b)] [] m9) : xL p l e s m below meth c b g 960 [(3, .int (nI j)), (2, .ref (g.1 82)), (1, .ref (g.1 0)), (0, .ref b)] [] im := by
  obtain ⟨r, m1, m2, h1, h2, hI2⟩ := hp im hI (xs (j + 1))
  refine l_aload_n hC (q := 2) rfl rfl dL_law_960 ?_
  refine l_aload_n hC (q := 3) rfl rfl dL_law_961 ?_
  refine l_iload_n hC (q := 0) rfl rfl dL_law_962 ?_
  refine l_iconst hC (v := nI 1) (by decide) dL_law_963 ?_
  refine l_iadd hC dL_law_964 ?_
  refine l_sld hC (j := j + 1) (by omega) dL_law_965 ?_
  refine l_callI hC (av := [.int (xs (j + 1))]) (st := []) (m_X6_pack (xs (j + 1)) im (r, m1) h1) sh_0 (by decide) rfl rfl (by decide) (by decide) lk_L_121 cd_X6_pack xd_X6_pack rfl (Nat.le_of_ble_eq_true rfl) dL_law_966 ?_
  refine l_aload_n hC (q := 1) rfl rfl dL_law_969 ?_
  refine l_aload_n hC (q := 3) rfl rfl dL_law_970 ?_
  refine l_iload_n hC (q := 0) rfl rfl dL_law_971 ?_
  refine l_iconst hC (v := nI 1) (by decide) dL_law_972 ?_
  refine l_iadd hC dL_law_973 ?_
  refine l_sld hC (j := j + 1) (by omega) dL_law_974 ?_
  refine l_callI hC (av := [.int (xs (j + 1))]) (st := [.int r]) (m_X7_pack (xs (j + 1)) m1 (r, m2) h2) sh_82 (by decide) rfl rfl (by decide) (by decide) lk_L_124 cd_X7_pack xd_X7_pack rfl (Nat.le_of_ble_eq_true rfl) dL_law_975 ?_
  refine l_eq hC (tgt := 1605) dL_law_978 (by decide) ?_
  exact kk m2 hI2
def LP_lean (Inv : IM → Prop) : Prop := ∀ im : IM, Inv im → ∀ (a1 : Int32), ∃ (r : Int32) (m1 m2 : IM), f_X6_lean a1 im = some (r, m1) ∧ f_X7_lean a1 m1 = some (r, m2) ∧ Inv m2
theorem law_lean {p : Program} {l : Launch} {e : Env} {s : State} {m : MethodId} {below : List Frame} {meth : Method} {c : Code} {b L : Nat} {xs : Nat → Int32} {g : GX} (hC : xLc p s m meth c b L xs g) {Inv : IM → Prop} (hp : LP_lean Inv) {j : Nat} (hj : j + 6 ≤ L) {im : IM} (hI : Inv im) (kk : ∀ m9, Inv m9 → xL p l e s m below meth c b g 1605 [(3, .int (nI j)), (2, .ref (g.1 82)), (1, .ref (g.1 0)), (0, .ref b)] [] m9) : xL p l e s m below meth c b g 983 [(3, .int (nI j)), (2, .ref (g.1 82)), (1, .ref (g.1 0)), (0, .ref b)] [] im := by
  obtain ⟨r, m1, m2, h1, h2, hI2⟩ := hp im hI (xs (j + 1))
  refine l_aload_n hC (q := 2) rfl rfl dL_law_983 ?_
  refine l_aload_n hC (q := 3) rfl rfl dL_law_984 ?_
  refine l_iload_n hC (q := 0) rfl rfl dL_law_985 ?_
  refine l_iconst hC (v := nI 1) (by decide) dL_law_986 ?_
  refine l_iadd hC dL_law_987 ?_
  refine l_sld hC (j := j + 1) (by omega) dL_law_988 ?_
  refine l_callI hC (av := [.int (xs (j + 1))]) (st := []) (m_X6_lean (xs (j + 1)) im (r, m1) h1) sh_0 (by decide) rfl rfl (by decide) (by decide) lk_L_125 cd_X6_lean xd_X6_lean rfl (Nat.le_of_ble_eq_true rfl) dL_law_989 ?_
  refine l_aload_n hC (q := 1) rfl rfl dL_law_992 ?_
  refine l_aload_n hC (q := 3) rfl rfl dL_law_993 ?_
  refine l_iload_n hC (q := 0) rfl rfl dL_law_994 ?_
  refine l_iconst hC (v := nI 1) (by decide) dL_law_995 ?_
  refine l_iadd hC dL_law_996 ?_
  refine l_sld hC (j := j + 1) (by omega) dL_law_997 ?_
  refine l_callI hC (av := [.int (xs (j + 1))]) (st := [.int r]) (m_X7_lean (xs (j + 1)) m1 (r, m2) h2) sh_82 (by decide) rfl rfl (by decide) (by decide) lk_L_128 cd_X7_lean xd_X7_lean rfl (Nat.le_of_ble_eq_true rfl) dL_law_998 ?_
  refine l_eq hC (tgt := 1605) dL_law_1001 (by decide) ?_
  exact kk m2 hI2
def LP_drums (Inv : IM → Prop) : Prop := ∀ im : IM, Inv im → ∀ (a1 : Int32) (a2 : Int32), ∃ (r : Int32) (m1 m2 : IM), f_X6_drums a1 a2 im = some (r, m1) ∧ f_X7_drums a1 a2 m1 = some (r, m2) ∧ Inv m2
theorem law_drums {p : Program} {l : Launch} {e : Env} {s : State} {m : MethodId} {below : List Frame} {meth : Method} {c : Code} {b L : Nat} {xs : Nat → Int32} {g : GX} (hC : xLc p s m meth c b L xs g) {Inv : IM → Prop} (hp : LP_drums Inv) {j : Nat} (hj : j + 6 ≤ L) {im : IM} (hI : Inv im) (kk : ∀ m9, Inv m9 → xL p l e s m below meth c b g 1605 [(3, .int (nI j)), (2, .ref (g.1 82)), (1, .ref (g.1 0)), (0, .ref b)] [] m9) : xL p l e s m below meth c b g 1006 [(3, .int (nI j)), (2, .ref (g.1 82)), (1, .ref (g.1 0)), (0, .ref b)] [] im := by
  obtain ⟨r, m1, m2, h1, h2, hI2⟩ := hp im hI (xs (j + 1)) (xs (j + 2))
  refine l_aload_n hC (q := 2) rfl rfl dL_law_1006 ?_
  refine l_aload_n hC (q := 3) rfl rfl dL_law_1007 ?_
  refine l_iload_n hC (q := 0) rfl rfl dL_law_1008 ?_
  refine l_iconst hC (v := nI 1) (by decide) dL_law_1009 ?_
  refine l_iadd hC dL_law_1010 ?_
  refine l_sld hC (j := j + 1) (by omega) dL_law_1011 ?_
  refine l_aload_n hC (q := 3) rfl rfl dL_law_1012 ?_
  refine l_iload_n hC (q := 0) rfl rfl dL_law_1013 ?_
  refine l_iconst hC (v := nI 2) (by decide) dL_law_1014 ?_
  refine l_iadd hC dL_law_1015 ?_
  refine l_sld hC (j := j + 2) (by omega) dL_law_1016 ?_
  refine l_callI hC (av := [.int (xs (j + 1)), .int (xs (j + 2))]) (st := []) (m_X6_drums (xs (j + 1)) (xs (j + 2)) im (r, m1) h1) sh_0 (by decide) rfl rfl (by decide) (by decide) lk_L_129 cd_X6_drums xd_X6_drums rfl (Nat.le_of_ble_eq_true rfl) dL_law_1017 ?_
  refine l_aload_n hC (q := 1) rfl rfl dL_law_1020 ?_
  refine l_aload_n hC (q := 3) rfl rfl dL_law_1021 ?_
  refine l_iload_n hC (q := 0) rfl rfl dL_law_1022 ?_
  refine l_iconst hC (v := nI 1) (by decide) dL_law_1023 ?_
  refine l_iadd hC dL_law_1024 ?_
  refine l_sld hC (j := j + 1) (by omega) dL_law_1025 ?_
  refine l_aload_n hC (q := 3) rfl rfl dL_law_1026 ?_
  refine l_iload_n hC (q := 0) rfl rfl dL_law_1027 ?_
  refine l_iconst hC (v := nI 2) (by decide) dL_law_1028 ?_
  refine l_iadd hC dL_law_1029 ?_
  refine l_sld hC (j := j + 2) (by omega) dL_law_1030 ?_
  refine l_callI hC (av := [.int (xs (j + 1)), .int (xs (j + 2))]) (st := [.int r]) (m_X7_drums (xs (j + 1)) (xs (j + 2)) m1 (r, m2) h2) sh_82 (by decide) rfl rfl (by decide) (by decide) lk_L_132 cd_X7_drums xd_X7_drums rfl (Nat.le_of_ble_eq_true rfl) dL_law_1031 ?_
  refine l_eq hC (tgt := 1605) dL_law_1034 (by decide) ?_
  exact kk m2 hI2
def LP_waits (Inv : IM → Prop) : Prop := ∀ im : IM, Inv im → ∃ (r : Int32) (m1 : IM), f_X6_waits im = some (r, m1) ∧ f_X7_waits m1 = some r ∧ Inv m1
theorem law_waits {p : Program} {l : Launch} {e : Env} {s : State} {m : MethodId} {below : List Frame} {meth : Method} {c : Code} {b L : Nat} {xs : Nat → Int32} {g : GX} (hC : xLc p s m meth c b L xs g) {Inv : IM → Prop} (hp : LP_waits Inv) {j : Nat} (hj : j + 6 ≤ L) {im : IM} (hI : Inv im) (kk : ∀ m9, Inv m9 → xL p l e s m below meth c b g 1605 [(3, .int (nI j)), (2, .ref (g.1 82)), (1, .ref (g.1 0)), (0, .ref b)] [] m9) : xL p l e s m below meth c b g 1039 [(3, .int (nI j)), (2, .ref (g.1 82)), (1, .ref (g.1 0)), (0, .ref b)] [] im := by
  obtain ⟨r, m1, h1, h2, hI2⟩ := hp im hI 
  refine l_aload_n hC (q := 2) rfl rfl dL_law_1039 ?_
  refine l_callI hC (av := []) (st := []) (m_X6_waits  im (r, m1) h1) sh_0 (by decide) rfl rfl (by decide) (by decide) lk_L_133 cd_X6_waits xd_X6_waits rfl (Nat.le_of_ble_eq_true rfl) dL_law_1040 ?_
  refine l_aload_n hC (q := 1) rfl rfl dL_law_1043 ?_
  refine l_callR hC (av := []) (st := [.int r]) (m_X7_waits  m1 r h2) sh_82 (by decide) rfl rfl (by decide) (by decide) lk_L_136 cd_X7_waits xd_X7_waits rfl (Nat.le_of_ble_eq_true rfl) dL_law_1044 ?_
  refine l_eq hC (tgt := 1605) dL_law_1047 (by decide) ?_
  exact kk m1 hI2
def LP_least (Inv : IM → Prop) : Prop := ∀ im : IM, Inv im → ∃ (r : Int32) (m1 m2 : IM), f_X6_least im = some (r, m1) ∧ f_X7_least m1 = some (r, m2) ∧ Inv m2
theorem law_least {p : Program} {l : Launch} {e : Env} {s : State} {m : MethodId} {below : List Frame} {meth : Method} {c : Code} {b L : Nat} {xs : Nat → Int32} {g : GX} (hC : xLc p s m meth c b L xs g) {Inv : IM → Prop} (hp : LP_least Inv) {j : Nat} (hj : j + 6 ≤ L) {im : IM} (hI : Inv im) (kk : ∀ m9, Inv m9 → xL p l e s m below meth c b g 1605 [(3, .int (nI j)), (2, .ref (g.1 82)), (1, .ref (g.1 0)), (0, .ref b)] [] m9) : xL p l e s m below meth c b g 1052 [(3, .int (nI j)), (2, .ref (g.1 82)), (1, .ref (g.1 0)), (0, .ref b)] [] im := by
  obtain ⟨r, m1, m2, h1, h2, hI2⟩ := hp im hI 
  refine l_aload_n hC (q := 2) rfl rfl dL_law_1052 ?_
  refine l_callI hC (av := []) (st := []) (m_X6_least  im (r, m1) h1) sh_0 (by decide) rfl rfl (by decide) (by decide) lk_L_137 cd_X6_least xd_X6_least rfl (Nat.le_of_ble_eq_true rfl) dL_law_1053 ?_
  refine l_aload_n hC (q := 1) rfl rfl dL_law_1056 ?_
  refine l_callI hC (av := []) (st := [.int r]) (m_X7_least  m1 (r, m2) h2) sh_82 (by decide) rfl rfl (by decide) (by decide) lk_L_140 cd_X7_least xd_X7_least rfl (Nat.le_of_ble_eq_true rfl) dL_law_1057 ?_
  refine l_eq hC (tgt := 1605) dL_law_1060 (by decide) ?_
  exact kk m2 hI2
def LP_order (Inv : IM → Prop) : Prop := ∀ im : IM, Inv im → ∀ (a1 : Int32), ∃ (r : Int32) (m1 m2 : IM), f_X6_order a1 im = some (r, m1) ∧ f_X7_order a1 m1 = some (r, m2) ∧ Inv m2
theorem law_order {p : Program} {l : Launch} {e : Env} {s : State} {m : MethodId} {below : List Frame} {meth : Method} {c : Code} {b L : Nat} {xs : Nat → Int32} {g : GX} (hC : xLc p s m meth c b L xs g) {Inv : IM → Prop} (hp : LP_order Inv) {j : Nat} (hj : j + 6 ≤ L) {im : IM} (hI : Inv im) (kk : ∀ m9, Inv m9 → xL p l e s m below meth c b g 1605 [(3, .int (nI j)), (2, .ref (g.1 82)), (1, .ref (g.1 0)), (0, .ref b)] [] m9) : xL p l e s m below meth c b g 1065 [(3, .int (nI j)), (2, .ref (g.1 82)), (1, .ref (g.1 0)), (0, .ref b)] [] im := by
  obtain ⟨r, m1, m2, h1, h2, hI2⟩ := hp im hI (xs (j + 1))
  refine l_aload_n hC (q := 2) rfl rfl dL_law_1065 ?_
  refine l_aload_n hC (q := 3) rfl rfl dL_law_1066 ?_
  refine l_iload_n hC (q := 0) rfl rfl dL_law_1067 ?_
  refine l_iconst hC (v := nI 1) (by decide) dL_law_1068 ?_
  refine l_iadd hC dL_law_1069 ?_
  refine l_sld hC (j := j + 1) (by omega) dL_law_1070 ?_
  refine l_callI hC (av := [.int (xs (j + 1))]) (st := []) (m_X6_order (xs (j + 1)) im (r, m1) h1) sh_0 (by decide) rfl rfl (by decide) (by decide) lk_L_141 cd_X6_order xd_X6_order rfl (Nat.le_of_ble_eq_true rfl) dL_law_1071 ?_
  refine l_aload_n hC (q := 1) rfl rfl dL_law_1074 ?_
  refine l_aload_n hC (q := 3) rfl rfl dL_law_1075 ?_
  refine l_iload_n hC (q := 0) rfl rfl dL_law_1076 ?_
  refine l_iconst hC (v := nI 1) (by decide) dL_law_1077 ?_
  refine l_iadd hC dL_law_1078 ?_
  refine l_sld hC (j := j + 1) (by omega) dL_law_1079 ?_
  refine l_callI hC (av := [.int (xs (j + 1))]) (st := [.int r]) (m_X7_order (xs (j + 1)) m1 (r, m2) h2) sh_82 (by decide) rfl rfl (by decide) (by decide) lk_L_144 cd_X7_order xd_X7_order rfl (Nat.le_of_ble_eq_true rfl) dL_law_1080 ?_
  refine l_eq hC (tgt := 1605) dL_law_1083 (by decide) ?_
  exact kk m2 hI2
def LP_wheel (Inv : IM → Prop) : Prop := ∀ im : IM, Inv im → ∀ (a1 : Int32), ∃ (r : Int32) (m1 m2 : IM), f_X6_wheel a1 im = some (r, m1) ∧ f_X7_wheel a1 m1 = some (r, m2) ∧ Inv m2
theorem law_wheel {p : Program} {l : Launch} {e : Env} {s : State} {m : MethodId} {below : List Frame} {meth : Method} {c : Code} {b L : Nat} {xs : Nat → Int32} {g : GX} (hC : xLc p s m meth c b L xs g) {Inv : IM → Prop} (hp : LP_wheel Inv) {j : Nat} (hj : j + 6 ≤ L) {im : IM} (hI : Inv im) (kk : ∀ m9, Inv m9 → xL p l e s m below meth c b g 1605 [(3, .int (nI j)), (2, .ref (g.1 82)), (1, .ref (g.1 0)), (0, .ref b)] [] m9) : xL p l e s m below meth c b g 1088 [(3, .int (nI j)), (2, .ref (g.1 82)), (1, .ref (g.1 0)), (0, .ref b)] [] im := by
  obtain ⟨r, m1, m2, h1, h2, hI2⟩ := hp im hI (xs (j + 1))
  refine l_aload_n hC (q := 2) rfl rfl dL_law_1088 ?_
  refine l_aload_n hC (q := 3) rfl rfl dL_law_1089 ?_
  refine l_iload_n hC (q := 0) rfl rfl dL_law_1090 ?_
  refine l_iconst hC (v := nI 1) (by decide) dL_law_1091 ?_
  refine l_iadd hC dL_law_1092 ?_
  refine l_sld hC (j := j + 1) (by omega) dL_law_1093 ?_
  refine l_callI hC (av := [.int (xs (j + 1))]) (st := []) (m_X6_wheel (xs (j + 1)) im (r, m1) h1) sh_0 (by decide) rfl rfl (by decide) (by decide) lk_L_145 cd_X6_wheel xd_X6_wheel rfl (Nat.le_of_ble_eq_true rfl) dL_law_1094 ?_
  refine l_aload_n hC (q := 1) rfl rfl dL_law_1097 ?_
  refine l_aload_n hC (q := 3) rfl rfl dL_law_1098 ?_
  refine l_iload_n hC (q := 0) rfl rfl dL_law_1099 ?_
  refine l_iconst hC (v := nI 1) (by decide) dL_law_1100 ?_
  refine l_iadd hC dL_law_1101 ?_
  refine l_sld hC (j := j + 1) (by omega) dL_law_1102 ?_
  refine l_callI hC (av := [.int (xs (j + 1))]) (st := [.int r]) (m_X7_wheel (xs (j + 1)) m1 (r, m2) h2) sh_82 (by decide) rfl rfl (by decide) (by decide) lk_L_148 cd_X7_wheel xd_X7_wheel rfl (Nat.le_of_ble_eq_true rfl) dL_law_1103 ?_
  refine l_eq hC (tgt := 1605) dL_law_1106 (by decide) ?_
  exact kk m2 hI2
def LP_odds (Inv : IM → Prop) : Prop := ∀ im : IM, Inv im → ∀ (a1 : Int32) (a2 : Int32), ∃ (r : Int32) (m1 m2 : IM), f_X6_odds a1 a2 im = some (r, m1) ∧ f_X7_odds a1 a2 m1 = some (r, m2) ∧ Inv m2
theorem law_odds {p : Program} {l : Launch} {e : Env} {s : State} {m : MethodId} {below : List Frame} {meth : Method} {c : Code} {b L : Nat} {xs : Nat → Int32} {g : GX} (hC : xLc p s m meth c b L xs g) {Inv : IM → Prop} (hp : LP_odds Inv) {j : Nat} (hj : j + 6 ≤ L) {im : IM} (hI : Inv im) (kk : ∀ m9, Inv m9 → xL p l e s m below meth c b g 1605 [(3, .int (nI j)), (2, .ref (g.1 82)), (1, .ref (g.1 0)), (0, .ref b)] [] m9) : xL p l e s m below meth c b g 1111 [(3, .int (nI j)), (2, .ref (g.1 82)), (1, .ref (g.1 0)), (0, .ref b)] [] im := by
  obtain ⟨r, m1, m2, h1, h2, hI2⟩ := hp im hI (xs (j + 1)) (xs (j + 2))
  refine l_aload_n hC (q := 2) rfl rfl dL_law_1111 ?_
  refine l_aload_n hC (q := 3) rfl rfl dL_law_1112 ?_
  refine l_iload_n hC (q := 0) rfl rfl dL_law_1113 ?_
  refine l_iconst hC (v := nI 1) (by decide) dL_law_1114 ?_
  refine l_iadd hC dL_law_1115 ?_
  refine l_sld hC (j := j + 1) (by omega) dL_law_1116 ?_
  refine l_aload_n hC (q := 3) rfl rfl dL_law_1117 ?_
  refine l_iload_n hC (q := 0) rfl rfl dL_law_1118 ?_
  refine l_iconst hC (v := nI 2) (by decide) dL_law_1119 ?_
  refine l_iadd hC dL_law_1120 ?_
  refine l_sld hC (j := j + 2) (by omega) dL_law_1121 ?_
  refine l_callI hC (av := [.int (xs (j + 1)), .int (xs (j + 2))]) (st := []) (m_X6_odds (xs (j + 1)) (xs (j + 2)) im (r, m1) h1) sh_0 (by decide) rfl rfl (by decide) (by decide) lk_L_149 cd_X6_odds xd_X6_odds rfl (Nat.le_of_ble_eq_true rfl) dL_law_1122 ?_
  refine l_aload_n hC (q := 1) rfl rfl dL_law_1125 ?_
  refine l_aload_n hC (q := 3) rfl rfl dL_law_1126 ?_
  refine l_iload_n hC (q := 0) rfl rfl dL_law_1127 ?_
  refine l_iconst hC (v := nI 1) (by decide) dL_law_1128 ?_
  refine l_iadd hC dL_law_1129 ?_
  refine l_sld hC (j := j + 1) (by omega) dL_law_1130 ?_
  refine l_aload_n hC (q := 3) rfl rfl dL_law_1131 ?_
  refine l_iload_n hC (q := 0) rfl rfl dL_law_1132 ?_
  refine l_iconst hC (v := nI 2) (by decide) dL_law_1133 ?_
  refine l_iadd hC dL_law_1134 ?_
  refine l_sld hC (j := j + 2) (by omega) dL_law_1135 ?_
  refine l_callI hC (av := [.int (xs (j + 1)), .int (xs (j + 2))]) (st := [.int r]) (m_X7_odds (xs (j + 1)) (xs (j + 2)) m1 (r, m2) h2) sh_82 (by decide) rfl rfl (by decide) (by decide) lk_L_152 cd_X7_odds xd_X7_odds rfl (Nat.le_of_ble_eq_true rfl) dL_law_1136 ?_
  refine l_eq hC (tgt := 1605) dL_law_1139 (by decide) ?_
  exact kk m2 hI2
def LP_worst (Inv : IM → Prop) : Prop := ∀ im : IM, Inv im → ∃ (r : Int32) (m1 m2 : IM), f_X6_worst im = some (r, m1) ∧ f_X7_worst m1 = some (r, m2) ∧ Inv m2
theorem law_worst {p : Program} {l : Launch} {e : Env} {s : State} {m : MethodId} {below : List Frame} {meth : Method} {c : Code} {b L : Nat} {xs : Nat → Int32} {g : GX} (hC : xLc p s m meth c b L xs g) {Inv : IM → Prop} (hp : LP_worst Inv) {j : Nat} (hj : j + 6 ≤ L) {im : IM} (hI : Inv im) (kk : ∀ m9, Inv m9 → xL p l e s m below meth c b g 1605 [(3, .int (nI j)), (2, .ref (g.1 82)), (1, .ref (g.1 0)), (0, .ref b)] [] m9) : xL p l e s m below meth c b g 1144 [(3, .int (nI j)), (2, .ref (g.1 82)), (1, .ref (g.1 0)), (0, .ref b)] [] im := by
  obtain ⟨r, m1, m2, h1, h2, hI2⟩ := hp im hI 
  refine l_aload_n hC (q := 2) rfl rfl dL_law_1144 ?_
  refine l_callI hC (av := []) (st := []) (m_X6_worst  im (r, m1) h1) sh_0 (by decide) rfl rfl (by decide) (by decide) lk_L_153 cd_X6_worst xd_X6_worst rfl (Nat.le_of_ble_eq_true rfl) dL_law_1145 ?_
  refine l_aload_n hC (q := 1) rfl rfl dL_law_1148 ?_
  refine l_callI hC (av := []) (st := [.int r]) (m_X7_worst  m1 (r, m2) h2) sh_82 (by decide) rfl rfl (by decide) (by decide) lk_L_156 cd_X7_worst xd_X7_worst rfl (Nat.le_of_ble_eq_true rfl) dL_law_1149 ?_
  refine l_eq hC (tgt := 1605) dL_law_1152 (by decide) ?_
  exact kk m2 hI2
def LP_seed (Inv : IM → Prop) : Prop := ∀ im : IM, Inv im → ∀ (a1 : Int32), ∃ (r : Int32) (m1 m2 : IM), some (f_X6_seed a1 im) = some (r, m1) ∧ some (f_X7_seed a1 m1) = some (r, m2) ∧ Inv m2
theorem law_seed {p : Program} {l : Launch} {e : Env} {s : State} {m : MethodId} {below : List Frame} {meth : Method} {c : Code} {b L : Nat} {xs : Nat → Int32} {g : GX} (hC : xLc p s m meth c b L xs g) {Inv : IM → Prop} (hp : LP_seed Inv) {j : Nat} (hj : j + 6 ≤ L) {im : IM} (hI : Inv im) (kk : ∀ m9, Inv m9 → xL p l e s m below meth c b g 1605 [(3, .int (nI j)), (2, .ref (g.1 82)), (1, .ref (g.1 0)), (0, .ref b)] [] m9) : xL p l e s m below meth c b g 1157 [(3, .int (nI j)), (2, .ref (g.1 82)), (1, .ref (g.1 0)), (0, .ref b)] [] im := by
  obtain ⟨r, m1, m2, h1, h2, hI2⟩ := hp im hI (xs (j + 1))
  refine l_aload_n hC (q := 2) rfl rfl dL_law_1157 ?_
  refine l_aload_n hC (q := 3) rfl rfl dL_law_1158 ?_
  refine l_iload_n hC (q := 0) rfl rfl dL_law_1159 ?_
  refine l_iconst hC (v := nI 1) (by decide) dL_law_1160 ?_
  refine l_iadd hC dL_law_1161 ?_
  refine l_sld hC (j := j + 1) (by omega) dL_law_1162 ?_
  refine l_callI hC (av := [.int (xs (j + 1))]) (st := []) (by have h := m_X6_seed (g := g) (xs (j + 1)) im; rw [Option.some.inj h1] at h; exact h) sh_0 (by decide) rfl rfl (by decide) (by decide) lk_L_157 cd_X6_seed xd_X6_seed rfl (Nat.le_of_ble_eq_true rfl) dL_law_1163 ?_
  refine l_aload_n hC (q := 1) rfl rfl dL_law_1166 ?_
  refine l_aload_n hC (q := 3) rfl rfl dL_law_1167 ?_
  refine l_iload_n hC (q := 0) rfl rfl dL_law_1168 ?_
  refine l_iconst hC (v := nI 1) (by decide) dL_law_1169 ?_
  refine l_iadd hC dL_law_1170 ?_
  refine l_sld hC (j := j + 1) (by omega) dL_law_1171 ?_
  refine l_callI hC (av := [.int (xs (j + 1))]) (st := [.int r]) (by have h := m_X7_seed (g := g) (xs (j + 1)) m1; rw [Option.some.inj h2] at h; exact h) sh_82 (by decide) rfl rfl (by decide) (by decide) lk_L_160 cd_X7_seed xd_X7_seed rfl (Nat.le_of_ble_eq_true rfl) dL_law_1172 ?_
  refine l_eq hC (tgt := 1605) dL_law_1175 (by decide) ?_
  exact kk m2 hI2
def LP_feed (Inv : IM → Prop) : Prop := ∀ im : IM, Inv im → ∀ (a1 : Int32) (a2 : Int32), ∃ (r : Int32) (m1 m2 : IM), f_X6_feed a1 a2 im = some (r, m1) ∧ f_X7_feed a1 a2 m1 = some (r, m2) ∧ Inv m2
theorem law_feed {p : Program} {l : Launch} {e : Env} {s : State} {m : MethodId} {below : List Frame} {meth : Method} {c : Code} {b L : Nat} {xs : Nat → Int32} {g : GX} (hC : xLc p s m meth c b L xs g) {Inv : IM → Prop} (hp : LP_feed Inv) {j : Nat} (hj : j + 6 ≤ L) {im : IM} (hI : Inv im) (kk : ∀ m9, Inv m9 → xL p l e s m below meth c b g 1605 [(3, .int (nI j)), (2, .ref (g.1 82)), (1, .ref (g.1 0)), (0, .ref b)] [] m9) : xL p l e s m below meth c b g 1180 [(3, .int (nI j)), (2, .ref (g.1 82)), (1, .ref (g.1 0)), (0, .ref b)] [] im := by
  obtain ⟨r, m1, m2, h1, h2, hI2⟩ := hp im hI (xs (j + 1)) (xs (j + 2))
  refine l_aload_n hC (q := 2) rfl rfl dL_law_1180 ?_
  refine l_aload_n hC (q := 3) rfl rfl dL_law_1181 ?_
  refine l_iload_n hC (q := 0) rfl rfl dL_law_1182 ?_
  refine l_iconst hC (v := nI 1) (by decide) dL_law_1183 ?_
  refine l_iadd hC dL_law_1184 ?_
  refine l_sld hC (j := j + 1) (by omega) dL_law_1185 ?_
  refine l_aload_n hC (q := 3) rfl rfl dL_law_1186 ?_
  refine l_iload_n hC (q := 0) rfl rfl dL_law_1187 ?_
  refine l_iconst hC (v := nI 2) (by decide) dL_law_1188 ?_
  refine l_iadd hC dL_law_1189 ?_
  refine l_sld hC (j := j + 2) (by omega) dL_law_1190 ?_
  refine l_callI hC (av := [.int (xs (j + 1)), .int (xs (j + 2))]) (st := []) (m_X6_feed (xs (j + 1)) (xs (j + 2)) im (r, m1) h1) sh_0 (by decide) rfl rfl (by decide) (by decide) lk_L_161 cd_X6_feed xd_X6_feed rfl (Nat.le_of_ble_eq_true rfl) dL_law_1191 ?_
  refine l_aload_n hC (q := 1) rfl rfl dL_law_1194 ?_
  refine l_aload_n hC (q := 3) rfl rfl dL_law_1195 ?_
  refine l_iload_n hC (q := 0) rfl rfl dL_law_1196 ?_
  refine l_iconst hC (v := nI 1) (by decide) dL_law_1197 ?_
  refine l_iadd hC dL_law_1198 ?_
  refine l_sld hC (j := j + 1) (by omega) dL_law_1199 ?_
  refine l_aload_n hC (q := 3) rfl rfl dL_law_1200 ?_
  refine l_iload_n hC (q := 0) rfl rfl dL_law_1201 ?_
  refine l_iconst hC (v := nI 2) (by decide) dL_law_1202 ?_
  refine l_iadd hC dL_law_1203 ?_
  refine l_sld hC (j := j + 2) (by omega) dL_law_1204 ?_
  refine l_callI hC (av := [.int (xs (j + 1)), .int (xs (j + 2))]) (st := [.int r]) (m_X7_feed (xs (j + 1)) (xs (j + 2)) m1 (r, m2) h2) sh_82 (by decide) rfl rfl (by decide) (by decide) lk_L_164 cd_X7_feed xd_X7_feed rfl (Nat.le_of_ble_eq_true rfl) dL_law_1205 ?_
  refine l_eq hC (tgt := 1605) dL_law_1208 (by decide) ?_
  exact kk m2 hI2
def LP_wipe (Inv : IM → Prop) : Prop := ∀ im : IM, Inv im → ∃ (r : Int32) (m1 m2 : IM), some (f_X6_wipe im) = some (r, m1) ∧ some (f_X7_wipe m1) = some (r, m2) ∧ Inv m2
theorem law_wipe {p : Program} {l : Launch} {e : Env} {s : State} {m : MethodId} {below : List Frame} {meth : Method} {c : Code} {b L : Nat} {xs : Nat → Int32} {g : GX} (hC : xLc p s m meth c b L xs g) {Inv : IM → Prop} (hp : LP_wipe Inv) {j : Nat} (hj : j + 6 ≤ L) {im : IM} (hI : Inv im) (kk : ∀ m9, Inv m9 → xL p l e s m below meth c b g 1605 [(3, .int (nI j)), (2, .ref (g.1 82)), (1, .ref (g.1 0)), (0, .ref b)] [] m9) : xL p l e s m below meth c b g 1213 [(3, .int (nI j)), (2, .ref (g.1 82)), (1, .ref (g.1 0)), (0, .ref b)] [] im := by
  obtain ⟨r, m1, m2, h1, h2, hI2⟩ := hp im hI 
  refine l_aload_n hC (q := 2) rfl rfl dL_law_1213 ?_
  refine l_callI hC (av := []) (st := []) (by have h := m_X6_wipe (g := g)  im; rw [Option.some.inj h1] at h; exact h) sh_0 (by decide) rfl rfl (by decide) (by decide) lk_L_165 cd_X6_wipe xd_X6_wipe rfl (Nat.le_of_ble_eq_true rfl) dL_law_1214 ?_
  refine l_aload_n hC (q := 1) rfl rfl dL_law_1217 ?_
  refine l_callI hC (av := []) (st := [.int r]) (by have h := m_X7_wipe (g := g)  m1; rw [Option.some.inj h2] at h; exact h) sh_82 (by decide) rfl rfl (by decide) (by decide) lk_L_168 cd_X7_wipe xd_X7_wipe rfl (Nat.le_of_ble_eq_true rfl) dL_law_1218 ?_
  refine l_eq hC (tgt := 1605) dL_law_1221 (by decide) ?_
  exact kk m2 hI2
def LP_text (Inv : IM → Prop) : Prop := ∀ im : IM, Inv im → ∃ (r : Int32) (m1 m2 : IM), f_X6_text im = some (r, m1) ∧ f_X7_text m1 = some (r, m2) ∧ Inv m2
theorem law_text {p : Program} {l : Launch} {e : Env} {s : State} {m : MethodId} {below : List Frame} {meth : Method} {c : Code} {b L : Nat} {xs : Nat → Int32} {g : GX} (hC : xLc p s m meth c b L xs g) {Inv : IM → Prop} (hp : LP_text Inv) {j : Nat} (hj : j + 6 ≤ L) {im : IM} (hI : Inv im) (kk : ∀ m9, Inv m9 → xL p l e s m below meth c b g 1605 [(3, .int (nI j)), (2, .ref (g.1 82)), (1, .ref (g.1 0)), (0, .ref b)] [] m9) : xL p l e s m below meth c b g 1226 [(3, .int (nI j)), (2, .ref (g.1 82)), (1, .ref (g.1 0)), (0, .ref b)] [] im := by
  obtain ⟨r, m1, m2, h1, h2, hI2⟩ := hp im hI 
  refine l_aload_n hC (q := 2) rfl rfl dL_law_1226 ?_
  refine l_callI hC (av := []) (st := []) (m_X6_text  im (r, m1) h1) sh_0 (by decide) rfl rfl (by decide) (by decide) lk_L_169 cd_X6_text xd_X6_text rfl (Nat.le_of_ble_eq_true rfl) dL_law_1227 ?_
  refine l_aload_n hC (q := 1) rfl rfl dL_law_1230 ?_
  refine l_callI hC (av := []) (st := [.int r]) (m_X7_text  m1 (r, m2) h2) sh_82 (by decide) rfl rfl (by decide) (by decide) lk_L_172 cd_X7_text xd_X7_text rfl (Nat.le_of_ble_eq_true rfl) dL_law_1231 ?_
  refine l_eq hC (tgt := 1605) dL_law_1234 (by decide) ?_
  exact kk m2 hI2
def LP_hold (Inv : IM → Prop) : Prop := ∀ im : IM, Inv im → ∀ (a1 : Int32) (a2 : Int32), ∃ (r : Int32) (m1 m2 : IM), f_X6_hold a1 a2 im = some (r, m1) ∧ f_X7_hold a1 a2 m1 = some (r, m2) ∧ Inv m2
theorem law_hold {p : Program} {l : Launch} {e : Env} {s : State} {m : MethodId} {below : List Frame} {meth : Method} {c : Code} {b L : Nat} {xs : Nat → Int32} {g : GX} (hC : xLc p s m meth c b L xs g) {Inv : IM → Prop} (hp : LP_hold Inv) {j : Nat} (hj : j + 6 ≤ L) {im : IM} (hI : Inv im) (kk : ∀ m9, Inv m9 → xL p l e s m below meth c b g 1605 [(3, .int (nI j)), (2, .ref (g.1 82)), (1, .ref (g.1 0)), (0, .ref b)] [] m9) : xL p l e s m below meth c b g 1239 [(3, .int (nI j)), (2, .ref (g.1 82)), (1, .ref (g.1 0)), (0, .ref b)] [] im := by
  obtain ⟨r, m1, m2, h1, h2, hI2⟩ := hp im hI (xs (j + 1)) (xs (j + 2))
  refine l_aload_n hC (q := 2) rfl rfl dL_law_1239 ?_
  refine l_aload_n hC (q := 3) rfl rfl dL_law_1240 ?_
  refine l_iload_n hC (q := 0) rfl rfl dL_law_1241 ?_
  refine l_iconst hC (v := nI 1) (by decide) dL_law_1242 ?_
  refine l_iadd hC dL_law_1243 ?_
  refine l_sld hC (j := j + 1) (by omega) dL_law_1244 ?_
  refine l_aload_n hC (q := 3) rfl rfl dL_law_1245 ?_
  refine l_iload_n hC (q := 0) rfl rfl dL_law_1246 ?_
  refine l_iconst hC (v := nI 2) (by decide) dL_law_1247 ?_
  refine l_iadd hC dL_law_1248 ?_
  refine l_sld hC (j := j + 2) (by omega) dL_law_1249 ?_
  refine l_callI hC (av := [.int (xs (j + 1)), .int (xs (j + 2))]) (st := []) (m_X6_hold (xs (j + 1)) (xs (j + 2)) im (r, m1) h1) sh_0 (by decide) rfl rfl (by decide) (by decide) lk_L_173 cd_X6_hold xd_X6_hold rfl (Nat.le_of_ble_eq_true rfl) dL_law_1250 ?_
  refine l_aload_n hC (q := 1) rfl rfl dL_law_1253 ?_
  refine l_aload_n hC (q := 3) rfl rfl dL_law_1254 ?_
  refine l_iload_n hC (q := 0) rfl rfl dL_law_1255 ?_
  refine l_iconst hC (v := nI 1) (by decide) dL_law_1256 ?_
  refine l_iadd hC dL_law_1257 ?_
  refine l_sld hC (j := j + 1) (by omega) dL_law_1258 ?_
  refine l_aload_n hC (q := 3) rfl rfl dL_law_1259 ?_
  refine l_iload_n hC (q := 0) rfl rfl dL_law_1260 ?_
  refine l_iconst hC (v := nI 2) (by decide) dL_law_1261 ?_
  refine l_iadd hC dL_law_1262 ?_
  refine l_sld hC (j := j + 2) (by omega) dL_law_1263 ?_
  refine l_callI hC (av := [.int (xs (j + 1)), .int (xs (j + 2))]) (st := [.int r]) (m_X7_hold (xs (j + 1)) (xs (j + 2)) m1 (r, m2) h2) sh_82 (by decide) rfl rfl (by decide) (by decide) lk_L_176 cd_X7_hold xd_X7_hold rfl (Nat.le_of_ble_eq_true rfl) dL_law_1264 ?_
  refine l_eq hC (tgt := 1605) dL_law_1267 (by decide) ?_
  exact kk m2 hI2
def LP_as (Inv : IM → Prop) : Prop := ∀ im : IM, Inv im → ∀ (a1 : Int32) (a2 : Int32), ∃ (r : Int32) (m1 m2 : IM), f_X6_as a1 a2 im = some (r, m1) ∧ f_X7_as a1 a2 m1 = some (r, m2) ∧ Inv m2
theorem law_as {p : Program} {l : Launch} {e : Env} {s : State} {m : MethodId} {below : List Frame} {meth : Method} {c : Code} {b L : Nat} {xs : Nat → Int32} {g : GX} (hC : xLc p s m meth c b L xs g) {Inv : IM → Prop} (hp : LP_as Inv) {j : Nat} (hj : j + 6 ≤ L) {im : IM} (hI : Inv im) (kk : ∀ m9, Inv m9 → xL p l e s m below meth c b g 1605 [(3, .int (nI j)), (2, .ref (g.1 82)), (1, .ref (g.1 0)), (0, .ref b)] [] m9) : xL p l e s m below meth c b g 1272 [(3, .int (nI j)), (2, .ref (g.1 82)), (1, .ref (g.1 0)), (0, .ref b)] [] im := by
  obtain ⟨r, m1, m2, h1, h2, hI2⟩ := hp im hI (xs (j + 1)) (xs (j + 2))
  refine l_aload_n hC (q := 2) rfl rfl dL_law_1272 ?_
  refine l_aload_n hC (q := 3) rfl rfl dL_law_1273 ?_
  refine l_iload_n hC (q := 0) rfl rfl dL_law_1274 ?_
  refine l_iconst hC (v := nI 1) (by decide) dL_law_1275 ?_
  refine l_iadd hC dL_law_1276 ?_
  refine l_sld hC (j := j + 1) (by omega) dL_law_1277 ?_
  refine l_aload_n hC (q := 3) rfl rfl dL_law_1278 ?_
  refine l_iload_n hC (q := 0) rfl rfl dL_law_1279 ?_
  refine l_iconst hC (v := nI 2) (by decide) dL_law_1280 ?_
  refine l_iadd hC dL_law_1281 ?_
  refine l_sld hC (j := j + 2) (by omega) dL_law_1282 ?_
  refine l_callI hC (av := [.int (xs (j + 1)), .int (xs (j + 2))]) (st := []) (m_X6_as (xs (j + 1)) (xs (j + 2)) im (r, m1) h1) sh_0 (by decide) rfl rfl (by decide) (by decide) lk_L_177 cd_X6_as xd_X6_as rfl (Nat.le_of_ble_eq_true rfl) dL_law_1283 ?_
  refine l_aload_n hC (q := 1) rfl rfl dL_law_1286 ?_
  refine l_aload_n hC (q := 3) rfl rfl dL_law_1287 ?_
  refine l_iload_n hC (q := 0) rfl rfl dL_law_1288 ?_
  refine l_iconst hC (v := nI 1) (by decide) dL_law_1289 ?_
  refine l_iadd hC dL_law_1290 ?_
  refine l_sld hC (j := j + 1) (by omega) dL_law_1291 ?_
  refine l_aload_n hC (q := 3) rfl rfl dL_law_1292 ?_
  refine l_iload_n hC (q := 0) rfl rfl dL_law_1293 ?_
  refine l_iconst hC (v := nI 2) (by decide) dL_law_1294 ?_
  refine l_iadd hC dL_law_1295 ?_
  refine l_sld hC (j := j + 2) (by omega) dL_law_1296 ?_
  refine l_callI hC (av := [.int (xs (j + 1)), .int (xs (j + 2))]) (st := [.int r]) (m_X7_as (xs (j + 1)) (xs (j + 2)) m1 (r, m2) h2) sh_82 (by decide) rfl rfl (by decide) (by decide) lk_L_180 cd_X7_as xd_X7_as rfl (Nat.le_of_ble_eq_true rfl) dL_law_1297 ?_
  refine l_eq hC (tgt := 1605) dL_law_1300 (by decide) ?_
  exact kk m2 hI2
def LP_sheet (Inv : IM → Prop) : Prop := ∀ im : IM, Inv im → ∀ (a1 : Int32) (a2 : Int32) (a3 : Int32), ∃ (r : Int32) (m1 m2 : IM), f_X6_sheet a1 a2 a3 im = some (r, m1) ∧ f_X7_sheet a1 a2 a3 m1 = some (r, m2) ∧ Inv m2
theorem law_sheet {p : Program} {l : Launch} {e : Env} {s : State} {m : MethodId} {below : List Frame} {meth : Method} {c : Code} {b L : Nat} {xs : Nat → Int32} {g : GX} (hC : xLc p s m meth c b L xs g) {Inv : IM → Prop} (hp : LP_sheet Inv) {j : Nat} (hj : j + 6 ≤ L) {im : IM} (hI : Inv im) (kk : ∀ m9, Inv m9 → xL p l e s m below meth c b g 1605 [(3, .int (nI j)), (2, .ref (g.1 82)), (1, .ref (g.1 0)), (0, .ref b)] [] m9) : xL p l e s m below meth c b g 1305 [(3, .int (nI j)), (2, .ref (g.1 82)), (1, .ref (g.1 0)), (0, .ref b)] [] im := by
  obtain ⟨r, m1, m2, h1, h2, hI2⟩ := hp im hI (xs (j + 1)) (xs (j + 2)) (xs (j + 3))
  refine l_aload_n hC (q := 2) rfl rfl dL_law_1305 ?_
  refine l_aload_n hC (q := 3) rfl rfl dL_law_1306 ?_
  refine l_iload_n hC (q := 0) rfl rfl dL_law_1307 ?_
  refine l_iconst hC (v := nI 1) (by decide) dL_law_1308 ?_
  refine l_iadd hC dL_law_1309 ?_
  refine l_sld hC (j := j + 1) (by omega) dL_law_1310 ?_
  refine l_aload_n hC (q := 3) rfl rfl dL_law_1311 ?_
  refine l_iload_n hC (q := 0) rfl rfl dL_law_1312 ?_
  refine l_iconst hC (v := nI 2) (by decide) dL_law_1313 ?_
  refine l_iadd hC dL_law_1314 ?_
  refine l_sld hC (j := j + 2) (by omega) dL_law_1315 ?_
  refine l_aload_n hC (q := 3) rfl rfl dL_law_1316 ?_
  refine l_iload_n hC (q := 0) rfl rfl dL_law_1317 ?_
  refine l_iconst hC (v := nI 3) (by decide) dL_law_1318 ?_
  refine l_iadd hC dL_law_1319 ?_
  refine l_sld hC (j := j + 3) (by omega) dL_law_1320 ?_
  refine l_callI hC (av := [.int (xs (j + 1)), .int (xs (j + 2)), .int (xs (j + 3))]) (st := []) (m_X6_sheet (xs (j + 1)) (xs (j + 2)) (xs (j + 3)) im (r, m1) h1) sh_0 (by decide) rfl rfl (by decide) (by decide) lk_L_181 cd_X6_sheet xd_X6_sheet rfl (Nat.le_of_ble_eq_true rfl) dL_law_1321 ?_
  refine l_aload_n hC (q := 1) rfl rfl dL_law_1324 ?_
  refine l_aload_n hC (q := 3) rfl rfl dL_law_1325 ?_
  refine l_iload_n hC (q := 0) rfl rfl dL_law_1326 ?_
  refine l_iconst hC (v := nI 1) (by decide) dL_law_1327 ?_
  refine l_iadd hC dL_law_1328 ?_
  refine l_sld hC (j := j + 1) (by omega) dL_law_1329 ?_
  refine l_aload_n hC (q := 3) rfl rfl dL_law_1330 ?_
  refine l_iload_n hC (q := 0) rfl rfl dL_law_1331 ?_
  refine l_iconst hC (v := nI 2) (by decide) dL_law_1332 ?_
  refine l_iadd hC dL_law_1333 ?_
  refine l_sld hC (j := j + 2) (by omega) dL_law_1334 ?_
  refine l_aload_n hC (q := 3) rfl rfl dL_law_1335 ?_
  refine l_iload_n hC (q := 0) rfl rfl dL_law_1336 ?_
  refine l_iconst hC (v := nI 3) (by decide) dL_law_1337 ?_
  refine l_iadd hC dL_law_1338 ?_
  refine l_sld hC (j := j + 3) (by omega) dL_law_1339 ?_
  refine l_callI hC (av := [.int (xs (j + 1)), .int (xs (j + 2)), .int (xs (j + 3))]) (st := [.int r]) (m_X7_sheet (xs (j + 1)) (xs (j + 2)) (xs (j + 3)) m1 (r, m2) h2) sh_82 (by decide) rfl rfl (by decide) (by decide) lk_L_184 cd_X7_sheet xd_X7_sheet rfl (Nat.le_of_ble_eq_true rfl) dL_law_1340 ?_
  refine l_eq hC (tgt := 1605) dL_law_1343 (by decide) ?_
  exact kk m2 hI2
def LP_write (Inv : IM → Prop) : Prop := ∀ im : IM, Inv im → ∀ (a1 : Int32) (a2 : Int32) (a3 : Int32), ∃ (r : Int32) (m1 m2 : IM), f_X6_write a1 a2 a3 im = some (r, m1) ∧ f_X7_write a1 a2 a3 m1 = some (r, m2) ∧ Inv m2
theorem law_write {p : Program} {l : Launch} {e : Env} {s : State} {m : MethodId} {below : List Frame} {meth : Method} {c : Code} {b L : Nat} {xs : Nat → Int32} {g : GX} (hC : xLc p s m meth c b L xs g) {Inv : IM → Prop} (hp : LP_write Inv) {j : Nat} (hj : j + 6 ≤ L) {im : IM} (hI : Inv im) (kk : ∀ m9, Inv m9 → xL p l e s m below meth c b g 1605 [(3, .int (nI j)), (2, .ref (g.1 82)), (1, .ref (g.1 0)), (0, .ref b)] [] m9) : xL p l e s m below meth c b g 1348 [(3, .int (nI j)), (2, .ref (g.1 82)), (1, .ref (g.1 0)), (0, .ref b)] [] im := by
  obtain ⟨r, m1, m2, h1, h2, hI2⟩ := hp im hI (xs (j + 1)) (xs (j + 2)) (xs (j + 3))
  refine l_aload_n hC (q := 2) rfl rfl dL_law_1348 ?_
  refine l_aload_n hC (q := 3) rfl rfl dL_law_1349 ?_
  refine l_iload_n hC (q := 0) rfl rfl dL_law_1350 ?_
  refine l_iconst hC (v := nI 1) (by decide) dL_law_1351 ?_
  refine l_iadd hC dL_law_1352 ?_
  refine l_sld hC (j := j + 1) (by omega) dL_law_1353 ?_
  refine l_aload_n hC (q := 3) rfl rfl dL_law_1354 ?_
  refine l_iload_n hC (q := 0) rfl rfl dL_law_1355 ?_
  refine l_iconst hC (v := nI 2) (by decide) dL_law_1356 ?_
  refine l_iadd hC dL_law_1357 ?_
  refine l_sld hC (j := j + 2) (by omega) dL_law_1358 ?_
  refine l_aload_n hC (q := 3) rfl rfl dL_law_1359 ?_
  refine l_iload_n hC (q := 0) rfl rfl dL_law_1360 ?_
  refine l_iconst hC (v := nI 3) (by decide) dL_law_1361 ?_
  refine l_iadd hC dL_law_1362 ?_
  refine l_sld hC (j := j + 3) (by omega) dL_law_1363 ?_
  refine l_callI hC (av := [.int (xs (j + 1)), .int (xs (j + 2)), .int (xs (j + 3))]) (st := []) (m_X6_write (xs (j + 1)) (xs (j + 2)) (xs (j + 3)) im (r, m1) h1) sh_0 (by decide) rfl rfl (by decide) (by decide) lk_L_185 cd_X6_write xd_X6_write rfl (Nat.le_of_ble_eq_true rfl) dL_law_1364 ?_
  refine l_aload_n hC (q := 1) rfl rfl dL_law_1367 ?_
  refine l_aload_n hC (q := 3) rfl rfl dL_law_1368 ?_
  refine l_iload_n hC (q := 0) rfl rfl dL_law_1369 ?_
  refine l_iconst hC (v := nI 1) (by decide) dL_law_1370 ?_
  refine l_iadd hC dL_law_1371 ?_
  refine l_sld hC (j := j + 1) (by omega) dL_law_1372 ?_
  refine l_aload_n hC (q := 3) rfl rfl dL_law_1373 ?_
  refine l_iload_n hC (q := 0) rfl rfl dL_law_1374 ?_
  refine l_iconst hC (v := nI 2) (by decide) dL_law_1375 ?_
  refine l_iadd hC dL_law_1376 ?_
  refine l_sld hC (j := j + 2) (by omega) dL_law_1377 ?_
  refine l_aload_n hC (q := 3) rfl rfl dL_law_1378 ?_
  refine l_iload_n hC (q := 0) rfl rfl dL_law_1379 ?_
  refine l_iconst hC (v := nI 3) (by decide) dL_law_1380 ?_
  refine l_iadd hC dL_law_1381 ?_
  refine l_sld hC (j := j + 3) (by omega) dL_law_1382 ?_
  refine l_callI hC (av := [.int (xs (j + 1)), .int (xs (j + 2)), .int (xs (j + 3))]) (st := [.int r]) (m_X7_write (xs (j + 1)) (xs (j + 2)) (xs (j + 3)) m1 (r, m2) h2) sh_82 (by decide) rfl rfl (by decide) (by decide) lk_L_188 cd_X7_write xd_X7_write rfl (Nat.le_of_ble_eq_true rfl) dL_law_1383 ?_
  refine l_eq hC (tgt := 1605) dL_law_1386 (by decide) ?_
  exact kk m2 hI2
def LP_copy (Inv : IM → Prop) : Prop := ∀ im : IM, Inv im → ∀ (a1 : Int32) (a2 : Int32) (a3 : Int32) (a4 : Int32) (a5 : Int32), ∃ (r : Int32) (m1 m2 : IM), f_X6_copy a1 a2 a3 a4 a5 im = some (r, m1) ∧ f_X7_copy a1 a2 a3 a4 a5 m1 = some (r, m2) ∧ Inv m2
theorem law_copy {p : Program} {l : Launch} {e : Env} {s : State} {m : MethodId} {below : List Frame} {meth : Method} {c : Code} {b L : Nat} {xs : Nat → Int32} {g : GX} (hC : xLc p s m meth c b L xs g) {Inv : IM → Prop} (hp : LP_copy Inv) {j : Nat} (hj : j + 6 ≤ L) {im : IM} (hI : Inv im) (kk : ∀ m9, Inv m9 → xL p l e s m below meth c b g 1605 [(3, .int (nI j)), (2, .ref (g.1 82)), (1, .ref (g.1 0)), (0, .ref b)] [] m9) : xL p l e s m below meth c b g 1391 [(3, .int (nI j)), (2, .ref (g.1 82)), (1, .ref (g.1 0)), (0, .ref b)] [] im := by
  obtain ⟨r, m1, m2, h1, h2, hI2⟩ := hp im hI (xs (j + 1)) (xs (j + 2)) (xs (j + 3)) (xs (j + 4)) (xs (j + 5))
  refine l_aload_n hC (q := 2) rfl rfl dL_law_1391 ?_
  refine l_aload_n hC (q := 3) rfl rfl dL_law_1392 ?_
  refine l_iload_n hC (q := 0) rfl rfl dL_law_1393 ?_
  refine l_iconst hC (v := nI 1) (by decide) dL_law_1394 ?_
  refine l_iadd hC dL_law_1395 ?_
  refine l_sld hC (j := j + 1) (by omega) dL_law_1396 ?_
  refine l_aload_n hC (q := 3) rfl rfl dL_law_1397 ?_
  refine l_iload_n hC (q := 0) rfl rfl dL_law_1398 ?_
  refine l_iconst hC (v := nI 2) (by decide) dL_law_1399 ?_
  refine l_iadd hC dL_law_1400 ?_
  refine l_sld hC (j := j + 2) (by omega) dL_law_1401 ?_
  refine l_aload_n hC (q := 3) rfl rfl dL_law_1402 ?_
  refine l_iload_n hC (q := 0) rfl rfl dL_law_1403 ?_
  refine l_iconst hC (v := nI 3) (by decide) dL_law_1404 ?_
  refine l_iadd hC dL_law_1405 ?_
  refine l_sld hC (j := j + 3) (by omega) dL_law_1406 ?_
  refine l_aload_n hC (q := 3) rfl rfl dL_law_1407 ?_
  refine l_iload_n hC (q := 0) rfl rfl dL_law_1408 ?_
  refine l_iconst hC (v := nI 4) (by decide) dL_law_1409 ?_
  refine l_iadd hC dL_law_1410 ?_
  refine l_sld hC (j := j + 4) (by omega) dL_law_1411 ?_
  refine l_aload_n hC (q := 3) rfl rfl dL_law_1412 ?_
  refine l_iload_n hC (q := 0) rfl rfl dL_law_1413 ?_
  refine l_iconst hC (v := nI 5) (by decide) dL_law_1414 ?_
  refine l_iadd hC dL_law_1415 ?_
  refine l_sld hC (j := j + 5) (by omega) dL_law_1416 ?_
  refine l_callI hC (av := [.int (xs (j + 1)), .int (xs (j + 2)), .int (xs (j + 3)), .int (xs (j + 4)), .int (xs (j + 5))]) (st := []) (m_X6_copy (xs (j + 1)) (xs (j + 2)) (xs (j + 3)) (xs (j + 4)) (xs (j + 5)) im (r, m1) h1) sh_0 (by decide) rfl rfl (by decide) (by decide) lk_L_189 cd_X6_copy xd_X6_copy rfl (Nat.le_of_ble_eq_true rfl) dL_law_1417 ?_
  refine l_aload_n hC (q := 1) rfl rfl dL_law_1420 ?_
  refine l_aload_n hC (q := 3) rfl rfl dL_law_1421 ?_
  refine l_iload_n hC (q := 0) rfl rfl dL_law_1422 ?_
  refine l_iconst hC (v := nI 1) (by decide) dL_law_1423 ?_
  refine l_iadd hC dL_law_1424 ?_
  refine l_sld hC (j := j + 1) (by omega) dL_law_1425 ?_
  refine l_aload_n hC (q := 3) rfl rfl dL_law_1426 ?_
  refine l_iload_n hC (q := 0) rfl rfl dL_law_1427 ?_
  refine l_iconst hC (v := nI 2) (by decide) dL_law_1428 ?_
  refine l_iadd hC dL_law_1429 ?_
  refine l_sld hC (j := j + 2) (by omega) dL_law_1430 ?_
  refine l_aload_n hC (q := 3) rfl rfl dL_law_1431 ?_
  refine l_iload_n hC (q := 0) rfl rfl dL_law_1432 ?_
  refine l_iconst hC (v := nI 3) (by decide) dL_law_1433 ?_
  refine l_iadd hC dL_law_1434 ?_
  refine l_sld hC (j := j + 3) (by omega) dL_law_1435 ?_
  refine l_aload_n hC (q := 3) rfl rfl dL_law_1436 ?_
  refine l_iload_n hC (q := 0) rfl rfl dL_law_1437 ?_
  refine l_iconst hC (v := nI 4) (by decide) dL_law_1438 ?_
  refine l_iadd hC dL_law_1439 ?_
  refine l_sld hC (j := j + 4) (by omega) dL_law_1440 ?_
  refine l_aload_n hC (q := 3) rfl rfl dL_law_1441 ?_
  refine l_iload_n hC (q := 0) rfl rfl dL_law_1442 ?_
  refine l_iconst hC (v := nI 5) (by decide) dL_law_1443 ?_
  refine l_iadd hC dL_law_1444 ?_
  refine l_sld hC (j := j + 5) (by omega) dL_law_1445 ?_
  refine l_callI hC (av := [.int (xs (j + 1)), .int (xs (j + 2)), .int (xs (j + 3)), .int (xs (j + 4)), .int (xs (j + 5))]) (st := [.int r]) (m_X7_copy (xs (j + 1)) (xs (j + 2)) (xs (j + 3)) (xs (j + 4)) (xs (j + 5)) m1 (r, m2) h2) sh_82 (by decide) rfl rfl (by decide) (by decide) lk_L_193 cd_X7_copy xd_X7_copy rfl (Nat.le_of_ble_eq_true rfl) dL_law_1446 ?_
  refine l_eq hC (tgt := 1605) dL_law_1449 (by decide) ?_
  exact kk m2 hI2
def LP_load (Inv : IM → Prop) : Prop := ∀ im : IM, Inv im → ∀ (a1 : Int32) (a2 : Int32), ∃ (r : Int32) (m1 m2 : IM), f_X6_load a1 a2 im = some (r, m1) ∧ f_X7_load a1 a2 m1 = some (r, m2) ∧ Inv m2
theorem law_load {p : Program} {l : Launch} {e : Env} {s : State} {m : MethodId} {below : List Frame} {meth : Method} {c : Code} {b L : Nat} {xs : Nat → Int32} {g : GX} (hC : xLc p s m meth c b L xs g) {Inv : IM → Prop} (hp : LP_load Inv) {j : Nat} (hj : j + 6 ≤ L) {im : IM} (hI : Inv im) (kk : ∀ m9, Inv m9 → xL p l e s m below meth c b g 1605 [(3, .int (nI j)), (2, .ref (g.1 82)), (1, .ref (g.1 0)), (0, .ref b)] [] m9) : xL p l e s m below meth c b g 1454 [(3, .int (nI j)), (2, .ref (g.1 82)), (1, .ref (g.1 0)), (0, .ref b)] [] im := by
  obtain ⟨r, m1, m2, h1, h2, hI2⟩ := hp im hI (xs (j + 1)) (xs (j + 2))
  refine l_aload_n hC (q := 2) rfl rfl dL_law_1454 ?_
  refine l_aload_n hC (q := 3) rfl rfl dL_law_1455 ?_
  refine l_iload_n hC (q := 0) rfl rfl dL_law_1456 ?_
  refine l_iconst hC (v := nI 1) (by decide) dL_law_1457 ?_
  refine l_iadd hC dL_law_1458 ?_
  refine l_sld hC (j := j + 1) (by omega) dL_law_1459 ?_
  refine l_aload_n hC (q := 3) rfl rfl dL_law_1460 ?_
  refine l_iload_n hC (q := 0) rfl rfl dL_law_1461 ?_
  refine l_iconst hC (v := nI 2) (by decide) dL_law_1462 ?_
  refine l_iadd hC dL_law_1463 ?_
  refine l_sld hC (j := j + 2) (by omega) dL_law_1464 ?_
  refine l_callI hC (av := [.int (xs (j + 1)), .int (xs (j + 2))]) (st := []) (m_X6_load (xs (j + 1)) (xs (j + 2)) im (r, m1) h1) sh_0 (by decide) rfl rfl (by decide) (by decide) lk_L_194 cd_X6_load xd_X6_load rfl (Nat.le_of_ble_eq_true rfl) dL_law_1465 ?_
  refine l_aload_n hC (q := 1) rfl rfl dL_law_1468 ?_
  refine l_aload_n hC (q := 3) rfl rfl dL_law_1469 ?_
  refine l_iload_n hC (q := 0) rfl rfl dL_law_1470 ?_
  refine l_iconst hC (v := nI 1) (by decide) dL_law_1471 ?_
  refine l_iadd hC dL_law_1472 ?_
  refine l_sld hC (j := j + 1) (by omega) dL_law_1473 ?_
  refine l_aload_n hC (q := 3) rfl rfl dL_law_1474 ?_
  refine l_iload_n hC (q := 0) rfl rfl dL_law_1475 ?_
  refine l_iconst hC (v := nI 2) (by decide) dL_law_1476 ?_
  refine l_iadd hC dL_law_1477 ?_
  refine l_sld hC (j := j + 2) (by omega) dL_law_1478 ?_
  refine l_callI hC (av := [.int (xs (j + 1)), .int (xs (j + 2))]) (st := [.int r]) (m_X7_load (xs (j + 1)) (xs (j + 2)) m1 (r, m2) h2) sh_82 (by decide) rfl rfl (by decide) (by decide) lk_L_197 cd_X7_load xd_X7_load rfl (Nat.le_of_ble_eq_true rfl) dL_law_1479 ?_
  refine l_eq hC (tgt := 1605) dL_law_1482 (by decide) ?_
  exact kk m2 hI2
def LP_judge (Inv : IM → Prop) : Prop := ∀ im : IM, Inv im → ∀ (a1 : Int32) (a2 : Int32), ∃ (r : Int32) (m1 m2 : IM), f_X6_judge a1 a2 im = some (r, m1) ∧ f_X7_judge a1 a2 m1 = some (r, m2) ∧ Inv m2
theorem law_judge {p : Program} {l : Launch} {e : Env} {s : State} {m : MethodId} {below : List Frame} {meth : Method} {c : Code} {b L : Nat} {xs : Nat → Int32} {g : GX} (hC : xLc p s m meth c b L xs g) {Inv : IM → Prop} (hp : LP_judge Inv) {j : Nat} (hj : j + 6 ≤ L) {im : IM} (hI : Inv im) (kk : ∀ m9, Inv m9 → xL p l e s m below meth c b g 1605 [(3, .int (nI j)), (2, .ref (g.1 82)), (1, .ref (g.1 0)), (0, .ref b)] [] m9) : xL p l e s m below meth c b g 1487 [(3, .int (nI j)), (2, .ref (g.1 82)), (1, .ref (g.1 0)), (0, .ref b)] [] im := by
  obtain ⟨r, m1, m2, h1, h2, hI2⟩ := hp im hI (xs (j + 1)) (xs (j + 2))
  refine l_aload_n hC (q := 2) rfl rfl dL_law_1487 ?_
  refine l_aload_n hC (q := 3) rfl rfl dL_law_1488 ?_
  refine l_iload_n hC (q := 0) rfl rfl dL_law_1489 ?_
  refine l_iconst hC (v := nI 1) (by decide) dL_law_1490 ?_
  refine l_iadd hC dL_law_1491 ?_
  refine l_sld hC (j := j + 1) (by omega) dL_law_1492 ?_
  refine l_aload_n hC (q := 3) rfl rfl dL_law_1493 ?_
  refine l_iload_n hC (q := 0) rfl rfl dL_law_1494 ?_
  refine l_iconst hC (v := nI 2) (by decide) dL_law_1495 ?_
  refine l_iadd hC dL_law_1496 ?_
  refine l_sld hC (j := j + 2) (by omega) dL_law_1497 ?_
  refine l_callI hC (av := [.int (xs (j + 1)), .int (xs (j + 2))]) (st := []) (m_X6_judge (xs (j + 1)) (xs (j + 2)) im (r, m1) h1) sh_0 (by decide) rfl rfl (by decide) (by decide) lk_L_198 cd_X6_judge xd_X6_judge rfl (Nat.le_of_ble_eq_true rfl) dL_law_1498 ?_
  refine l_aload_n hC (q := 1) rfl rfl dL_law_1501 ?_
  refine l_aload_n hC (q := 3) rfl rfl dL_law_1502 ?_
  refine l_iload_n hC (q := 0) rfl rfl dL_law_1503 ?_
  refine l_iconst hC (v := nI 1) (by decide) dL_law_1504 ?_
  refine l_iadd hC dL_law_1505 ?_
  refine l_sld hC (j := j + 1) (by omega) dL_law_1506 ?_
  refine l_aload_n hC (q := 3) rfl rfl dL_law_1507 ?_
  refine l_iload_n hC (q := 0) rfl rfl dL_law_1508 ?_
  refine l_iconst hC (v := nI 2) (by decide) dL_law_1509 ?_
  refine l_iadd hC dL_law_1510 ?_
  refine l_sld hC (j := j + 2) (by omega) dL_law_1511 ?_
  refine l_callI hC (av := [.int (xs (j + 1)), .int (xs (j + 2))]) (st := [.int r]) (m_X7_judge (xs (j + 1)) (xs (j + 2)) m1 (r, m2) h2) sh_82 (by decide) rfl rfl (by decide) (by decide) lk_L_201 cd_X7_judge xd_X7_judge rfl (Nat.le_of_ble_eq_true rfl) dL_law_1512 ?_
  refine l_eq hC (tgt := 1605) dL_law_1515 (by decide) ?_
  exact kk m2 hI2
def LP_image (Inv : IM → Prop) : Prop := ∀ im : IM, Inv im → ∃ (r : Int32) (m1 m2 : IM), f_X6_image im = some (r, m1) ∧ f_X7_image m1 = some (r, m2) ∧ Inv m2
theorem law_image {p : Program} {l : Launch} {e : Env} {s : State} {m : MethodId} {below : List Frame} {meth : Method} {c : Code} {b L : Nat} {xs : Nat → Int32} {g : GX} (hC : xLc p s m meth c b L xs g) {Inv : IM → Prop} (hp : LP_image Inv) {j : Nat} (hj : j + 6 ≤ L) {im : IM} (hI : Inv im) (kk : ∀ m9, Inv m9 → xL p l e s m below meth c b g 1605 [(3, .int (nI j)), (2, .ref (g.1 82)), (1, .ref (g.1 0)), (0, .ref b)] [] m9) : xL p l e s m below meth c b g 1520 [(3, .int (nI j)), (2, .ref (g.1 82)), (1, .ref (g.1 0)), (0, .ref b)] [] im := by
  obtain ⟨r, m1, m2, h1, h2, hI2⟩ := hp im hI 
  refine l_aload_n hC (q := 2) rfl rfl dL_law_1520 ?_
  refine l_callI hC (av := []) (st := []) (m_X6_image  im (r, m1) h1) sh_0 (by decide) rfl rfl (by decide) (by decide) lk_L_202 cd_X6_image xd_X6_image rfl (Nat.le_of_ble_eq_true rfl) dL_law_1521 ?_
  refine l_aload_n hC (q := 1) rfl rfl dL_law_1524 ?_
  refine l_callI hC (av := []) (st := [.int r]) (m_X7_image  m1 (r, m2) h2) sh_82 (by decide) rfl rfl (by decide) (by decide) lk_L_205 cd_X7_image xd_X7_image rfl (Nat.le_of_ble_eq_true rfl) dL_law_1525 ?_
  refine l_eq hC (tgt := 1605) dL_law_1528 (by decide) ?_
  exact kk m2 hI2
def LP_undo (Inv : IM → Prop) : Prop := ∀ im : IM, Inv im → ∃ (r : Int32) (m1 m2 : IM), f_X6_undo im = some (r, m1) ∧ f_X7_undo m1 = some (r, m2) ∧ Inv m2
theorem law_undo {p : Program} {l : Launch} {e : Env} {s : State} {m : MethodId} {below : List Frame} {meth : Method} {c : Code} {b L : Nat} {xs : Nat → Int32} {g : GX} (hC : xLc p s m meth c b L xs g) {Inv : IM → Prop} (hp : LP_undo Inv) {j : Nat} (hj : j + 6 ≤ L) {im : IM} (hI : Inv im) (kk : ∀ m9, Inv m9 → xL p l e s m below meth c b g 1605 [(3, .int (nI j)), (2, .ref (g.1 82)), (1, .ref (g.1 0)), (0, .ref b)] [] m9) : xL p l e s m below meth c b g 1533 [(3, .int (nI j)), (2, .ref (g.1 82)), (1, .ref (g.1 0)), (0, .ref b)] [] im := by
  obtain ⟨r, m1, m2, h1, h2, hI2⟩ := hp im hI 
  refine l_aload_n hC (q := 2) rfl rfl dL_law_1533 ?_
  refine l_callI hC (av := []) (st := []) (m_X6_undo  im (r, m1) h1) sh_0 (by decide) rfl rfl (by decide) (by decide) lk_L_206 cd_X6_undo xd_X6_undo rfl (Nat.le_of_ble_eq_true rfl) dL_law_1534 ?_
  refine l_aload_n hC (q := 1) rfl rfl dL_law_1537 ?_
  refine l_callI hC (av := []) (st := [.int r]) (m_X7_undo  m1 (r, m2) h2) sh_82 (by decide) rfl rfl (by decide) (by decide) lk_L_209 cd_X7_undo xd_X7_undo rfl (Nat.le_of_ble_eq_true rfl) dL_law_1538 ?_
  refine l_eq hC (tgt := 1605) dL_law_1541 (by decide) ?_
  exact kk m2 hI2
def LP_tear (Inv : IM → Prop) : Prop := ∀ im : IM, Inv im → ∃ (r : Int32) (m1 m2 : IM), some (f_X6_tear im) = some (r, m1) ∧ some (f_X7_tear m1) = some (r, m2) ∧ Inv m2
theorem law_tear {p : Program} {l : Launch} {e : Env} {s : State} {m : MethodId} {below : List Frame} {meth : Method} {c : Code} {b L : Nat} {xs : Nat → Int32} {g : GX} (hC : xLc p s m meth c b L xs g) {Inv : IM → Prop} (hp : LP_tear Inv) {j : Nat} (hj : j + 6 ≤ L) {im : IM} (hI : Inv im) (kk : ∀ m9, Inv m9 → xL p l e s m below meth c b g 1605 [(3, .int (nI j)), (2, .ref (g.1 82)), (1, .ref (g.1 0)), (0, .ref b)] [] m9) : xL p l e s m below meth c b g 1546 [(3, .int (nI j)), (2, .ref (g.1 82)), (1, .ref (g.1 0)), (0, .ref b)] [] im := by
  obtain ⟨r, m1, m2, h1, h2, hI2⟩ := hp im hI 
  refine l_aload_n hC (q := 2) rfl rfl dL_law_1546 ?_
  refine l_callI hC (av := []) (st := []) (by have h := m_X6_tear (g := g)  im; rw [Option.some.inj h1] at h; exact h) sh_0 (by decide) rfl rfl (by decide) (by decide) lk_L_210 cd_X6_tear xd_X6_tear rfl (Nat.le_of_ble_eq_true rfl) dL_law_1547 ?_
  refine l_aload_n hC (q := 1) rfl rfl dL_law_1550 ?_
  refine l_callI hC (av := []) (st := [.int r]) (by have h := m_X7_tear (g := g)  m1; rw [Option.some.inj h2] at h; exact h) sh_82 (by decide) rfl rfl (by decide) (by decide) lk_L_213 cd_X7_tear xd_X7_tear rfl (Nat.le_of_ble_eq_true rfl) dL_law_1551 ?_
  refine l_eq hC (tgt := 1605) dL_law_1554 (by decide) ?_
  exact kk m2 hI2
def LP_count (Inv : IM → Prop) : Prop := ∀ im : IM, Inv im → ∀ (a1 : Int32), ∃ (r : Int32) (m1 m2 : IM), f_X6_count a1 im = some (r, m1) ∧ f_X7_count a1 m1 = some (r, m2) ∧ Inv m2
theorem law_count {p : Program} {l : Launch} {e : Env} {s : State} {m : MethodId} {below : List Frame} {meth : Method} {c : Code} {b L : Nat} {xs : Nat → Int32} {g : GX} (hC : xLc p s m meth c b L xs g) {Inv : IM → Prop} (hp : LP_count Inv) {j : Nat} (hj : j + 6 ≤ L) {im : IM} (hI : Inv im) (kk : ∀ m9, Inv m9 → xL p l e s m below meth c b g 1605 [(3, .int (nI j)), (2, .ref (g.1 82)), (1, .ref (g.1 0)), (0, .ref b)] [] m9) : xL p l e s m below meth c b g 1559 [(3, .int (nI j)), (2, .ref (g.1 82)), (1, .ref (g.1 0)), (0, .ref b)] [] im := by
  obtain ⟨r, m1, m2, h1, h2, hI2⟩ := hp im hI (xs (j + 1))
  refine l_aload_n hC (q := 2) rfl rfl dL_law_1559 ?_
  refine l_aload_n hC (q := 3) rfl rfl dL_law_1560 ?_
  refine l_iload_n hC (q := 0) rfl rfl dL_law_1561 ?_
  refine l_iconst hC (v := nI 1) (by decide) dL_law_1562 ?_
  refine l_iadd hC dL_law_1563 ?_
  refine l_sld hC (j := j + 1) (by omega) dL_law_1564 ?_
  refine l_callI hC (av := [.int (xs (j + 1))]) (st := []) (m_X6_count (xs (j + 1)) im (r, m1) h1) sh_0 (by decide) rfl rfl (by decide) (by decide) lk_L_214 cd_X6_count xd_X6_count rfl (Nat.le_of_ble_eq_true rfl) dL_law_1565 ?_
  refine l_aload_n hC (q := 1) rfl rfl dL_law_1568 ?_
  refine l_aload_n hC (q := 3) rfl rfl dL_law_1569 ?_
  refine l_iload_n hC (q := 0) rfl rfl dL_law_1570 ?_
  refine l_iconst hC (v := nI 1) (by decide) dL_law_1571 ?_
  refine l_iadd hC dL_law_1572 ?_
  refine l_sld hC (j := j + 1) (by omega) dL_law_1573 ?_
  refine l_callI hC (av := [.int (xs (j + 1))]) (st := [.int r]) (m_X7_count (xs (j + 1)) m1 (r, m2) h2) sh_82 (by decide) rfl rfl (by decide) (by decide) lk_L_217 cd_X7_count xd_X7_count rfl (Nat.le_of_ble_eq_true rfl) dL_law_1574 ?_
  refine l_eq hC (tgt := 1605) dL_law_1577 (by decide) ?_
  exact kk m2 hI2
def LP_status (Inv : IM → Prop) : Prop := ∀ im : IM, Inv im → ∀ (a1 : Int32), ∃ (r : Int32) (m1 m2 : IM), f_X6_status a1 im = some (r, m1) ∧ f_X7_status a1 m1 = some (r, m2) ∧ Inv m2
theorem law_status {p : Program} {l : Launch} {e : Env} {s : State} {m : MethodId} {below : List Frame} {meth : Method} {c : Code} {b L : Nat} {xs : Nat → Int32} {g : GX} (hC : xLc p s m meth c b L xs g) {Inv : IM → Prop} (hp : LP_status Inv) {j : Nat} (hj : j + 6 ≤ L) {im : IM} (hI : Inv im) (kk : ∀ m9, Inv m9 → xL p l e s m below meth c b g 1605 [(3, .int (nI j)), (2, .ref (g.1 82)), (1, .ref (g.1 0)), (0, .ref b)] [] m9) : xL p l e s m below meth c b g 1582 [(3, .int (nI j)), (2, .ref (g.1 82)), (1, .ref (g.1 0)), (0, .ref b)] [] im := by
  obtain ⟨r, m1, m2, h1, h2, hI2⟩ := hp im hI (xs (j + 1))
  refine l_aload_n hC (q := 2) rfl rfl dL_law_1582 ?_
  refine l_aload_n hC (q := 3) rfl rfl dL_law_1583 ?_
  refine l_iload_n hC (q := 0) rfl rfl dL_law_1584 ?_
  refine l_iconst hC (v := nI 1) (by decide) dL_law_1585 ?_
  refine l_iadd hC dL_law_1586 ?_
  refine l_sld hC (j := j + 1) (by omega) dL_law_1587 ?_
  refine l_callI hC (av := [.int (xs (j + 1))]) (st := []) (m_X6_status (xs (j + 1)) im (r, m1) h1) sh_0 (by decide) rfl rfl (by decide) (by decide) lk_L_218 cd_X6_status xd_X6_status rfl (Nat.le_of_ble_eq_true rfl) dL_law_1588 ?_
  refine l_aload_n hC (q := 1) rfl rfl dL_law_1591 ?_
  refine l_aload_n hC (q := 3) rfl rfl dL_law_1592 ?_
  refine l_iload_n hC (q := 0) rfl rfl dL_law_1593 ?_
  refine l_iconst hC (v := nI 1) (by decide) dL_law_1594 ?_
  refine l_iadd hC dL_law_1595 ?_
  refine l_sld hC (j := j + 1) (by omega) dL_law_1596 ?_
  refine l_callI hC (av := [.int (xs (j + 1))]) (st := [.int r]) (m_X7_status (xs (j + 1)) m1 (r, m2) h2) sh_82 (by decide) rfl rfl (by decide) (by decide) lk_L_221 cd_X7_status xd_X7_status rfl (Nat.le_of_ble_eq_true rfl) dL_law_1597 ?_
  refine l_eq hC (tgt := 1605) dL_law_1600 (by decide) ?_
  exact kk m2 hI2
def LAWP (Inv : IM → Prop) : Prop := LP_fall Inv ∧ LP_ground Inv ∧ LP_gate Inv ∧ LP_shut Inv ∧ LP_thing Inv ∧ LP_of Inv ∧ LP_change Inv ∧ LP_told Inv ∧ LP_go Inv ∧ LP_put Inv ∧ LP_minutes Inv ∧ LP_are Inv ∧ LP_on Inv ∧ LP_ahead Inv ∧ LP_meet Inv ∧ LP_ends Inv ∧ LP_takes Inv ∧ LP_speed Inv ∧ LP_seen Inv ∧ LP_sand Inv ∧ LP_rollsFor Inv ∧ LP_matters Inv ∧ LP_kindFor Inv ∧ LP_wait Inv ∧ LP_behind Inv ∧ LP_come Inv ∧ LP_pack Inv ∧ LP_lean Inv ∧ LP_drums Inv ∧ LP_waits Inv ∧ LP_least Inv ∧ LP_order Inv ∧ LP_wheel Inv ∧ LP_odds Inv ∧ LP_worst Inv ∧ LP_seed Inv ∧ LP_feed Inv ∧ LP_wipe Inv ∧ LP_text Inv ∧ LP_hold Inv ∧ LP_as Inv ∧ LP_sheet Inv ∧ LP_write Inv ∧ LP_copy Inv ∧ LP_load Inv ∧ LP_judge Inv ∧ LP_image Inv ∧ LP_undo Inv ∧ LP_tear Inv ∧ LP_count Inv ∧ LP_status Inv
theorem law_lt {L j : Nat} (hL : L ≤ 384) (hj : j ≤ L + 6) : nI L - 6 < nI j ↔ L < j + 6 := by
  rw [Int32.lt_iff_toInt_lt, show (6 : Int32) = nI 6 from rfl, pk_sub_toInt (by omega) (by omega), nI_toInt (by omega)]
  omega
set_option maxRecDepth 100000 in
set_option maxHeartbeats 40000000 in
theorem law_loop {p : Program} {l : Launch} {e : Env} {s : State} {m : MethodId} {below : List Frame} {meth : Method} {c : Code} {b L : Nat} {xs : Nat → Int32} {g : GX} (hC : xLc p s m meth c b L xs g) {Inv : IM → Prop} (hp : LAWP Inv) : ∀ (n j : Nat) (im : IM), L + 6 ≤ n + j → j ≤ L + 6 → Inv im → xL p l e s m below meth c b g 18 [(3, .int (nI j)), (2, .ref (g.1 82)), (1, .ref (g.1 0)), (0, .ref b)] [] im := by
  intro n
  induction n with
  | zero =>
    intro j im h1 h2 hI
    refine l_iload_n hC (q := 0) rfl rfl dL_law_18 ?_
    refine l_aload_n hC (q := 3) rfl rfl dL_law_19 ?_
    refine l_slen hC dL_law_20 ?_
    refine l_bipush hC (v := 6) (by decide) dL_law_21 ?_
    refine l_isub hC dL_law_23 ?_
    refine l_gt hC (tgt := 1611) dL_law_24 (by decide) (fun _ => ?_) (fun h => absurd ((law_lt hC.2.2.2 h2).mpr (by omega)) h)
    exact l_end hC dL_law_1611 dL_law_1612
  | succ n ih =>
    intro j im h1 h2 hI
    refine l_iload_n hC (q := 0) rfl rfl dL_law_18 ?_
    refine l_aload_n hC (q := 3) rfl rfl dL_law_19 ?_
    refine l_slen hC dL_law_20 ?_
    refine l_bipush hC (v := 6) (by decide) dL_law_21 ?_
    refine l_isub hC dL_law_23 ?_
    refine l_gt hC (tgt := 1611) dL_law_24 (by decide) (fun _ => l_end hC dL_law_1611 dL_law_1612) (fun h => ?_)
    have hj : j + 6 ≤ L := by
      rw [law_lt hC.2.2.2 h2] at h
      omega
    have hnext : ∀ m9, Inv m9 → xL p l e s m below meth c b g 1605 [(3, .int (nI j)), (2, .ref (g.1 82)), (1, .ref (g.1 0)), (0, .ref b)] [] m9 := by
      intro m9 hI9
      refine l_iinc hC (q := 0) (lv' := [(3, .int (nI (j + 6))), (2, .ref (g.1 82)), (1, .ref (g.1 0)), (0, .ref b)]) dL_law_1605 rfl (by decide) rfl ?_
      refine l_goto hC (tgt := 18) dL_law_1608 (by decide) ?_
      exact ih (j + 6) m9 (by omega) (by omega) hI9
    refine l_aload_n hC (q := 3) rfl rfl dL_law_27 ?_
    refine l_iload_n hC (q := 0) rfl rfl dL_law_28 ?_
    refine l_sld hC (j := j) (by omega) dL_law_29 ?_
    refine l_bipush hC (v := 63) (by decide) dL_law_30 ?_
    refine l_iand hC dL_law_32 ?_
    obtain ⟨k, hk64, hk⟩ := pk_andE (xs j) (m := 63) 6 (by decide)
    have hks : k = 0 ∨ k = 1 ∨ k = 2 ∨ k = 3 ∨ k = 4 ∨ k = 5 ∨ k = 6 ∨ k = 7 ∨ k = 8 ∨ k = 9 ∨ k = 10 ∨ k = 11 ∨ k = 12 ∨ k = 13 ∨ k = 14 ∨ k = 15 ∨ k = 16 ∨ k = 17 ∨ k = 18 ∨ k = 19 ∨ k = 20 ∨ k = 21 ∨ k = 22 ∨ k = 23 ∨ k = 24 ∨ k = 25 ∨ k = 26 ∨ k = 27 ∨ k = 28 ∨ k = 29 ∨ k = 30 ∨ k = 31 ∨ k = 32 ∨ k = 33 ∨ k = 34 ∨ k = 35 ∨ k = 36 ∨ k = 37 ∨ k = 38 ∨ k = 39 ∨ k = 40 ∨ k = 41 ∨ k = 42 ∨ k = 43 ∨ k = 44 ∨ k = 45 ∨ k = 46 ∨ k = 47 ∨ k = 48 ∨ k = 49 ∨ k = 50 ∨ 51 ≤ k := by omega
    rcases hks with rfl | rfl | rfl | rfl | rfl | rfl | rfl | rfl | rfl | rfl | rfl | rfl | rfl | rfl | rfl | rfl | rfl | rfl | rfl | rfl | rfl | rfl | rfl | rfl | rfl | rfl | rfl | rfl | rfl | rfl | rfl | rfl | rfl | rfl | rfl | rfl | rfl | rfl | rfl | rfl | rfl | rfl | rfl | rfl | rfl | rfl | rfl | rfl | rfl | rfl | rfl | hks
    · rw [hk]
      refine l_tsw hC (off := 219) (tgt := 252) dL_law_33 (by decide) (by decide) (by decide) (by decide) ?_
      exact law_fall hC hp.1 hj hI hnext
    · rw [hk]
      refine l_tsw hC (off := 252) (tgt := 285) dL_law_33 (by decide) (by decide) (by decide) (by decide) ?_
      exact law_ground hC hp.2.1 hj hI hnext
    · rw [hk]
      refine l_tsw hC (off := 285) (tgt := 318) dL_law_33 (by decide) (by decide) (by decide) (by decide) ?_
      exact law_gate hC hp.2.2.1 hj hI hnext
    · rw [hk]
      refine l_tsw hC (off := 318) (tgt := 351) dL_law_33 (by decide) (by decide) (by decide) (by decide) ?_
      exact law_shut hC hp.2.2.2.1 hj hI hnext
    · rw [hk]
      refine l_tsw hC (off := 341) (tgt := 374) dL_law_33 (by decide) (by decide) (by decide) (by decide) ?_
      exact law_thing hC hp.2.2.2.2.1 hj hI hnext
    · rw [hk]
      refine l_tsw hC (off := 374) (tgt := 407) dL_law_33 (by decide) (by decide) (by decide) (by decide) ?_
      exact law_of hC hp.2.2.2.2.2.1 hj hI hnext
    · rw [hk]
      refine l_tsw hC (off := 407) (tgt := 440) dL_law_33 (by decide) (by decide) (by decide) (by decide) ?_
      exact law_change hC hp.2.2.2.2.2.2.1 hj hI hnext
    · rw [hk]
      refine l_tsw hC (off := 450) (tgt := 483) dL_law_33 (by decide) (by decide) (by decide) (by decide) ?_
      exact law_told hC hp.2.2.2.2.2.2.2.1 hj hI hnext
    · rw [hk]
      refine l_tsw hC (off := 493) (tgt := 526) dL_law_33 (by decide) (by decide) (by decide) (by decide) ?_
      exact law_go hC hp.2.2.2.2.2.2.2.2.1 hj hI hnext
    · rw [hk]
      refine l_tsw hC (off := 516) (tgt := 549) dL_law_33 (by decide) (by decide) (by decide) (by decide) ?_
      exact law_put hC hp.2.2.2.2.2.2.2.2.2.1 hj hI hnext
    · rw [hk]
      refine l_tsw hC (off := 549) (tgt := 582) dL_law_33 (by decide) (by decide) (by decide) (by decide) ?_
      exact law_minutes hC hp.2.2.2.2.2.2.2.2.2.2.1 hj hI hnext
    · rw [hk]
      refine l_tsw hC (off := 572) (tgt := 605) dL_law_33 (by decide) (by decide) (by decide) (by decide) ?_
      exact law_are hC hp.2.2.2.2.2.2.2.2.2.2.2.1 hj hI hnext
    · rw [hk]
      refine l_tsw hC (off := 595) (tgt := 628) dL_law_33 (by decide) (by decide) (by decide) (by decide) ?_
      exact law_on hC hp.2.2.2.2.2.2.2.2.2.2.2.2.1 hj hI hnext
    · rw [hk]
      refine l_tsw hC (off := 618) (tgt := 651) dL_law_33 (by decide) (by decide) (by decide) (by decide) ?_
      exact law_ahead hC hp.2.2.2.2.2.2.2.2.2.2.2.2.2.1 hj hI hnext
    · rw [hk]
      refine l_tsw hC (off := 651) (tgt := 684) dL_law_33 (by decide) (by decide) (by decide) (by decide) ?_
      exact law_meet hC hp.2.2.2.2.2.2.2.2.2.2.2.2.2.2.1 hj hI hnext
    · rw [hk]
      refine l_tsw hC (off := 664) (tgt := 697) dL_law_33 (by decide) (by decide) (by decide) (by decide) ?_
      exact law_ends hC hp.2.2.2.2.2.2.2.2.2.2.2.2.2.2.2.1 hj hI hnext
    · rw [hk]
      refine l_tsw hC (off := 687) (tgt := 720) dL_law_33 (by decide) (by decide) (by decide) (by decide) ?_
      exact law_takes hC hp.2.2.2.2.2.2.2.2.2.2.2.2.2.2.2.2.1 hj hI hnext
    · rw [hk]
      refine l_tsw hC (off := 710) (tgt := 743) dL_law_33 (by decide) (by decide) (by decide) (by decide) ?_
      exact law_speed hC hp.2.2.2.2.2.2.2.2.2.2.2.2.2.2.2.2.2.1 hj hI hnext
    · rw [hk]
      refine l_tsw hC (off := 733) (tgt := 766) dL_law_33 (by decide) (by decide) (by decide) (by decide) ?_
      exact law_seen hC hp.2.2.2.2.2.2.2.2.2.2.2.2.2.2.2.2.2.2.1 hj hI hnext
    · rw [hk]
      refine l_tsw hC (off := 756) (tgt := 789) dL_law_33 (by decide) (by decide) (by decide) (by decide) ?_
      exact law_sand hC hp.2.2.2.2.2.2.2.2.2.2.2.2.2.2.2.2.2.2.2.1 hj hI hnext
    · rw [hk]
      refine l_tsw hC (off := 789) (tgt := 822) dL_law_33 (by decide) (by decide) (by decide) (by decide) ?_
      exact law_rollsFor hC hp.2.2.2.2.2.2.2.2.2.2.2.2.2.2.2.2.2.2.2.2.1 hj hI hnext
    · rw [hk]
      refine l_tsw hC (off := 812) (tgt := 845) dL_law_33 (by decide) (by decide) (by decide) (by decide) ?_
      exact law_matters hC hp.2.2.2.2.2.2.2.2.2.2.2.2.2.2.2.2.2.2.2.2.2.1 hj hI hnext
    · rw [hk]
      refine l_tsw hC (off := 835) (tgt := 868) dL_law_33 (by decide) (by decide) (by decide) (by decide) ?_
      exact law_kindFor hC hp.2.2.2.2.2.2.2.2.2.2.2.2.2.2.2.2.2.2.2.2.2.2.1 hj hI hnext
    · rw [hk]
      refine l_tsw hC (off := 858) (tgt := 891) dL_law_33 (by decide) (by decide) (by decide) (by decide) ?_
      exact law_wait hC hp.2.2.2.2.2.2.2.2.2.2.2.2.2.2.2.2.2.2.2.2.2.2.2.1 hj hI hnext
    · rw [hk]
      refine l_tsw hC (off := 881) (tgt := 914) dL_law_33 (by decide) (by decide) (by decide) (by decide) ?_
      exact law_behind hC hp.2.2.2.2.2.2.2.2.2.2.2.2.2.2.2.2.2.2.2.2.2.2.2.2.1 hj hI hnext
    · rw [hk]
      refine l_tsw hC (off := 914) (tgt := 947) dL_law_33 (by decide) (by decide) (by decide) (by decide) ?_
      exact law_come hC hp.2.2.2.2.2.2.2.2.2.2.2.2.2.2.2.2.2.2.2.2.2.2.2.2.2.1 hj hI hnext
    · rw [hk]
      refine l_tsw hC (off := 927) (tgt := 960) dL_law_33 (by decide) (by decide) (by decide) (by decide) ?_
      exact law_pack hC hp.2.2.2.2.2.2.2.2.2.2.2.2.2.2.2.2.2.2.2.2.2.2.2.2.2.2.1 hj hI hnext
    · rw [hk]
      refine l_tsw hC (off := 950) (tgt := 983) dL_law_33 (by decide) (by decide) (by decide) (by decide) ?_
      exact law_lean hC hp.2.2.2.2.2.2.2.2.2.2.2.2.2.2.2.2.2.2.2.2.2.2.2.2.2.2.2.1 hj hI hnext
    · rw [hk]
      refine l_tsw hC (off := 973) (tgt := 1006) dL_law_33 (by decide) (by decide) (by decide) (by decide) ?_
      exact law_drums hC hp.2.2.2.2.2.2.2.2.2.2.2.2.2.2.2.2.2.2.2.2.2.2.2.2.2.2.2.2.1 hj hI hnext
    · rw [hk]
      refine l_tsw hC (off := 1006) (tgt := 1039) dL_law_33 (by decide) (by decide) (by decide) (by decide) ?_
      exact law_waits hC hp.2.2.2.2.2.2.2.2.2.2.2.2.2.2.2.2.2.2.2.2.2.2.2.2.2.2.2.2.2.1 hj hI hnext
    · rw [hk]
      refine l_tsw hC (off := 1019) (tgt := 1052) dL_law_33 (by decide) (by decide) (by decide) (by decide) ?_
      exact law_least hC hp.2.2.2.2.2.2.2.2.2.2.2.2.2.2.2.2.2.2.2.2.2.2.2.2.2.2.2.2.2.2.1 hj hI hnext
    · rw [hk]
      refine l_tsw hC (off := 1032) (tgt := 1065) dL_law_33 (by decide) (by decide) (by decide) (by decide) ?_
      exact law_order hC hp.2.2.2.2.2.2.2.2.2.2.2.2.2.2.2.2.2.2.2.2.2.2.2.2.2.2.2.2.2.2.2.1 hj hI hnext
    · rw [hk]
      refine l_tsw hC (off := 1055) (tgt := 1088) dL_law_33 (by decide) (by decide) (by decide) (by decide) ?_
      exact law_wheel hC hp.2.2.2.2.2.2.2.2.2.2.2.2.2.2.2.2.2.2.2.2.2.2.2.2.2.2.2.2.2.2.2.2.1 hj hI hnext
    · rw [hk]
      refine l_tsw hC (off := 1078) (tgt := 1111) dL_law_33 (by decide) (by decide) (by decide) (by decide) ?_
      exact law_odds hC hp.2.2.2.2.2.2.2.2.2.2.2.2.2.2.2.2.2.2.2.2.2.2.2.2.2.2.2.2.2.2.2.2.2.1 hj hI hnext
    · rw [hk]
      refine l_tsw hC (off := 1111) (tgt := 1144) dL_law_33 (by decide) (by decide) (by decide) (by decide) ?_
      exact law_worst hC hp.2.2.2.2.2.2.2.2.2.2.2.2.2.2.2.2.2.2.2.2.2.2.2.2.2.2.2.2.2.2.2.2.2.2.1 hj hI hnext
    · rw [hk]
      refine l_tsw hC (off := 1124) (tgt := 1157) dL_law_33 (by decide) (by decide) (by decide) (by decide) ?_
      exact law_seed hC hp.2.2.2.2.2.2.2.2.2.2.2.2.2.2.2.2.2.2.2.2.2.2.2.2.2.2.2.2.2.2.2.2.2.2.2.1 hj hI hnext
    · rw [hk]
      refine l_tsw hC (off := 1147) (tgt := 1180) dL_law_33 (by decide) (by decide) (by decide) (by decide) ?_
      exact law_feed hC hp.2.2.2.2.2.2.2.2.2.2.2.2.2.2.2.2.2.2.2.2.2.2.2.2.2.2.2.2.2.2.2.2.2.2.2.2.1 hj hI hnext
    · rw [hk]
      refine l_tsw hC (off := 1180) (tgt := 1213) dL_law_33 (by decide) (by decide) (by decide) (by decide) ?_
      exact law_wipe hC hp.2.2.2.2.2.2.2.2.2.2.2.2.2.2.2.2.2.2.2.2.2.2.2.2.2.2.2.2.2.2.2.2.2.2.2.2.2.1 hj hI hnext
    · rw [hk]
      refine l_tsw hC (off := 1193) (tgt := 1226) dL_law_33 (by decide) (by decide) (by decide) (by decide) ?_
      exact law_text hC hp.2.2.2.2.2.2.2.2.2.2.2.2.2.2.2.2.2.2.2.2.2.2.2.2.2.2.2.2.2.2.2.2.2.2.2.2.2.2.1 hj hI hnext
    · rw [hk]
      refine l_tsw hC (off := 1206) (tgt := 1239) dL_law_33 (by decide) (by decide) (by decide) (by decide) ?_
      exact law_hold hC hp.2.2.2.2.2.2.2.2.2.2.2.2.2.2.2.2.2.2.2.2.2.2.2.2.2.2.2.2.2.2.2.2.2.2.2.2.2.2.2.1 hj hI hnext
    · rw [hk]
      refine l_tsw hC (off := 1239) (tgt := 1272) dL_law_33 (by decide) (by decide) (by decide) (by decide) ?_
      exact law_as hC hp.2.2.2.2.2.2.2.2.2.2.2.2.2.2.2.2.2.2.2.2.2.2.2.2.2.2.2.2.2.2.2.2.2.2.2.2.2.2.2.2.1 hj hI hnext
    · rw [hk]
      refine l_tsw hC (off := 1272) (tgt := 1305) dL_law_33 (by decide) (by decide) (by decide) (by decide) ?_
      exact law_sheet hC hp.2.2.2.2.2.2.2.2.2.2.2.2.2.2.2.2.2.2.2.2.2.2.2.2.2.2.2.2.2.2.2.2.2.2.2.2.2.2.2.2.2.1 hj hI hnext
    · rw [hk]
      refine l_tsw hC (off := 1315) (tgt := 1348) dL_law_33 (by decide) (by decide) (by decide) (by decide) ?_
      exact law_write hC hp.2.2.2.2.2.2.2.2.2.2.2.2.2.2.2.2.2.2.2.2.2.2.2.2.2.2.2.2.2.2.2.2.2.2.2.2.2.2.2.2.2.2.1 hj hI hnext
    · rw [hk]
      refine l_tsw hC (off := 1358) (tgt := 1391) dL_law_33 (by decide) (by decide) (by decide) (by decide) ?_
      exact law_copy hC hp.2.2.2.2.2.2.2.2.2.2.2.2.2.2.2.2.2.2.2.2.2.2.2.2.2.2.2.2.2.2.2.2.2.2.2.2.2.2.2.2.2.2.2.1 hj hI hnext
    · rw [hk]
      refine l_tsw hC (off := 1421) (tgt := 1454) dL_law_33 (by decide) (by decide) (by decide) (by decide) ?_
      exact law_load hC hp.2.2.2.2.2.2.2.2.2.2.2.2.2.2.2.2.2.2.2.2.2.2.2.2.2.2.2.2.2.2.2.2.2.2.2.2.2.2.2.2.2.2.2.2.1 hj hI hnext
    · rw [hk]
      refine l_tsw hC (off := 1454) (tgt := 1487) dL_law_33 (by decide) (by decide) (by decide) (by decide) ?_
      exact law_judge hC hp.2.2.2.2.2.2.2.2.2.2.2.2.2.2.2.2.2.2.2.2.2.2.2.2.2.2.2.2.2.2.2.2.2.2.2.2.2.2.2.2.2.2.2.2.2.1 hj hI hnext
    · rw [hk]
      refine l_tsw hC (off := 1487) (tgt := 1520) dL_law_33 (by decide) (by decide) (by decide) (by decide) ?_
      exact law_image hC hp.2.2.2.2.2.2.2.2.2.2.2.2.2.2.2.2.2.2.2.2.2.2.2.2.2.2.2.2.2.2.2.2.2.2.2.2.2.2.2.2.2.2.2.2.2.2.1 hj hI hnext
    · rw [hk]
      refine l_tsw hC (off := 1500) (tgt := 1533) dL_law_33 (by decide) (by decide) (by decide) (by decide) ?_
      exact law_undo hC hp.2.2.2.2.2.2.2.2.2.2.2.2.2.2.2.2.2.2.2.2.2.2.2.2.2.2.2.2.2.2.2.2.2.2.2.2.2.2.2.2.2.2.2.2.2.2.2.1 hj hI hnext
    · rw [hk]
      refine l_tsw hC (off := 1513) (tgt := 1546) dL_law_33 (by decide) (by decide) (by decide) (by decide) ?_
      exact law_tear hC hp.2.2.2.2.2.2.2.2.2.2.2.2.2.2.2.2.2.2.2.2.2.2.2.2.2.2.2.2.2.2.2.2.2.2.2.2.2.2.2.2.2.2.2.2.2.2.2.2.1 hj hI hnext
    · rw [hk]
      refine l_tsw hC (off := 1526) (tgt := 1559) dL_law_33 (by decide) (by decide) (by decide) (by decide) ?_
      exact law_count hC hp.2.2.2.2.2.2.2.2.2.2.2.2.2.2.2.2.2.2.2.2.2.2.2.2.2.2.2.2.2.2.2.2.2.2.2.2.2.2.2.2.2.2.2.2.2.2.2.2.2.1 hj hI hnext
    · rw [hk]
      refine l_tsw hC (off := 1549) (tgt := 1582) dL_law_33 (by decide) (by decide) (by decide) (by decide) ?_
      exact law_status hC hp.2.2.2.2.2.2.2.2.2.2.2.2.2.2.2.2.2.2.2.2.2.2.2.2.2.2.2.2.2.2.2.2.2.2.2.2.2.2.2.2.2.2.2.2.2.2.2.2.2.2 hj hI hnext
    · refine l_tsd hC (tgt := 1605) dL_law_33 (Or.inr ?_) (by decide) (hnext im hI)
      rw [hk, nI_toInt (by omega)]
      omega
