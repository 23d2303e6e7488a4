/-! the class reads an item -/
def wfr (m m' : IM) : Prop := (∀ a, a ≠ 66 → m' a = m a) ∧ ∀ k, (k < 7 ∨ 10 < k) → m' 66 k = m 66 k
theorem wfr_refl {m : IM} : wfr m m := ⟨fun _ _ => rfl, fun _ _ => rfl⟩
theorem wfr_trans {a b c : IM} (h : wfr a b) (g : wfr b c) : wfr a c := ⟨fun x h1 => (g.1 x h1).trans (h.1 x h1), fun k hk => (g.2 k hk).trans (h.2 k hk)⟩
theorem wfr_l {m m' : IM} (h : wfr m m') : lfr m m' := ⟨fun a h1 _ => h.1 a h1, h.2⟩
theorem wfr_66 {m : IM} {k : Nat} {x : Int32} (hk : 7 ≤ k ∧ k ≤ 10) : wfr m (up m 66 k x) := ⟨fun a h1 => up_row h1, fun i hi => up_ne (by omega)⟩
theorem RC_w {m m' : IM} {V : TV} (v : RC m 31 V) (h10 : vN V ≤ 10) (h : wfr m m') : RC m' 31 V := v.cg (fun a h1 h2 => h.1 a (by omega)) h10
def rdC (m m' : IM) (X : TK) (r : Nat × Option TV) (x : Int32) : Prop := cst m' X r.1 ∧ lfr m m' ∧ ((∃ V', r.2 = some V' ∧ x = 1 ∧ RC m' 31 V') ∨ (r.2 = none ∧ x = 0))
theorem rdC_l {m m1 m' : IM} {X : TK} {r : Nat × Option TV} {x : Int32} (h : rdC m1 m' X r x) (g : lfr m m1) : rdC m m' X r x := ⟨h.1, lfr_trans g h.2.1, h.2.2⟩
theorem cells_c {m : IM} {X : TK} {j : Nat} (hX : tks X) (h : cst m X j) : ∃ c : Int32 × IM, f_X1_takeCells m = some c ∧ (cst c.2 X (pCells X j).1 ∧ wfr m c.2 ∧ ((∃ a b, (pCells X j).2 = some (a, b) ∧ c.1 = 1 ∧ c.2 66 9 = nI a ∧ c.2 66 10 = nI b ∧ a ≤ b ∧ b ≤ 30) ∨ ((pCells X j).2 = none ∧ c.1 = 0))) := by
  unfold f_X1_takeCells pCells
  rw [takeNumber_c hX h 0 30 (lo := 0) (hi := 30) rfl rfl (by omega) (by omega)]
  by_cases c1 : nB X j 0 30 = true
  · have v30 := (nB_iff.mp c1).2.2.2
    rw [if_pos c1, if_pos c1, Option.bind_some]
    show ∃ c : Int32 × IM, (if (1 : Int32) = 0 then _ else bnd (up (up (up m 66 8 (nI (vl X j))) 66 7 (nI (go X j))) 66 9 (up (up m 66 8 (nI (vl X j))) 66 7 (nI (go X j)) 66 8)) fun m2 => bnd (up m2 66 10 (m2 66 8)) fun m3 => (f_X1_takeWord 3 m3).bind fun r4 => if r4.1 = 0 then some (1, r4.2) else (f_X1_takeNumber (r4.2 66 9) 30 r4.2).bind fun r5 => if r5.1 = 0 then some (0, r5.2) else bnd (up r5.2 66 10 (r5.2 66 8)) fun m6 => some (1, m6)) = some c ∧ _
    rw [if_neg i10, bnd_eq, bnd_eq, up_ne (show (8 : Nat) ≠ 7 by decide), up_same, up_ne (show (8 : Nat) ≠ 9 by decide), up_ne (show (8 : Nat) ≠ 7 by decide), up_same]
    generalize hm3 : up (up (up (up m 66 8 (nI (vl X j))) 66 7 (nI (go X j))) 66 9 (nI (vl X j))) 66 10 (nI (vl X j)) = m3
    have w3 : wfr m m3 := by
      rw [← hm3]
      exact wfr_trans (wfr_trans (wfr_trans (wfr_66 (by omega)) (wfr_66 (by omega))) (wfr_66 (by omega))) (wfr_66 (by omega))
    have e7 : m3 66 7 = nI (go X j) := by rw [← hm3, up_ne (by decide), up_ne (by decide), up_same]
    have e9 : m3 66 9 = nI (vl X j) := by rw [← hm3, up_ne (by decide), up_same]
    have e10 : m3 66 10 = nI (vl X j) := by rw [← hm3, up_same]
    have c3 : cst m3 X (go X j) := cst_l h (wfr_l w3) (go_le h.1) e7
    rw [takeWord_c hX c3 (a := 3) (by omega)]
    by_cases c2 : wB X 3 (go X j) = true
    · rw [if_pos c2, if_pos c2, Option.bind_some]
      have c4 := go_c c3
      have w4 : wfr m3 (up m3 66 7 (nI (go X (go X j)))) := wfr_66 (by omega)
      show ∃ c : Int32 × IM, (if (1 : Int32) = 0 then _ else (f_X1_takeNumber (up m3 66 7 (nI (go X (go X j))) 66 9) 30 (up m3 66 7 (nI (go X (go X j))))).bind fun r5 => if r5.1 = 0 then some (0, r5.2) else bnd (up r5.2 66 10 (r5.2 66 8)) fun m6 => some (1, m6)) = some c ∧ _
      rw [if_neg i10, up_ne (show (9 : Nat) ≠ 7 by decide), e9, takeNumber_c hX c4 (nI (vl X j)) 30 (lo := vl X j) (hi := 30) rfl rfl (by omega) (by omega)]
      by_cases c5 : nB X (go X (go X j)) (vl X j) 30 = true
      · have vb := (nB_iff.mp c5).2.2
        rw [if_pos c5, if_pos c5, Option.bind_some]
        refine ⟨(1, up (up (up (up m3 66 7 (nI (go X (go X j)))) 66 8 (nI (vl X (go X (go X j))))) 66 7 (nI (go X (go X (go X j))))) 66 10 (nI (vl X (go X (go X j))))), ?_, ?_, ?_, Or.inl ⟨vl X j, vl X (go X (go X j)), rfl, rfl, ?_, (up_same : up (up (up (up m3 66 7 (nI (go X (go X j)))) 66 8 (nI (vl X (go X (go X j))))) 66 7 (nI (go X (go X (go X j))))) 66 10 (nI (vl X (go X (go X j)))) 66 10 = nI (vl X (go X (go X j)))), vb.1, vb.2⟩⟩
        · show (if (1 : Int32) = 0 then _ else bnd (up (up (up (up m3 66 7 (nI (go X (go X j)))) 66 8 (nI (vl X (go X (go X j))))) 66 7 (nI (go X (go X (go X j))))) 66 10 (up (up (up m3 66 7 (nI (go X (go X j)))) 66 8 (nI (vl X (go X (go X j))))) 66 7 (nI (go X (go X (go X j)))) 66 8)) fun m6 => some (1, m6)) = _
          rw [if_neg i10, bnd_eq, up_ne (show (8 : Nat) ≠ 7 by decide), up_same]
        · refine cst_l c4 (wfr_l (wfr_trans (wfr_trans (wfr_66 (k := 8) (by omega)) (wfr_66 (k := 7) (by omega))) (wfr_66 (k := 10) (by omega)))) (go_le c4.1) ?_
          show up (up (up (up m3 66 7 (nI (go X (go X j)))) 66 8 (nI (vl X (go X (go X j))))) 66 7 (nI (go X (go X (go X j))))) 66 10 (nI (vl X (go X (go X j)))) 66 7 = _
          rw [up_ne (by decide), up_same]
        · exact wfr_trans w3 (wfr_trans w4 (wfr_trans (wfr_trans (wfr_66 (k := 8) (by omega)) (wfr_66 (k := 7) (by omega))) (wfr_66 (k := 10) (by omega))))
        · show up (up (up (up m3 66 7 (nI (go X (go X j)))) 66 8 (nI (vl X (go X (go X j))))) 66 7 (nI (go X (go X (go X j))))) 66 10 (nI (vl X (go X (go X j)))) 66 9 = _
          rw [up_ne (by decide), up_ne (by decide), up_ne (by decide), up_ne (by decide), e9]
      · rw [if_neg c5, if_neg c5, Option.bind_some]
        exact ⟨(0, up m3 66 7 (nI (go X (go X j)))), rfl, c4, wfr_trans w3 w4, Or.inr ⟨rfl, rfl⟩⟩
    · rw [if_neg c2, if_neg c2, Option.bind_some]
      exact ⟨(1, m3), rfl, c3, w3, Or.inl ⟨vl X j, vl X j, rfl, rfl, e9, e10, Nat.le_refl _, v30⟩⟩
  · rw [if_neg c1, if_neg c1, Option.bind_some]
    exact ⟨(0, m), rfl, h, wfr_refl, Or.inr ⟨rfl, rfl⟩⟩
theorem fG_0 {V : TV} {a : Nat} {s : Int32} : fG V a a s = V := by
  have : (fun c => if a ≤ c ∧ c < a then s else vG V c) = vG V := by
    funext c
    rw [if_neg (by omega)]
  unfold fG
  rw [this]
theorem fG_s {V : TV} {a i : Nat} {s : Int32} (h : a ≤ i) : setG (fG V a i s) i s = fG V a (i + 1) s := by
  have : (fun c => if c = i then s else (if a ≤ c ∧ c < i then s else vG V c)) = (fun c => if a ≤ c ∧ c < i + 1 then s else vG V c) := by
    funext c
    by_cases e : c = i
    · rw [if_pos e, if_pos (by omega)]
    · rw [if_neg e]
      by_cases z : a ≤ c ∧ c < i
      · rw [if_pos z, if_pos (by omega)]
      · rw [if_neg z, if_neg (by omega)]
  show (V.1, (fun c => if c = i then s else (if a ≤ c ∧ c < i then s else vG V c)), V.2.2) = _
  rw [this]
  rfl
theorem fF_0 {V : TV} {a : Nat} {s : Int32} : fF V a a s = V := by
  have : (fun c => if a ≤ c ∧ c < a then s else vF V c) = vF V := by
    funext c
    rw [if_neg (by omega)]
  unfold fF
  rw [this]
theorem fF_s {V : TV} {a i : Nat} {s : Int32} (h : a ≤ i) : setF (fF V a i s) i s = fF V a (i + 1) s := by
  have : (fun c => if c = i then s else (if a ≤ c ∧ c < i then s else vF V c)) = (fun c => if a ≤ c ∧ c < i + 1 then s else vF V c) := by
    funext c
    by_cases e : c = i
    · rw [if_pos e, if_pos (by omega)]
    · rw [if_neg e]
      by_cases z : a ≤ c ∧ c < i
      · rw [if_pos z, if_pos (by omega)]
      · rw [if_neg z, if_neg (by omega)]
  show ((fun c => if c = i then s else (if a ≤ c ∧ c < i then s else vF V c)), V.2) = _
  rw [this]
  rfl
theorem ground_c {m : IM} {X : TK} {j : Nat} {V : TV} {s : Int32} (hX : tks X) (h : cst m X j) (v : RC m 31 V) (h10 : vN V ≤ 10) : ∃ c : Int32 × IM, f_X1_readGround 31 s m = some c ∧ rdC m c.2 X (pGr X j s V) c.1 := by
  obtain ⟨⟨x, m1⟩, e1, h1, w1, h2⟩ := cells_c hX h
  have h1 : cst m1 X (pCells X j).1 := h1
  have w1 : wfr m m1 := w1
  unfold f_X1_readGround
  rw [e1, Option.bind_some]
  rcases h2 with ⟨a, b, p, hx, e9, e10, hab, hb⟩ | ⟨p, hx⟩
  · have hx : x = 1 := hx
    have e9 : m1 66 9 = nI a := e9
    have e10 : m1 66 10 = nI b := e10
    show ∃ c : Int32 × IM, (if x = 0 then some (0, m1) else bnd (m1 66 9) fun v2 => f_X1_readGround_l1 31 s xF v2 m1) = some c ∧ _
    rw [hx, if_neg i10, bnd_eq, e9]
    have key1 : ∃ m2, f_X1_readGround_l1 31 s xF (nI a) m1 = some (1, m2) ∧ (RC m2 31 (fG V a (b + 1) s) ∧ (∀ k, k ≠ 33 → m2 k = m1 k)) := by
      refine loopG (fun f m i => f_X1_readGround_l1 31 s f i m) (fun m2 : IM => some (1, m2)) a (nI a) rfl (b + 1) (by omega) (by omega) (fun i m2 => RC m2 31 (fG V a i s) ∧ (∀ k, k ≠ 33 → m2 k = m1 k)) _ (fun f m2 hP => ⟨m2, ?_, hP⟩) (fun f m2 i hi0 hi hP => Or.inr ⟨up m2 33 i s, ?_, ?_, fun k hk => by rw [up_row hk]; exact hP.2 k hk⟩) m1 ⟨by rw [fG_0]; exact RC_w v h10 w1, fun _ _ => rfl⟩
      · show f_X1_readGround_l1b 31 s _ (nI (b + 1)) m2 = _
        unfold f_X1_readGround_l1b
        rw [hP.2 66 (by decide), e10, if_pos (nI_lt (by omega) (by omega))]
      · show f_X1_readGround_l1b 31 s _ (nI i) m2 = _
        unfold f_X1_readGround_l1b
        rw [hP.2 66 (by decide), e10, if_neg (nI_nlt (by omega) (by omega)), if_pos (inb_nI (show i < 31 by omega) (by decide)), ix_nI (by omega), bnd_eq, bnd_eq, nI_1]
      · rw [← fG_s hi0]
        exact RC_G hP.1
    obtain ⟨m2, e2, r2, o2⟩ := key1
    have l2 : lfr m1 m2 := ⟨fun k g1 g2 => o2 k (by omega), fun k hk => by rw [o2 66 (by decide)]⟩
    refine ⟨(1, m2), e2, cst_l h1 l2 h1.1 (by show m2 66 7 = _; rw [o2 66 (by decide)]; exact h1.2.1), lfr_trans (wfr_l w1) l2, Or.inl ⟨fillG V a b s, ?_, rfl, r2⟩⟩
    show (pCells X j).2.map _ = _
    rw [p]
    rfl
  · have hx : x = 0 := hx
    show ∃ c : Int32 × IM, (if x = 0 then some (0, m1) else _) = some c ∧ _
    rw [hx, if_pos rfl]
    refine ⟨(0, m1), rfl, h1, wfr_l w1, Or.inr ⟨?_, rfl⟩⟩
    show (pCells X j).2.map _ = none
    rw [p]
    rfl
theorem fall_c {m : IM} {X : TK} {j : Nat} {V : TV} (hX : tks X) (h : cst m X j) (v : RC m 31 V) (h10 : vN V ≤ 10) : ∃ c : Int32 × IM, f_X1_readFall 31 m = some c ∧ rdC m c.2 X (pFall X j V) c.1 := by
  obtain ⟨⟨x, m1⟩, e1, h1, w1, h2⟩ := cells_c hX h
  have h1 : cst m1 X (pCells X j).1 := h1
  have w1 : wfr m m1 := w1
  unfold f_X1_readFall f_X1_readFall_j1 pFall
  rw [e1, Option.bind_some]
  rcases h2 with ⟨a, b, p, hx, e9, e10, hab, hb⟩ | ⟨p, hx⟩
  · have hx : x = 1 := hx
    have e9 : m1 66 9 = nI a := e9
    have e10 : m1 66 10 = nI b := e10
    rw [p]
    show ∃ c : Int32 × IM, (if x = 0 then some (0, m1) else (f_X1_takeWord 2 m1).bind fun r2 => if r2.1 = 0 then some (0, r2.2) else (f_X1_takeSign 45 r2.2).bind fun r3 => (f_X1_takeNumber 0 9 r3.2).bind fun r4 => if r4.1 = 0 then some (0, r4.2) else bnd (r4.2 66 9) fun v5 => f_X1_readFall_l2 31 xF r3.1 v5 r4.2) = some c ∧ rdC m c.2 X (pFall2 X (pCells X j).1 V (a, b)) c.1
    generalize (pCells X j).1 = i at h1
    rw [hx, if_neg i10, takeWord_c hX h1 (a := 2) (by omega)]
    unfold pFall2
    by_cases c2 : wB X 2 i = true
    · rw [if_pos c2, if_pos c2, Option.bind_some]
      have g2 := go_c h1
      show ∃ c : Int32 × IM, (if (1 : Int32) = 0 then _ else (f_X1_takeSign (nI 45) (up m1 66 7 (nI (go X i)))).bind fun r3 => (f_X1_takeNumber 0 9 r3.2).bind fun r4 => if r4.1 = 0 then some (0, r4.2) else bnd (r4.2 66 9) fun v5 => f_X1_readFall_l2 31 xF r3.1 v5 r4.2) = some c ∧ _
      rw [if_neg i10, takeSign_c hX g2 (Or.inr rfl)]
      -- behind the sign
      have tail : ∀ (y : Int32) (m2 : IM) (z : Int32), cst m2 X (sgn X (go X i)) → wfr m1 m2 → m2 66 9 = nI a → m2 66 10 = nI b → (y = 0 ∨ y = 1) → z = (if y = 0 then nI (vl X (sgn X (go X i))) else -(nI (vl X (sgn X (go X i))))) → ∃ c : Int32 × IM, ((f_X1_takeNumber 0 9 m2).bind fun r4 => if r4.1 = 0 then some (0, r4.2) else bnd (r4.2 66 9) fun v5 => f_X1_readFall_l2 31 xF y v5 r4.2) = some c ∧ rdC m c.2 X (if nB X (sgn X (go X i)) 0 9 = true then (go X (sgn X (go X i)), some (fillF V a b z)) else (sgn X (go X i), none)) c.1 := by
        intro y m2 z g3 w3 d9 d10 hy hz
        rw [takeNumber_c hX g3 0 9 (lo := 0) (hi := 9) rfl rfl (by omega) (by omega)]
        by_cases c4 : nB X (sgn X (go X i)) 0 9 = true
        · rw [if_pos c4, if_pos c4, Option.bind_some]
          generalize hm3 : up (up m2 66 8 (nI (vl X (sgn X (go X i))))) 66 7 (nI (go X (sgn X (go X i)))) = m3
          have w4 : wfr m2 m3 := by rw [← hm3]; exact wfr_trans (wfr_66 (by omega)) (wfr_66 (by omega))
          have wA := wfr_trans (wfr_trans w1 w3) w4
          have e7 : m3 66 7 = nI (go X (sgn X (go X i))) := by rw [← hm3, up_same]
          have f8 : m3 66 8 = nI (vl X (sgn X (go X i))) := by rw [← hm3, up_ne (by decide), up_same]
          have f9 : m3 66 9 = nI a := by rw [← hm3, up_ne (by decide), up_ne (by decide)]; exact d9
          have f10 : m3 66 10 = nI b := by rw [← hm3, up_ne (by decide), up_ne (by decide)]; exact d10
          show ∃ c : Int32 × IM, (if (1 : Int32) = 0 then _ else bnd (m3 66 9) fun v5 => f_X1_readFall_l2 31 xF y v5 m3) = some c ∧ _
          rw [if_neg i10, bnd_eq, f9]
          have key1 : ∃ m4, f_X1_readFall_l2 31 xF y (nI a) m3 = some (1, m4) ∧ (RC m4 31 (fF V a (b + 1) z) ∧ (∀ k, k ≠ 32 → m4 k = m3 k)) := by
            refine loopG (fun f m i => f_X1_readFall_l2 31 f y i m) (fun m2 : IM => some (1, m2)) a (nI a) rfl (b + 1) (by omega) (by omega) (fun i m2 => RC m2 31 (fF V a i z) ∧ (∀ k, k ≠ 32 → m2 k = m3 k)) _ (fun f m2 hP => ⟨m2, ?_, hP⟩) (fun f m2 i hi0 hi hP => Or.inr ⟨up m2 32 i z, ?_, ?_, fun k hk => by rw [up_row hk]; exact hP.2 k hk⟩) m3 ⟨by rw [fF_0]; exact RC_w v h10 wA, fun _ _ => rfl⟩
            · show f_X1_readFall_l2b 31 _ y (nI (b + 1)) m2 = _
              unfold f_X1_readFall_l2b
              rw [hP.2 66 (by decide), f10, if_pos (nI_lt (by omega) (by omega))]
            · show f_X1_readFall_l2b 31 _ y (nI i) m2 = _
              unfold f_X1_readFall_l2b f_X1_readFall_j3
              rw [hP.2 66 (by decide), f10, if_neg (nI_nlt (by omega) (by omega)), f8, ix_nI (by omega), hz]
              simp only [bnd_eq, nI_1, if_pos (inb_nI (show i < 31 by omega) (show 31 < 2 ^ 31 by decide))]
              by_cases y0 : y = 0
              · rw [if_pos y0, if_pos y0]
              · rw [if_neg y0, if_neg y0]
            · rw [← fF_s hi0]
              exact RC_F hP.1
          obtain ⟨m4, e4, r4, o4⟩ := key1
          have l4 : lfr m3 m4 := ⟨fun k g1 g2 => o4 k (by omega), fun k hk => by rw [o4 66 (by decide)]⟩
          exact ⟨(1, m4), e4, cst_l g3 (lfr_trans (wfr_l w4) l4) (go_le g3.1) (by show m4 66 7 = _; rw [o4 66 (by decide)]; exact e7), lfr_trans (wfr_l wA) l4, Or.inl ⟨fillF V a b z, rfl, rfl, r4⟩⟩
        · rw [if_neg c4, if_neg c4, Option.bind_some]
          exact ⟨(0, m2), rfl, g3, wfr_l (wfr_trans w1 w3), Or.inr ⟨rfl, rfl⟩⟩
      have w2 : wfr m1 (up m1 66 7 (nI (go X i))) := wfr_66 (by omega)
      by_cases c3 : gB X (go X i) 45 = true
      · have es : sgn X (go X i) = go X (go X i) := by unfold sgn; rw [if_pos c3]
        rw [if_pos c3, Option.bind_some, if_pos c3]
        exact tail 1 (up (up m1 66 7 (nI (go X i))) 66 7 (nI (go X (go X i)))) _ (by rw [es]; exact go_c g2) (wfr_trans w2 (wfr_66 (by omega))) (by rw [up_ne (by decide), up_ne (by decide)]; exact e9) (by rw [up_ne (by decide), up_ne (by decide)]; exact e10) (Or.inr rfl) (by rw [if_neg i10])
      · have es : sgn X (go X i) = go X i := by unfold sgn; rw [if_neg c3]
        rw [if_neg c3, Option.bind_some, if_neg c3]
        exact tail 0 (up m1 66 7 (nI (go X i))) _ (by rw [es]; exact g2) w2 (by rw [up_ne (by decide)]; exact e9) (by rw [up_ne (by decide)]; exact e10) (Or.inl rfl) (by rw [if_pos rfl])
    · rw [if_neg c2, if_neg c2, Option.bind_some]
      exact ⟨(0, m1), rfl, h1, wfr_l w1, Or.inr ⟨rfl, rfl⟩⟩
  · have hx : x = 0 := hx
    rw [p]
    show ∃ c : Int32 × IM, (if x = 0 then some (0, m1) else _) = some c ∧ _
    rw [hx, if_pos rfl]
    exact ⟨(0, m1), rfl, h1, wfr_l w1, Or.inr ⟨rfl, rfl⟩⟩
theorem shutI_c {m : IM} {X : TK} {j : Nat} {V : TV} (hX : tks X) (h : cst m X j) (v : RC m 31 V) (h10 : vN V ≤ 10) : ∃ c : Int32 × IM, f_X1_readShut 31 m = some c ∧ rdC m c.2 X (pShut X j V) c.1 := by
  unfold f_X1_readShut f_X1_readShut_j1 pShut
  rw [takeNumber_c hX h 0 59 (lo := 0) (hi := 59) rfl rfl (by omega) (by omega)]
  by_cases c1 : nB X j 0 59 = true
  · rw [if_pos c1, if_pos c1, Option.bind_some]
    show ∃ c : Int32 × IM, (if (1 : Int32) = 0 then _ else bnd (up (up (up m 66 8 (nI (vl X j))) 66 7 (nI (go X j))) 66 9 (up (up m 66 8 (nI (vl X j))) 66 7 (nI (go X j)) 66 8)) fun m2 => (f_X1_takeWord 3 m2).bind fun r3 => if r3.1 = 0 then some (0, r3.2) else (f_X1_takeNumber 0 59 r3.2).bind fun r4 => if r4.1 = 0 then some (0, r4.2) else bnd (up r4.2 31 5 (r4.2 66 9)) fun m5 => bnd (up m5 31 6 (m5 66 8)) fun m6 => some (1, m6)) = some c ∧ _
    rw [if_neg i10, bnd_eq, up_ne (show (8 : Nat) ≠ 7 by decide), up_same]
    generalize hm3 : up (up (up m 66 8 (nI (vl X j))) 66 7 (nI (go X j))) 66 9 (nI (vl X j)) = m3
    have w3 : wfr m m3 := by
      rw [← hm3]
      exact wfr_trans (wfr_trans (wfr_66 (by omega)) (wfr_66 (by omega))) (wfr_66 (by omega))
    have e7 : m3 66 7 = nI (go X j) := by rw [← hm3, up_ne (by decide), up_same]
    have e9 : m3 66 9 = nI (vl X j) := by rw [← hm3, up_same]
    have c3 : cst m3 X (go X j) := cst_l h (wfr_l w3) (go_le h.1) e7
    rw [takeWord_c hX c3 (a := 3) (by omega)]
    by_cases c2 : wB X 3 (go X j) = true
    · rw [if_pos c2, if_pos c2, Option.bind_some]
      have c4 := go_c c3
      have w4 : wfr m3 (up m3 66 7 (nI (go X (go X j)))) := wfr_66 (by omega)
      show ∃ c : Int32 × IM, (if (1 : Int32) = 0 then _ else (f_X1_takeNumber 0 59 (up m3 66 7 (nI (go X (go X j))))).bind fun r4 => if r4.1 = 0 then some (0, r4.2) else bnd (up r4.2 31 5 (r4.2 66 9)) fun m5 => bnd (up m5 31 6 (m5 66 8)) fun m6 => some (1, m6)) = some c ∧ _
      rw [if_neg i10, takeNumber_c hX c4 0 59 (lo := 0) (hi := 59) rfl rfl (by omega) (by omega)]
      by_cases c5 : nB X (go X (go X j)) 0 59 = true
      · rw [if_pos c5, if_pos c5, Option.bind_some]
        generalize hm5 : up (up (up m3 66 7 (nI (go X (go X j)))) 66 8 (nI (vl X (go X (go X j))))) 66 7 (nI (go X (go X (go X j)))) = m5
        have w5 : wfr m3 m5 := by rw [← hm5]; exact wfr_trans w4 (wfr_trans (wfr_66 (by omega)) (wfr_66 (by omega)))
        have f9 : m5 66 9 = nI (vl X j) := by rw [← hm5, up_ne (by decide), up_ne (by decide), up_ne (by decide)]; exact e9
        have f8 : m5 66 8 = nI (vl X (go X (go X j))) := by rw [← hm5, up_ne (by decide), up_same]
        have f7 : m5 66 7 = nI (go X (go X (go X j))) := by rw [← hm5, up_same]
        have v5 : RC m5 31 V := RC_w v h10 (wfr_trans w3 w5)
        have l5 : lfr m5 (up (up m5 31 5 (nI (vl X j))) 31 6 (nI (vl X (go X (go X j))))) := lfr_trans (lfr_T (by omega)) (lfr_T (by omega))
        refine ⟨(1, up (up m5 31 5 (nI (vl X j))) 31 6 (nI (vl X (go X (go X j))))), ?_, ?_, lfr_trans (wfr_l (wfr_trans w3 w5)) l5, Or.inl ⟨_, rfl, rfl, ?_⟩⟩
        · show (if (1 : Int32) = 0 then _ else bnd (up m5 31 5 (m5 66 9)) fun m6 => bnd (up m6 31 6 (m6 66 8)) fun m7 => some (1, m7)) = _
          rw [if_neg i10, bnd_eq, bnd_eq, up_row (show (66 : Nat) ≠ 31 by decide), f9, f8]
        · refine cst_l c4 (lfr_trans (wfr_l ?_) l5) (go_le c4.1) ?_
          · rw [← hm5]; exact wfr_trans (wfr_66 (by omega)) (wfr_66 (by omega))
          · show up (up m5 31 5 (nI (vl X j))) 31 6 (nI (vl X (go X (go X j)))) 66 7 = _
            rw [up_row (by decide), up_row (by decide)]; exact f7
        · obtain ⟨h1, h2, h3, h4, h5, h6, h7, h8, h9⟩ := v5
          show RC (up (up m5 31 5 (nI (vl X j))) 31 6 (nI (vl X (go X (go X j))))) 31 (setAB V (nI (vl X j)) (nI (vl X (go X (go X j)))))
          have r31 : ∀ a, a ≠ 31 → up (up m5 31 5 (nI (vl X j))) 31 6 (nI (vl X (go X (go X j)))) a = m5 a := fun a ha => by rw [up_row ha, up_row ha]
          exact ⟨fun c hc => by rw [r31 _ (by omega)]; exact h1 c hc, fun c hc => by rw [r31 _ (by omega)]; exact h2 c hc, fun t ht w hw => by rw [r31 _ (by omega)]; exact h3 t ht w hw, fun k hk => by rw [r31 _ (by omega)]; exact h4 k hk, by rw [up_ne (by decide), up_ne (by decide)]; exact h5, by rw [up_ne (by decide), up_same]; rfl, by rw [up_same]; rfl, by rw [up_ne (by decide), up_ne (by decide)]; exact h8, by rw [up_ne (by decide), up_ne (by decide)]; exact h9⟩
      · rw [if_neg c5, if_neg c5, Option.bind_some]
        exact ⟨(0, up m3 66 7 (nI (go X (go X j)))), rfl, c4, wfr_l (wfr_trans w3 w4), Or.inr ⟨rfl, rfl⟩⟩
    · rw [if_neg c2, if_neg c2, Option.bind_some]
      exact ⟨(0, m3), rfl, c3, wfr_l w3, Or.inr ⟨rfl, rfl⟩⟩
  · rw [if_neg c1, if_neg c1, Option.bind_some]
    exact ⟨(0, m), rfl, h, lfr_refl, Or.inr ⟨rfl, rfl⟩⟩
theorem newX_1 {k w r l y : Int32} : pl (newX k w r l) 1 y = newX k y r l := by
  funext i
  unfold pl newX
  by_cases e : i = 1
  · subst e; rw [if_pos rfl, if_neg (by decide), if_pos rfl]
  · rw [if_neg e, if_neg e, if_neg e]
theorem newX_2 {k w r l y : Int32} : pl (newX k w r l) 2 y = newX k w y l := by
  funext i
  unfold pl newX
  by_cases e : i = 2
  · subst e; rw [if_pos rfl, if_neg (by decide), if_neg (by decide), if_pos rfl]
  · rw [if_neg e, if_neg e, if_neg e]
theorem newX_3 {k w r l y : Int32} : pl (newX k w r l) 3 y = newX k w r y := by
  funext i
  unfold pl newX
  by_cases e : i = 3
  · subst e; rw [if_pos rfl, if_neg (by decide), if_neg (by decide), if_neg (by decide), if_pos rfl]
  · rw [if_neg e, if_neg e, if_neg e]
theorem addV_r {V : TV} {x y : Nat → Int32} : setR (addV V x) (vN V) y = addV V y := by
  have : (fun s => if s = vN V then y else (if s = vN V then x else vT V s)) = (fun s => if s = vN V then y else vT V s) := by
    funext s
    by_cases e : s = vN V
    · rw [if_pos e, if_pos e]
    · rw [if_neg e, if_neg e, if_neg e]
  show (V.1, V.2.1, (fun s => if s = vN V then y else (if s = vN V then x else vT V s)), V.2.2.2.1, vN V + 1, V.2.2.2.2.2) = _
  rw [this]
  rfl
theorem add_up {m : IM} {V : TV} {x : Nat → Int32} {i : Nat} {y : Int32} (hN : vN V < 10) (v : RC m 31 (addV V x)) : RC (up m (36 + vN V) i y) 31 (addV V (pl x i y)) := by
  rw [← addV_r (x := x)]
  refine RC_row v (by rw [addV_N]; omega) _ (fun w hw => ?_) (fun a h1 h2 h3 => up_row (by omega))
  show up m (36 + vN V) i y (36 + vN V) w = _
  by_cases e : w = i
  · subst e; rw [up_same, pl_same]
  · rw [up_ne e, pl_ne e]
    have := v.2.2.1 (vN V) (by rw [addV_N]; omega) w hw
    rw [addV_T, if_pos rfl] at this
    exact this
theorem th3_c {m : IM} {X : TK} {j w r : Nat} {V : TV} {k : Int32} (hX : tks X) (h : cst m X j) (hN : vN V < 10) (v : RC m 31 (addV V (newX k (nI w) (nI r) 0))) : ∃ c : Int32 × IM, f_X1_readThing_j2 31 k (36 + vN V) m = some c ∧ rdC m c.2 X (pTh3 X j k V w r) c.1 := by
  unfold f_X1_readThing_j2 f_X1_readThing_j3 pTh3 pOpt
  rw [takeWord_c hX h (a := 6) (by omega)]
  by_cases c1 : wB X 6 j = true
  · rw [if_pos c1, if_pos c1, Option.bind_some]
    have g1 := go_c h
    have w1 : wfr m (up m 66 7 (nI (go X j))) := wfr_66 (by omega)
    show ∃ c : Int32 × IM, (if (1 : Int32) = 0 then _ else (f_X1_takeNumber 0 9 (up m 66 7 (nI (go X j)))).bind fun r8 => if r8.1 = 0 then some (0, r8.2) else bnd (up r8.2 (36 + vN V) 3 (r8.2 66 8)) fun m9 => some (1, m9)) = some c ∧ _
    rw [if_neg i10, takeNumber_c hX g1 0 9 (lo := 0) (hi := 9) rfl rfl (by omega) (by omega)]
    by_cases c2 : nB X (go X j) 0 9 = true
    · rw [if_pos c2, if_pos c2, Option.bind_some]
      generalize hm3 : up (up (up m 66 7 (nI (go X j))) 66 8 (nI (vl X (go X j)))) 66 7 (nI (go X (go X j))) = m3
      have w3 : wfr m m3 := by rw [← hm3]; exact wfr_trans w1 (wfr_trans (wfr_66 (by omega)) (wfr_66 (by omega)))
      have f8 : m3 66 8 = nI (vl X (go X j)) := by rw [← hm3, up_ne (by decide), up_same]
      have f7 : m3 66 7 = nI (go X (go X j)) := by rw [← hm3, up_same]
      have l3 : lfr m3 (up m3 (36 + vN V) 3 (nI (vl X (go X j)))) := lfr_T (by omega)
      refine ⟨(1, up m3 (36 + vN V) 3 (nI (vl X (go X j)))), ?_, cst_l h (lfr_trans (wfr_l w3) l3) (go_le (go_le h.1)) ?_, lfr_trans (wfr_l w3) l3, Or.inl ⟨addV V (newX k (nI w) (nI r) (nI (vl X (go X j)))), rfl, rfl, ?_⟩⟩
      · show (if (1 : Int32) = 0 then _ else bnd (up m3 (36 + vN V) 3 (m3 66 8)) fun m9 => some (1, m9)) = _
        rw [if_neg i10, bnd_eq, f8]
      · show up m3 (36 + vN V) 3 (nI (vl X (go X j))) 66 7 = _
        rw [up_row (by omega)]; exact f7
      · rw [← newX_3 (l := 0)]
        exact add_up hN (RC_w v (by rw [addV_N]; omega) w3)
    · rw [if_neg c2, if_neg c2, Option.bind_some]
      exact ⟨(0, up m 66 7 (nI (go X j))), rfl, g1, wfr_l w1, Or.inr ⟨rfl, rfl⟩⟩
  · rw [if_neg c1, if_neg c1, Option.bind_some]
    exact ⟨(1, m), rfl, h, lfr_refl, Or.inl ⟨_, rfl, rfl, v⟩⟩
theorem th2_c {m : IM} {X : TK} {j w : Nat} {V : TV} {k : Int32} (hX : tks X) (h : cst m X j) (hN : vN V < 10) (v : RC m 31 (addV V (newX k (nI w) 4 0))) : ∃ c : Int32 × IM, f_X1_readThing_j1 31 k (36 + vN V) m = some c ∧ rdC m c.2 X (pTh2 X j k V w) c.1 := by
  unfold f_X1_readThing_j1 pTh2 pOpt
  rw [takeWord_c hX h (a := 5) (by omega)]
  by_cases c1 : wB X 5 j = true
  · rw [if_pos c1, if_pos c1, Option.bind_some]
    have g1 := go_c h
    have w1 : wfr m (up m 66 7 (nI (go X j))) := wfr_66 (by omega)
    show ∃ c : Int32 × IM, (if (1 : Int32) = 0 then _ else (f_X1_takeNumber 1 9 (up m 66 7 (nI (go X j)))).bind fun r8 => if r8.1 = 0 then some (0, r8.2) else bnd (up r8.2 (36 + vN V) 2 (r8.2 66 8)) fun m9 => f_X1_readThing_j2 31 k (36 + vN V) m9) = some c ∧ _
    rw [if_neg i10, takeNumber_c hX g1 1 9 (lo := 1) (hi := 9) rfl rfl (by omega) (by omega)]
    by_cases c2 : nB X (go X j) 1 9 = true
    · rw [if_pos c2, if_pos c2, Option.bind_some]
      generalize hm3 : up (up (up m 66 7 (nI (go X j))) 66 8 (nI (vl X (go X j)))) 66 7 (nI (go X (go X j))) = m3
      have w3 : wfr m m3 := by rw [← hm3]; exact wfr_trans w1 (wfr_trans (wfr_66 (by omega)) (wfr_66 (by omega)))
      have f8 : m3 66 8 = nI (vl X (go X j)) := by rw [← hm3, up_ne (by decide), up_same]
      have f7 : m3 66 7 = nI (go X (go X j)) := by rw [← hm3, up_same]
      have l3 : lfr m3 (up m3 (36 + vN V) 2 (nI (vl X (go X j)))) := lfr_T (by omega)
      obtain ⟨c, e, hr⟩ := th3_c (m := up m3 (36 + vN V) 2 (nI (vl X (go X j)))) (X := X) (j := go X (go X j)) (w := w) (r := vl X (go X j)) (V := V) (k := k) hX (cst_l h (lfr_trans (wfr_l w3) l3) (go_le (go_le h.1)) (by rw [up_row (by omega)]; exact f7)) hN (by rw [← newX_2 (r := 4)]; exact add_up hN (RC_w v (by rw [addV_N]; omega) w3))
      refine ⟨c, ?_, rdC_l hr (lfr_trans (wfr_l w3) l3)⟩
      show (if (1 : Int32) = 0 then _ else bnd (up m3 (36 + vN V) 2 (m3 66 8)) fun m9 => f_X1_readThing_j2 31 k (36 + vN V) m9) = _
      rw [if_neg i10, bnd_eq, f8, e]
    · rw [if_neg c2, if_neg c2, Option.bind_some]
      exact ⟨(0, up m 66 7 (nI (go X j))), rfl, g1, wfr_l w1, Or.inr ⟨rfl, rfl⟩⟩
  · rw [if_neg c1, if_neg c1, Option.bind_some]
    exact th3_c hX h hN v
theorem thing_c {m : IM} {X : TK} {j : Nat} {V : TV} {k : Int32} (hX : tks X) (h : cst m X j) (hN : vN V < 10) (v : RC m 31 V) : ∃ c : Int32 × IM, f_X1_readThing 31 k m = some c ∧ rdC m c.2 X (pTh1 X (go X j) k V) c.1 := by
  have q1 := hX.1
  have q2 := hX.2.1
  unfold f_X1_readThing
  rw [goOn_c h (by omega), bnd_eq]
  have g0 := go_c h
  have w0 : wfr m (up m 66 7 (nI (go X j))) := wfr_66 (by omega)
  obtain ⟨ma, ea, ra, oa⟩ := addThing_c (RC_w v (by omega) w0) hN k 10
  have l0 : lfr m ma := lfr_trans (wfr_l w0) ⟨fun a h1 h2 => oa a (by omega), fun i hi => by rw [oa 66 (by omega)]⟩
  have g1 : cst ma X (go X j) := cst_l h l0 (go_le h.1) (by rw [oa 66 (by omega), up_same])
  have e4 : ma 31 4 - 1 = nI (vN V) := by rw [ra.2.2.2.2.1, addV_N, nI_pred]
  rw [ea, Option.bind_some, bnd_eq, e4, if_pos (inb_nI hN (by decide)), ix_nI (by omega)]
  generalize go X j = i at g1
  unfold pTh1 pOpt
  rw [takeWord_c hX g1 (a := 4) (by omega)]
  by_cases c1 : wB X 4 i = true
  · rw [if_pos c1, if_pos c1, Option.bind_some]
    have g2 := go_c g1
    have w1 : wfr ma (up ma 66 7 (nI (go X i))) := wfr_66 (by omega)
    show ∃ c : Int32 × IM, (if (1 : Int32) = 0 then _ else (f_X1_takeNumber 1 99 (up ma 66 7 (nI (go X i)))).bind fun r8 => if r8.1 = 0 then some (0, r8.2) else bnd (up r8.2 (36 + vN V) 1 (r8.2 66 8)) fun m9 => f_X1_readThing_j1 31 k (36 + vN V) m9) = some c ∧ _
    rw [if_neg i10, takeNumber_c hX g2 1 99 (lo := 1) (hi := 99) rfl rfl (by omega) (by omega)]
    by_cases c2 : nB X (go X i) 1 99 = true
    · rw [if_pos c2, if_pos c2, Option.bind_some]
      generalize hm3 : up (up (up ma 66 7 (nI (go X i))) 66 8 (nI (vl X (go X i)))) 66 7 (nI (go X (go X i))) = m3
      have w3 : wfr ma m3 := by rw [← hm3]; exact wfr_trans w1 (wfr_trans (wfr_66 (by omega)) (wfr_66 (by omega)))
      have f8 : m3 66 8 = nI (vl X (go X i)) := by rw [← hm3, up_ne (by decide), up_same]
      have f7 : m3 66 7 = nI (go X (go X i)) := by rw [← hm3, up_same]
      have l3 : lfr m3 (up m3 (36 + vN V) 1 (nI (vl X (go X i)))) := lfr_T (by omega)
      obtain ⟨c, e, hr⟩ := th2_c (m := up m3 (36 + vN V) 1 (nI (vl X (go X i)))) (X := X) (j := go X (go X i)) (w := vl X (go X i)) (V := V) (k := k) hX (cst_l g1 (lfr_trans (wfr_l w3) l3) (go_le (go_le g1.1)) (by rw [up_row (by omega)]; exact f7)) hN (by rw [← newX_1 (w := 10)]; exact add_up hN (RC_w ra (by rw [addV_N]; omega) w3))
      refine ⟨c, ?_, rdC_l hr (lfr_trans l0 (lfr_trans (wfr_l w3) l3))⟩
      show (if (1 : Int32) = 0 then _ else bnd (up m3 (36 + vN V) 1 (m3 66 8)) fun m9 => f_X1_readThing_j1 31 k (36 + vN V) m9) = _
      rw [if_neg i10, bnd_eq, f8, e]
    · rw [if_neg c2, if_neg c2, Option.bind_some]
      exact ⟨(0, up ma 66 7 (nI (go X i))), rfl, g2, lfr_trans l0 (wfr_l w1), Or.inr ⟨rfl, rfl⟩⟩
  · rw [if_neg c1, if_neg c1, Option.bind_some]
    obtain ⟨c, e, hr⟩ := th2_c (w := 10) hX g1 hN ra
    exact ⟨c, e, rdC_l hr l0⟩
