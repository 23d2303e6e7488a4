/-! the line of the reference -/
def mp (V : TV) (w t x : Nat) : Bool := pF V x && (decide (wN V x < w) || (decide (wN V x = w) && decide (x < t)))
theorem mp_iff {V : TV} {w t x : Nat} : mp V w t x = true ↔ pF V x = true ∧ (wN V x < w ∨ (wN V x = w ∧ x < t)) := by
  unfold mp
  rw [Bool.and_eq_true, Bool.or_eq_true, Bool.and_eq_true, decide_eq_true_iff, decide_eq_true_iff, decide_eq_true_iff]
def lnR (im m : IM) : Prop := (∀ a, a ≠ 82 → a ≠ 88 → m a = im a) ∧ ∀ k, k ≠ 14 → m 82 k = im 82 k
def lnP (V : TV) (w t : Nat) (m : IM) : Prop := ∃ g : Nat → Nat, m 82 14 = nI (cn (mp V w t) (vN V)) ∧ (∀ k, k < cn (mp V w t) (vN V) → m 88 k = nI (g k)) ∧ (∀ k, k < cn (mp V w t) (vN V) → ∀ l, l < k → key V (g l) < key V (g k)) ∧ ∀ x, (∃ k, k < cn (mp V w t) (vN V) ∧ g k = x) ↔ (x < vN V ∧ mp V w t x = true)
theorem lnP_cg {V : TV} {w t w' t' : Nat} {m : IM} (h : lnP V w t m) (e : ∀ x, x < vN V → mp V w t x = mp V w' t' x) : lnP V w' t' m := by
  obtain ⟨g, h1, h2, h3, h4⟩ := h
  have ec := cn_cg e
  rw [ec] at h1 h2 h3 h4
  refine ⟨g, h1, h2, h3, fun x => (h4 x).trans ⟨fun z => ⟨z.1, by rw [← e x z.1]; exact z.2⟩, fun z => ⟨z.1, by rw [e x z.1]; exact z.2⟩⟩⟩
theorem find_r {im : IM} {V : TV} (v : RR im 83 V) (ok : OkL V) : ∃ m, f_X7_findLine im = some m ∧ (lnR im m ∧ ∃ g : Nat → Nat, m 82 14 = nI (cn (pF V) (vN V)) ∧ (∀ k, k < cn (pF V) (vN V) → m 88 k = nI (g k)) ∧ isLine V (cn (pF V) (vN V)) g) := by
  have h10 := ok.1
  have hw := fun x hx => wN_e (ok.2.2.2.1 x hx)
  unfold f_X7_findLine
  rw [bnd_eq]
  have key1 : ∃ m, f_X7_findLine_l1 xF 1 (up im 82 14 0) = some m ∧ (lnR im m ∧ lnP V 100 0 m) := by
    refine loopG (fun f m w => f_X7_findLine_l1 f w m) some 1 1 rfl 100 (by omega) (by omega) (fun w m => lnR im m ∧ lnP V w 0 m) _ (fun f m hP => ⟨m, ?_, hP⟩) (fun f m w hw0 hw1 hP => Or.inr ?_) (up im 82 14 0) ⟨⟨fun a h1 h2 => up_row h1, fun k hk => up_ne hk⟩, ?_⟩
    · show f_X7_findLine_l1b _ (nI 100) m = _
      unfold f_X7_findLine_l1b
      rw [if_pos (by decide)]
    · have inner : ∃ m', f_X7_findLine_l2 (f_X7_findLine_l1 f) xF (nI w) 0 m = f_X7_findLine_l1 f (nI (w + 1)) m' ∧ (lnR im m' ∧ lnP V w (vN V) m') := by
        refine loopG (fun h m t => f_X7_findLine_l2 (f_X7_findLine_l1 f) h (nI w) t m) (fun m' : IM => f_X7_findLine_l1 f (nI (w + 1)) m') 0 0 rfl (vN V) (by omega) (by omega) (fun t m => lnR im m ∧ lnP V w t m) _ (fun h m hP => ⟨m, ?_, hP⟩) (fun h m t ht0 ht hP => Or.inr ?_) m hP
        · show f_X7_findLine_l2b _ _ (nI w) (nI (vN V)) m = _
          unfold f_X7_findLine_l2b
          rw [hP.1.1 83 (by decide) (by decide), v.2.2.2.2.1, if_pos (Int32.le_refl _), bnd_eq, nI_1]
        · obtain ⟨p1, p2⟩ := hP
          have vm : RR m 83 V := v.cg (p1.1 83 (by decide) (by decide))
          obtain ⟨w1, w2, w3⟩ := hw t ht
          have pi := pF_iff (ok.2.2.2.1 t ht)
          by_cases c : pF V t = true ∧ wN V t = w
          · obtain ⟨c6, c4⟩ := pi.mp c.1
            obtain ⟨g, g1, g2, g3, g4⟩ := p2
            have nt : mp V w t t = false := by
              cases z : mp V w t t with
              | false => rfl
              | true =>
                have := (mp_iff.mp z).2
                omega
            have es : ∀ x, x < vN V → (mp V w t x || (decide (x = t) && true)) = mp V w (t + 1) x := by
              intro x hx
              rw [Bool.and_true, Bool.eq_iff_iff, Bool.or_eq_true, mp_iff, mp_iff, decide_eq_true_iff]
              constructor
              · rintro (⟨h1, h2⟩ | h1)
                · exact ⟨h1, by omega⟩
                · subst h1; exact ⟨c.1, by omega⟩
              · rintro ⟨h1, h2⟩
                by_cases e : x = t
                · exact Or.inr e
                · exact Or.inl ⟨h1, by omega⟩
            have ec : cn (mp V w (t + 1)) (vN V) = cn (mp V w t) (vN V) + 1 := by
              rw [← cn_cg es, cn_or (fun x hx z => ?_), cn_one, if_pos ⟨ht, rfl⟩]
              rw [Bool.and_true]
              refine decide_eq_false (fun e => ?_)
              subst e
              rw [nt] at z
              exact absurd z (by decide)
            have hc10 : cn (mp V w t) (vN V) < 10 := by
              have : cn (mp V w (t + 1)) (vN V) ≤ vN V := cn_le
              omega
            generalize hcc : cn (mp V w t) (vN V) = cc at *
            refine ⟨up (up m 88 cc (nI t)) 82 14 (nI (cc + 1)), ?_, ⟨fun a h1 h2 => by rw [up_row h1, up_row h2]; exact p1.1 a h1 h2, fun k hk => by rw [up_ne hk, up_row (by decide)]; exact p1.2 k hk⟩, fun k => if k = cc then t else g k, ?_, fun k hk => ?_, fun k hk l hl => ?_, fun x => ?_⟩
            · show f_X7_findLine_l2b _ _ (nI w) (nI t) m = _
              unfold f_X7_findLine_l2b f_X7_findLine_j3
              rw [vm.2.2.2.2.1, if_neg (nI_ge ht (by omega)), its_w (w := 6) 6 rfl (by omega) (by decide), Option.bind_some, vm.2.2.1 t ht 6 (by decide), if_pos c6, its_w (w := 4) 4 rfl (by omega) (by decide), Option.bind_some, vm.2.2.1 t ht 4 (by decide), if_pos c4, its_w (w := 1) 1 rfl (by omega) (by decide), Option.bind_some, vm.2.2.1 t ht 1 (by decide), w1, c.2, if_pos rfl, g1, if_pos (inb_nI hc10 (by decide)), ix_nI (by omega), bnd_eq, bnd_eq, bnd_eq, up_row (show (82 : Nat) ≠ 88 by decide), g1, nI_1, nI_1]
            · rw [up_same, ec]
            · rw [ec] at hk
              rw [up_row (by decide)]
              show up m 88 cc (nI t) 88 k = nI (if k = cc then t else g k)
              by_cases e : k = cc
              · subst e; rw [up_same, if_pos rfl]
              · rw [up_ne e, if_neg e]; exact g2 k (by omega)
            · rw [ec] at hk
              show key V (if l = cc then t else g l) < key V (if k = cc then t else g k)
              rw [if_neg (by omega)]
              by_cases e : k = cc
              · rw [if_pos e]
                have z := (g4 (g l)).mp ⟨l, by omega, rfl⟩
                obtain ⟨z1, z2⟩ := z
                have z3 := (mp_iff.mp z2).2
                unfold key
                omega
              · rw [if_neg e]; exact g3 k (by omega) l hl
            · rw [ec]
              constructor
              · rintro ⟨k, hk, e⟩
                have e : (if k = cc then t else g k) = x := e
                by_cases z : k = cc
                · rw [if_pos z] at e
                  subst e
                  exact ⟨ht, mp_iff.mpr ⟨c.1, by omega⟩⟩
                · rw [if_neg z] at e
                  obtain ⟨z1, z2⟩ := (g4 x).mp ⟨k, by omega, e⟩
                  exact ⟨z1, by rw [← es x z1, z2]; rfl⟩
              · rintro ⟨z1, z2⟩
                rw [← es x z1, Bool.or_eq_true, Bool.and_true, decide_eq_true_iff] at z2
                rcases z2 with z2 | z2
                · obtain ⟨k, hk, e⟩ := (g4 x).mpr ⟨z1, z2⟩
                  exact ⟨k, by omega, by show (if k = cc then t else g k) = x; rw [if_neg (by omega)]; exact e⟩
                · exact ⟨cc, by omega, by show (if cc = cc then t else g cc) = x; rw [if_pos rfl]; exact z2.symm⟩
          · have es : ∀ x, x < vN V → mp V w t x = mp V w (t + 1) x := by
              intro x hx
              rw [Bool.eq_iff_iff, mp_iff, mp_iff]
              constructor
              · rintro ⟨h1, h2⟩
                exact ⟨h1, by omega⟩
              · rintro ⟨h1, h2⟩
                by_cases e : x = t
                · subst e
                  refine ⟨h1, ?_⟩
                  by_cases z : wN V x = w
                  · exact absurd ⟨h1, z⟩ c
                  · omega
                · exact ⟨h1, by omega⟩
            refine ⟨m, ?_, p1, lnP_cg p2 es⟩
            show f_X7_findLine_l2b _ _ (nI w) (nI t) m = _
            unfold f_X7_findLine_l2b f_X7_findLine_j3
            rw [vm.2.2.2.2.1, if_neg (nI_ge ht (by omega)), its_w (w := 6) 6 rfl (by omega) (by decide), Option.bind_some, vm.2.2.1 t ht 6 (by decide), its_w (w := 4) 4 rfl (by omega) (by decide), Option.bind_some, vm.2.2.1 t ht 4 (by decide), its_w (w := 1) 1 rfl (by omega) (by decide), Option.bind_some, vm.2.2.1 t ht 1 (by decide), w1]
            simp only [bnd_eq, nI_1]
            by_cases c6 : vT V t 6 = 0
            · rw [if_pos c6]
              by_cases c4 : vT V t 4 = 30
              · rw [if_pos c4, if_neg (fun z => c ⟨pi.mpr ⟨c6, c4⟩, nI_u (by omega) (by omega) z⟩)]
              · rw [if_neg c4]
            · rw [if_neg c6]
      obtain ⟨m', e1, q1, q2⟩ := inner
      refine ⟨m', ?_, q1, lnP_cg q2 (fun x hx => ?_)⟩
      · show f_X7_findLine_l1b _ (nI w) m = _
        unfold f_X7_findLine_l1b
        rw [if_neg (by rw [nI_ge_lit (n := 100) 100 (by decide) (by omega)]; omega), e1]
      · rw [Bool.eq_iff_iff, mp_iff, mp_iff]
        exact ⟨fun z => ⟨z.1, by omega⟩, fun z => ⟨z.1, by omega⟩⟩
    · have e0 : cn (mp V 1 0) (vN V) = 0 := cn_none (fun t ht => by
        cases z : mp V 1 0 t with
        | false => rfl
        | true =>
          have := (mp_iff.mp z).2
          have := hw t ht
          omega)
      refine ⟨fun _ => 0, by rw [e0, up_same]; rfl, fun k hk => by rw [e0] at hk; exact absurd hk (Nat.not_lt_zero _), fun k hk => by rw [e0] at hk; exact absurd hk (Nat.not_lt_zero _), fun x => ⟨fun z => ?_, fun z => ?_⟩⟩
      · obtain ⟨k, hk, -⟩ := z
        rw [e0] at hk
        exact absurd hk (Nat.not_lt_zero _)
      · have := (mp_iff.mp z.2).2
        have := hw x z.1
        omega
  obtain ⟨m, e, q1, q2⟩ := key1
  refine ⟨m, e, q1, ?_⟩
  have es : ∀ x, x < vN V → mp V 100 0 x = pF V x := by
    intro x hx
    have := hw x hx
    rw [Bool.eq_iff_iff, mp_iff]
    exact ⟨fun z => z.1, fun z => ⟨z, by omega⟩⟩
  obtain ⟨g, g1, g2, g3, g4⟩ := q2
  have ec := cn_cg es
  rw [ec] at g1 g2 g3 g4
  exact ⟨g, g1, g2, g3, fun x => (g4 x).trans ⟨fun z => ⟨z.1, by rw [← es x z.1]; exact z.2⟩, fun z => ⟨z.1, by rw [es x z.1]; exact z.2⟩⟩⟩
theorem wq_cg {V : TV} {f g : Nat → Nat} : ∀ {n : Nat}, (∀ k, k < n → f k = g k) → wq V f n = wq V g n
  | 0, _ => rfl
  | n + 1, h => by
    show ((wq V f n).1 + wt V (f n), (wq V f n).2 + ((wq V f n).1 + wt V (f n))) = ((wq V g n).1 + wt V (g n), (wq V g n).2 + ((wq V g n).1 + wt V (g n)))
    rw [wq_cg (fun k hk => h k (by omega)), h n (by omega)]
theorem o65_agr {im m : IM} (o : ∀ a, a ≠ 65 → m a = im a) : agr im m := ⟨fun a g1 g2 g3 g4 => o a (fun z => g1 (by unfold scr; omega)), by rw [o 0 (by decide)], by rw [o 66 (by decide)], by rw [o 82 (by decide)], by rw [o 82 (by decide)]⟩
theorem lnR_agr {im m : IM} (h : lnR im m) : agr im m := ⟨fun a g1 g2 g3 g4 => h.1 a g4 (fun z => g1 (by unfold scr; omega)), by rw [h.1 0 (by decide) (by decide)], by rw [h.1 66 (by decide) (by decide)], h.2 4 (by decide), h.2 16 (by decide)⟩
/-- both lines, and that they are one -/
theorem lines {im : IM} {V : TV} (v1 : RC im 1 V) (v2 : RR im 83 V) (ok : OkL V) : ∃ (g : Nat → Nat) (m1 : IM), f_X6_lineUpByWeight im = some (nI (cn (pF V) (vN V)), m1) ∧ ((∀ a, a ≠ 65 → m1 a = im a) ∧ (∀ k, k < cn (pF V) (vN V) → m1 65 k = nI (g k) ∧ g k < vN V ∧ pF V (g k) = true) ∧ (∀ k, k < cn (pF V) (vN V) → ∀ l, l < k → g l ≠ g k)) ∧ ∀ x : IM, x 83 = im 83 → ∃ m2, f_X7_findLine x = some m2 ∧ lnR x m2 ∧ m2 82 14 = nI (cn (pF V) (vN V)) ∧ ∀ k, k < cn (pF V) (vN V) → m2 88 k = nI (g k) := by
  obtain ⟨⟨g, m1⟩, e1, o1, q1, l1⟩ := sort_c v1 ok
  refine ⟨g, m1, e1, ⟨o1, fun k hk => ⟨q1 k hk, (l1.2 (g k)).mp ⟨k, hk, rfl⟩⟩, fun k hk l hl e => ?_⟩, fun x hx => ?_⟩
  · have := l1.1 k hk l hl
    have e : g l = g k := e
    have this : key V (g l) < key V (g k) := this
    rw [e] at this
    omega
  · obtain ⟨m2, e2, r2, f, f1, f2, f3⟩ := find_r (v2.cg hx) ok
    refine ⟨m2, e2, r2, f1, fun k hk => ?_⟩
    rw [f2 k hk, line_u f3 l1 k hk]
theorem lp_least : LP_least Inv := by
  intro im hI
  obtain ⟨⟨V, v1, v2, v3⟩, -⟩ := id hI
  have h10 := v3.1
  have ok := v3.l
  obtain ⟨g, m, e, ⟨o, q, -⟩, hR⟩ := lines v1 v2 ok
  have hcN : cn (pF V) (vN V) ≤ vN V := cn_le
  have ew := wofq_c v1 h10 o (c := cn (pF V) (vN V)) (by omega) (fun k hk => ⟨(q k hk).1, (q k hk).2.1⟩)
  obtain ⟨m2, e2, r2, f1, f2⟩ := hR m (o 83 (by decide))
  have v2m : RR m2 83 V := v2.cg (by rw [r2.1 83 (by decide) (by decide), o 83 (by decide)])
  have key2 : ∃ u : Unit, f_X7_least_l1 xF 0 0 0 m2 = some ((wq V g (cn (pF V) (vN V))).2, m2) ∧ True := by
    refine loopG (fun f (s : Int32 × Int32) i => f_X7_least_l1 f s.2 s.1 i m2) (fun _ : Unit => some ((wq V g (cn (pF V) (vN V))).2, m2)) 0 0 rfl (cn (pF V) (vN V)) (by omega) (by omega) (fun i s => s = wq V g i) _ (fun f s hP => ⟨(), ?_, trivial⟩) (fun f s i hi0 hi hP => Or.inr ?_) (0, 0) rfl
    · show f_X7_least_l1b _ s.2 s.1 (nI (cn (pF V) (vN V))) m2 = _
      unfold f_X7_least_l1b
      rw [f1, if_pos (Int32.le_refl _), hP]
    · refine ⟨wq V g (i + 1), ?_, rfl⟩
      show f_X7_least_l1b _ s.2 s.1 (nI i) m2 = _
      unfold f_X7_least_l1b
      rw [f1, if_neg (nI_ge hi (by omega)), if_pos (inb_nI (show i < 10 by omega) (by decide)), ix_nI (by omega), f2 i hi, mup_r v2m h10 (q i hi).2.1, Option.bind_some, bnd_eq, bnd_eq, bnd_eq, nI_1, hP]
      rfl
  obtain ⟨-, e3, -⟩ := key2
  refine ⟨(wq V g (cn (pF V) (vN V))).2, m, m2, ?_, ?_, hI.agr ((o65_agr o).trans (lnR_agr r2))⟩
  · unfold f_X6_least
    rw [e, Option.bind_some]
    show ((f_X6_waitsOfQueue (nI (cn (pF V) (vN V))) m).bind fun r2 => some (r2, m)) = _
    rw [ew, Option.bind_some]
  · unfold f_X7_least
    rw [e2, Option.bind_some, e3]
theorem lp_order : LP_order Inv := by
  intro im hI a1
  obtain ⟨⟨V, v1, v2, v3⟩, -⟩ := id hI
  have h10 := v3.1
  have ok := v3.l
  have hcN : cn (pF V) (vN V) ≤ vN V := cn_le
  by_cases hw : wi a1 0 9
  · obtain ⟨i, hi, rfl⟩ := rng_of (n := 9) 9 (by decide) hw.1 hw.2
    obtain ⟨g, m, e, ⟨o, q, -⟩, hR⟩ := lines v1 v2 ok
    have ib := inb_nI (show i < 10 by omega) (show 10 < 2 ^ 31 by decide)
    have eC : f_X6_order (nI i) im = if nI (cn (pF V) (vN V)) ≤ nI i then (f_X6_refuse (-1000004) m).bind fun r2 => some (r2.1, r2.2) else some (m 65 i, m) := by
      unfold f_X6_order
      rw [within_1 hw, if_neg i10, e, Option.bind_some]
      show (if nI (cn (pF V) (vN V)) ≤ nI i then (f_X6_refuse (-1000004) m).bind fun r2 => some (r2.1, r2.2) else if inb (nI i) 10 = true then some (m 65 (ix (nI i)), m) else none) = _
      rw [if_pos ib, ix_nI (by omega)]
    by_cases c : cn (pF V) (vN V) ≤ i
    · rw [if_pos (nI_le c (by omega)), refuse_4, Option.bind_some] at eC
      obtain ⟨m2, e2, r2, f1, f2⟩ := hR (up m 73 3 (m 73 3 + 1)) (by rw [up_row (by decide), o 83 (by decide)])
      refine ⟨-1000004, _, up m2 86 3 (m2 86 3 + 1), eC, ?_, fin_ref (by decide) hI (o65_agr o) (lnR_agr r2)⟩
      unfold f_X7_order
      rw [in_0_9, within_1 hw, if_neg i10, e2, Option.bind_some, f1, if_pos (nI_le c (by omega)), finds_4, Option.bind_some]
    · rw [if_neg (nI_ge (by omega) (by omega))] at eC
      obtain ⟨m2, e2, r2, f1, f2⟩ := hR m (o 83 (by decide))
      refine ⟨_, _, m2, eC, ?_, hI.agr ((o65_agr o).trans (lnR_agr r2))⟩
      unfold f_X7_order
      rw [in_0_9, within_1 hw, if_neg i10, e2, Option.bind_some, f1, if_neg (nI_ge (by omega) (by omega)), if_pos ib, ix_nI (by omega), f2 i (by omega), (q i (by omega)).1]
  · refine bref1 hI ?_ (fun m hm => ?_)
    · unfold f_X6_order
      rw [within_0 hw, if_pos rfl, refuse_1, Option.bind_some]
    · unfold f_X7_order
      rw [in_0_9, within_0 hw, if_pos rfl, finds_1, Option.bind_some]
/-! the wheel -/
def upV (V : TV) (g : Nat → Nat) : Nat → TV
  | 0 => V
  | k + 1 => setR (upV V g k) (g k) (pl (vT (upV V g k) (g k)) 6 3)
theorem upV_N {V : TV} {g : Nat → Nat} : ∀ k, vN (upV V g k) = vN V
  | 0 => rfl
  | k + 1 => upV_N k
theorem upV_1 {V : TV} {g : Nat → Nat} {t : Nat} : ∀ k, vT (upV V g k) t 1 = vT V t 1
  | 0 => rfl
  | k + 1 => by
    show (if t = g k then pl (vT (upV V g k) (g k)) 6 3 else vT (upV V g k) t) 1 = _
    by_cases e : t = g k
    · rw [if_pos e, pl_ne (by decide), ← e]; exact upV_1 k
    · rw [if_neg e]; exact upV_1 k
theorem upV_ok {V : TV} {g : Nat → Nat} (h : OkV V) : ∀ k, (∀ j, j < k → g j < vN V) → OkV (upV V g k)
  | 0, _ => h
  | k + 1, hg => by
    have ih := upV_ok h k (fun j hj => hg j (by omega))
    have o := ih.2.2.2.1 (g k) (by rw [upV_N]; exact hg k (by omega))
    exact OkV.R ih ⟨o.1, o.2.1, o.2.2.1, o.2.2.2.1, o.2.2.2.2.1, o.2.2.2.2.2.1, by show wi (3 : Int32) 0 3; unfold wi; decide, fun z => absurd z (by show ¬ (3 : Int32) = 1; decide)⟩
def lf (V : TV) (g : Nat → Nat) (a : Int32) : Nat → Int32
  | 0 => a
  | k + 1 => lf V g a k - wt V (g k)
theorem lp_wheel : LP_wheel Inv := by
  intro im hI a1
  obtain ⟨⟨V, v1, v2, v3⟩, -⟩ := id hI
  have h10 := v3.1
  have ok := v3.l
  have hcN : cn (pF V) (vN V) ≤ vN V := cn_le
  by_cases hw : wi a1 1 999
  · obtain ⟨g, m, e, ⟨o, q, -⟩, hR⟩ := lines v1 v2 ok
    generalize hn : cn (pF V) (vN V) = n at *
    have hg : ∀ k, k < n → g k < vN V := fun k hk => (q k hk).2.1
    have key1 : ∃ c : Nat × IM, f_X6_wheel_l1 a1 xF (nI n) a1 0 m = some (nI c.1, c.2) ∧ ((∀ a, ¬ (1 ≤ a ∧ a < 1 + 15) → c.2 a = m a) ∧ RC c.2 1 (upV V g c.1) ∧ c.1 ≤ n ∧ (∀ j, j < c.1 → ¬ lf V g a1 j < wt V (g j)) ∧ (c.1 < n → lf V g a1 c.1 < wt V (g c.1))) := by
      refine loopG (fun f (s : Int32 × IM) i => f_X6_wheel_l1 a1 f (nI n) s.1 i s.2) (fun c : Nat × IM => some (nI c.1, c.2)) 0 0 rfl n (by omega) (by omega) (fun i s => s.1 = lf V g a1 i ∧ (∀ a, ¬ (1 ≤ a ∧ a < 1 + 15) → s.2 a = m a) ∧ RC s.2 1 (upV V g i) ∧ ∀ j, j < i → ¬ lf V g a1 j < wt V (g j)) _ (fun f s hP => ⟨(n, s.2), ?_, hP.2.1, hP.2.2.1, Nat.le_refl _, hP.2.2.2, fun z => absurd z (Nat.lt_irrefl _)⟩) (fun f s i hi0 hi hP => ?_) (a1, m) ⟨rfl, fun _ _ => rfl, v1.cg (fun a h1 h2 => o a (by omega)) h10, fun j hj => absurd hj (Nat.not_lt_zero _)⟩
      · show f_X6_wheel_l1b a1 _ (nI n) s.1 (nI n) s.2 = some (nI n, s.2)
        unfold f_X6_wheel_l1b f_X6_wheel_j2
        rw [if_pos (Int32.le_refl _)]
      · obtain ⟨p1, p2, p3, p4⟩ := hP
        have e65 : s.2 65 i = nI (g i) := by rw [p2 65 (by omega)]; exact (q i hi).1
        have ib := inb_nI (show i < 10 by omega) (show 10 < 2 ^ 31 by decide)
        have gb := inb_nI (show g i < 10 by have := hg i hi; omega) (show 10 < 2 ^ 31 by decide)
        have gN : g i < vN (upV V g i) := by rw [upV_N]; exact hg i hi
        have ewt : f_X4_wheelTime (6 + g i) s.2 = wt V (g i) := by
          unfold f_X4_wheelTime wt
          rw [show s.2 (6 + g i) 1 = vT (upV V g i) (g i) 1 from p3.2.2.1 (g i) gN 1 (by decide), upV_1]
        have e0 : f_X6_wheel_l1 a1 (f + 1) (nI n) s.1 (nI i) s.2 = if lf V g a1 i < wt V (g i) then some (nI i, s.2) else f_X6_wheel_l1 a1 f (nI n) (lf V g a1 (i + 1)) (nI (i + 1)) (up s.2 (6 + g i) 6 3) := by
          show f_X6_wheel_l1b a1 _ (nI n) s.1 (nI i) s.2 = _
          unfold f_X6_wheel_l1b f_X6_wheel_j2
          simp only [bnd_eq]
          rw [if_neg (nI_ge hi (by omega)), if_pos ib, ix_nI (show i < 2 ^ 31 by omega), e65]
          simp only [if_pos ib, if_pos gb, ix_nI (show g i < 2 ^ 31 by have := hg i hi; omega)]
          rw [ewt, nI_1, p1]
          rfl
        by_cases c : lf V g a1 i < wt V (g i)
        · rw [if_pos c] at e0
          exact Or.inl ⟨(i, s.2), e0, p2, p3, by show i ≤ n; omega, p4, fun _ => c⟩
        · rw [if_neg c] at e0
          have hgi := hg i hi
          refine Or.inr ⟨(lf V g a1 (i + 1), up s.2 (6 + g i) 6 3), e0, rfl, fun a ha => (up_row (show a ≠ 6 + g i by omega)).trans (p2 a ha), ?_, fun j hj => ?_⟩
          · refine RC_row p3 (by rw [upV_N]; exact h10) _ (fun w hw => ?_) (fun a h1 h2 h3 => up_row (by omega))
            show up s.2 (6 + g i) 6 3 (6 + g i) w = _
            by_cases e6 : w = 6
            · subst e6; rw [up_same, pl_same]
            · rw [up_ne e6, pl_ne e6]; exact p3.2.2.1 (g i) gN w hw
          · by_cases e : j = i
            · subst e; exact c
            · exact p4 j (by omega)
    obtain ⟨⟨k, m1⟩, e1, o1, r1, k1, k2, k3⟩ := key1
    have e1 : f_X6_wheel_l1 a1 xF (nI n) a1 0 m = some (nI k, m1) := e1
    have o1 : ∀ a, ¬ (1 ≤ a ∧ a < 1 + 15) → m1 a = m a := o1
    have r1 : RC m1 1 (upV V g k) := r1
    have k1 : k ≤ n := k1
    obtain ⟨m2, e2, r2, f1, f2⟩ := hR m1 (by rw [o1 83 (by omega), o 83 (by decide)])
    have v2m : RR m2 83 V := v2.cg (by rw [r2.1 83 (by decide) (by decide), o1 83 (by omega), o 83 (by decide)])
    have key2 : ∃ c : Nat × IM, f_X7_wheel_l1 a1 xF a1 0 m2 = some (nI c.1, c.2) ∧ ((∀ a, a ≠ 83 → c.2 a = m2 a) ∧ RR c.2 83 (upV V g c.1) ∧ c.1 ≤ n ∧ (∀ j, j < c.1 → ¬ lf V g a1 j < wt V (g j)) ∧ (c.1 < n → lf V g a1 c.1 < wt V (g c.1))) := by
      refine loopG (fun f (s : Int32 × IM) i => f_X7_wheel_l1 a1 f s.1 i s.2) (fun c : Nat × IM => some (nI c.1, c.2)) 0 0 rfl n (by omega) (by omega) (fun i s => s.1 = lf V g a1 i ∧ (∀ a, a ≠ 83 → s.2 a = m2 a) ∧ RR s.2 83 (upV V g i) ∧ ∀ j, j < i → ¬ lf V g a1 j < wt V (g j)) _ (fun f s hP => ⟨(n, s.2), ?_, hP.2.1, hP.2.2.1, Nat.le_refl _, hP.2.2.2, fun z => absurd z (Nat.lt_irrefl _)⟩) (fun f s i hi0 hi hP => ?_) (a1, m2) ⟨rfl, fun _ _ => rfl, v2m, fun j hj => absurd hj (Nat.not_lt_zero _)⟩
      · show f_X7_wheel_l1b a1 _ s.1 (nI n) s.2 = some (nI n, s.2)
        unfold f_X7_wheel_l1b f_X7_wheel_j2
        rw [hP.2.1 82 (by decide), f1, if_pos (Int32.le_refl _)]
      · obtain ⟨p1, p2, p3, p4⟩ := hP
        have e88 : s.2 88 i = nI (g i) := by rw [p2 88 (by decide)]; exact f2 i hi
        have ib := inb_nI (show i < 10 by omega) (show 10 < 2 ^ 31 by decide)
        have hgi := hg i hi
        have gN : g i < vN (upV V g i) := by rw [upV_N]; exact hg i hi
        have ewt : f_X7_minutesUp (nI (g i)) s.2 = some (wt V (g i)) := by
          rw [mup_r p3 (by rw [upV_N]; exact h10) gN]
          unfold wt
          rw [upV_1]
        have e0 : f_X7_wheel_l1 a1 (f + 1) s.1 (nI i) s.2 = if lf V g a1 i < wt V (g i) then some (nI i, s.2) else f_X7_wheel_l1 a1 f (lf V g a1 (i + 1)) (nI (i + 1)) (up s.2 83 (67 + 9 * g i + 6) 3) := by
          show f_X7_wheel_l1b a1 _ s.1 (nI i) s.2 = _
          unfold f_X7_wheel_l1b f_X7_wheel_j2
          rw [p2 82 (by decide), f1, if_neg (nI_ge hi (by omega)), if_pos ib, ix_nI (show i < 2 ^ 31 by omega), e88, ewt, Option.bind_some, if_pos ib, Option.bind_some, bnd_eq, if_pos ib, if_pos (at_in (w := 6) 6 rfl (by omega) (by decide)), at_ix (w := 6) 6 rfl (by omega) (by decide), bnd_eq, bnd_eq, nI_1, p1]
          rfl
        by_cases c : lf V g a1 i < wt V (g i)
        · rw [if_pos c] at e0
          exact Or.inl ⟨(i, s.2), e0, p2, p3, by show i ≤ n; omega, p4, fun _ => c⟩
        · rw [if_neg c] at e0
          refine Or.inr ⟨(lf V g a1 (i + 1), up s.2 83 (67 + 9 * g i + 6) 3), e0, rfl, fun a ha => (up_row ha).trans (p2 a ha), ?_, fun j hj => ?_⟩
          · refine RR_row (im' := up s.2 83 (67 + 9 * g i + 6) 3) (t := g i) p3 (by rw [upV_N]; exact h10) (by omega) _ (fun w hw => ?_) (fun k hk => up_ne (by omega))
            show up s.2 83 (67 + 9 * g i + 6) 3 83 (67 + 9 * g i + w) = _
            by_cases e6 : w = 6
            · subst e6; rw [up_same, pl_same]
            · rw [up_ne (by omega), pl_ne e6]; exact p3.2.2.1 (g i) gN w hw
          · by_cases e : j = i
            · subst e; exact c
            · exact p4 j (by omega)
    obtain ⟨⟨l, m3⟩, e3, o3, r3, l1, l2, l3⟩ := key2
    have e3 : f_X7_wheel_l1 a1 xF a1 0 m2 = some (nI l, m3) := e3
    have o3 : ∀ a, a ≠ 83 → m3 a = m2 a := o3
    have r3 : RR m3 83 (upV V g l) := r3
    have kl : k = l := first_u (P := fun j => lf V g a1 j < wt V (g j)) k1 l1 k2 l2 k3 l3
    refine ⟨nI k, m1, m3, ?_, ?_, ?_⟩
    · unfold f_X6_wheel
      rw [within_1 hw, if_neg i10, e, Option.bind_some]
      exact e1
    · unfold f_X7_wheel
      rw [in_1_999, within_1 hw, if_neg i10, e2, Option.bind_some, e3, kl]
    · have i0 : Inv (fun a => if a = 65 ∨ a = 82 ∨ a = 88 then im a else m3 a) := by
        have f65 : ∀ a, ¬ (a = 65 ∨ a = 82 ∨ a = 88) → (fun a => if a = 65 ∨ a = 82 ∨ a = 88 then im a else m3 a) a = m3 a := fun a ha => if_neg ha
        refine hI.town (fun a h1 h2 => ?_) ⟨upV V g k, r1.cg (fun a h1 h2 => ?_) (by rw [upV_N]; exact h10), ?_, upV_ok v3 k (fun j hj => hg j (by omega))⟩
        · show (if a = 65 ∨ a = 82 ∨ a = 88 then im a else m3 a) = im a
          by_cases c : a = 65 ∨ a = 82 ∨ a = 88
          · rw [if_pos c]
          · rw [if_neg c, o3 a h2, r2.1 a (by omega) (by omega), o1 a (by omega), o a (by omega)]
        · show (if a = 65 ∨ a = 82 ∨ a = 88 then im a else m3 a) = m1 a
          rw [if_neg (by omega), o3 a (by omega), r2.1 a (by omega) (by omega)]
        · rw [kl]
          exact r3.cg (f65 83 (by omega))
      refine i0.agr ⟨fun a h1 h2 h3 h4 => ?_, ?_, ?_, ?_, ?_⟩
      · show m3 a = if a = 65 ∨ a = 82 ∨ a = 88 then im a else m3 a
        rw [if_neg (by unfold scr at h1; omega)]
      · rfl
      · rfl
      · show m3 82 4 = im 82 4
        rw [o3 82 (by decide), r2.2 4 (by decide), o1 82 (by omega), o 82 (by decide)]
      · show m3 82 16 = im 82 16
        rw [o3 82 (by decide), r2.2 16 (by decide), o1 82 (by omega), o 82 (by decide)]
  · refine bref1 hI ?_ (fun m hm => ?_)
    · unfold f_X6_wheel
      rw [within_0 hw, if_pos rfl, refuse_1, Option.bind_some]
    · unfold f_X7_wheel
      rw [in_1_999, within_0 hw, if_pos rfl, finds_1, Option.bind_some]
