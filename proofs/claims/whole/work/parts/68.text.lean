theorem gHere_r {m : IM} {X : TK} {j : Nat} (hX : tks X) (h : rst m X j) : f_X7_groundHere m = some (if gIx X j < 5 then nI (gIx X j) else -1) := by
  obtain ⟨w, ew, hw⟩ := word_r hX h
  have w7 := lK 7 w 20594117 rfl (hw 7 (by omega))
  have w8 := lK 8 w 624068 rfl (hw 8 (by omega))
  have w9 := lK 9 w 20596791 rfl (hw 9 (by omega))
  have w10 := lK 10 w 71108 rfl (hw 10 (by omega))
  have w11 := lK 11 w 231045 rfl (hw 11 (by omega))
  unfold f_X7_groundHere gIx
  rw [ew, Option.bind_some]
  by_cases c0 : wB X 7 j = true
  · rw [if_pos (w7.mpr c0), if_pos c0]; rfl
  · rw [if_neg (fun z => c0 (w7.mp z)), if_neg c0]
    by_cases c1 : wB X 8 j = true
    · rw [if_pos (w8.mpr c1), if_pos c1]; rfl
    · rw [if_neg (fun z => c1 (w8.mp z)), if_neg c1]
      by_cases c2 : wB X 9 j = true
      · rw [if_pos (w9.mpr c2), if_pos c2]; rfl
      · rw [if_neg (fun z => c2 (w9.mp z)), if_neg c2]
        by_cases c3 : wB X 10 j = true
        · rw [if_pos (w10.mpr c3), if_pos c3]; rfl
        · rw [if_neg (fun z => c3 (w10.mp z)), if_neg c3]
          by_cases c4 : wB X 11 j = true
          · rw [if_pos (w11.mpr c4), if_pos c4]; rfl
          · rw [if_neg (fun z => c4 (w11.mp z)), if_neg c4]; rfl
theorem kHere_r {m : IM} {X : TK} {j : Nat} (hX : tks X) (h : rst m X j) : f_X7_kindHere m = some (if kIx X j < 7 then nI (kIx X j) else -1) := by
  obtain ⟨w, ew, hw⟩ := word_r hX h
  have w12 := lK 12 w 21243335 rfl (hw 12 (by omega))
  have w13 := lK 13 w 109221477 rfl (hw 13 (by omega))
  have w14 := lK 14 w 150189 rfl (hw 14 (by omega))
  have w15 := lK 15 w 605291 rfl (hw 15 (by omega))
  have w16 := lK 16 w 66949 rfl (hw 16 (by omega))
  have w17 := lK 17 w 599495 rfl (hw 17 (by omega))
  have w18 := lK 18 w 2552 rfl (hw 18 (by omega))
  unfold f_X7_kindHere kIx
  rw [ew, Option.bind_some]
  by_cases c0 : wB X 12 j = true
  · rw [if_pos (w12.mpr c0), if_pos c0]; rfl
  · rw [if_neg (fun z => c0 (w12.mp z)), if_neg c0]
    by_cases c1 : wB X 13 j = true
    · rw [if_pos (w13.mpr c1), if_pos c1]; rfl
    · rw [if_neg (fun z => c1 (w13.mp z)), if_neg c1]
      by_cases c2 : wB X 14 j = true
      · rw [if_pos (w14.mpr c2), if_pos c2]; rfl
      · rw [if_neg (fun z => c2 (w14.mp z)), if_neg c2]
        by_cases c3 : wB X 15 j = true
        · rw [if_pos (w15.mpr c3), if_pos c3]; rfl
        · rw [if_neg (fun z => c3 (w15.mp z)), if_neg c3]
          by_cases c4 : wB X 16 j = true
          · rw [if_pos (w16.mpr c4), if_pos c4]; rfl
          · rw [if_neg (fun z => c4 (w16.mp z)), if_neg c4]
            by_cases c5 : wB X 17 j = true
            · rw [if_pos (w17.mpr c5), if_pos c5]; rfl
            · rw [if_neg (fun z => c5 (w17.mp z)), if_neg c5]
              by_cases c6 : wB X 18 j = true
              · rw [if_pos (w18.mpr c6), if_pos c6]; rfl
              · rw [if_neg (fun z => c6 (w18.mp z)), if_neg c6]; rfl
theorem item_r {m : IM} {X : TK} {j : Nat} {V : TV} (hX : tks X) (h : rst m X j) (v : RR m 83 V) (h10 : vN V ≤ 10) : ∃ m', f_X7_item m = some m' ∧ rdR m m' X (pItem X j V) := by
  obtain ⟨gi1, -, -⟩ := gIx_s (X := X) (j := j)
  obtain ⟨ki1, -, -⟩ := kIx_s (X := X) (j := j)
  unfold f_X7_item pItem
  rw [gHere_r hX h, Option.bind_some, kHere_r hX h, Option.bind_some]
  by_cases c1 : gIx X j < 5
  · rw [if_pos c1, if_neg (nI_pos (by omega)), if_pos c1]
    obtain ⟨m', e, hr⟩ := groundI_r (s := nI (gIx X j)) hX h v h10
    exact ⟨m', by rw [e, Option.bind_some], hr⟩
  · rw [if_neg c1, if_pos (by decide), if_neg c1]
    by_cases c2 : kIx X j < 7
    · rw [if_pos c2, if_neg (nI_pos (by omega)), if_pos c2]
      obtain ⟨m', e, hr⟩ := thingI_r (k := nI (kIx X j)) hX h v h10
      exact ⟨m', by rw [e, Option.bind_some], hr⟩
    · rw [if_neg c2, if_pos (by decide), if_neg c2]
      obtain ⟨w, ew, hw⟩ := word_r hX h
      have w0 := lK 0 w 198028 rfl (hw 0 (by omega))
      rw [ew, Option.bind_some]
      by_cases c3 : wB X 0 j = true
      · rw [if_pos (w0.mpr c3), if_pos c3]
        obtain ⟨m', e, hr⟩ := fallI_r hX h v h10
        exact ⟨m', by rw [e, Option.bind_some], hr⟩
      · rw [if_neg (fun z => c3 (w0.mp z)), if_neg c3]
        obtain ⟨m', e, hr⟩ := shutI_r hX h v h10
        exact ⟨m', by rw [e, Option.bind_some], hr⟩
theorem item_w {m : IM} {X : TK} {j : Nat} (hX : tks X) (r : rwr m X j) : f_X7_item m = some m := by
  unfold f_X7_item f_X7_groundHere f_X7_kindHere f_X7_shutItem
  rw [word_w hX r, Option.bind_some, if_neg (show ¬ lg_cmp 0 20594117 = 0 from w0_ne 7 (by omega)), if_neg (show ¬ lg_cmp 0 624068 = 0 from w0_ne 8 (by omega)), if_neg (show ¬ lg_cmp 0 20596791 = 0 from w0_ne 9 (by omega)), if_neg (show ¬ lg_cmp 0 71108 = 0 from w0_ne 10 (by omega)), if_neg (show ¬ lg_cmp 0 231045 = 0 from w0_ne 11 (by omega)), Option.bind_some, Option.bind_some, if_neg (show ¬ lg_cmp 0 21243335 = 0 from w0_ne 12 (by omega)), if_neg (show ¬ lg_cmp 0 109221477 = 0 from w0_ne 13 (by omega)), if_neg (show ¬ lg_cmp 0 150189 = 0 from w0_ne 14 (by omega)), if_neg (show ¬ lg_cmp 0 605291 = 0 from w0_ne 15 (by omega)), if_neg (show ¬ lg_cmp 0 66949 = 0 from w0_ne 16 (by omega)), if_neg (show ¬ lg_cmp 0 599495 = 0 from w0_ne 17 (by omega)), if_neg (show ¬ lg_cmp 0 2552 = 0 from w0_ne 18 (by omega)), Option.bind_some, if_pos (by decide), if_pos (by decide), Option.bind_some, if_neg (show ¬ lg_cmp 0 198028 = 0 from w0_ne 0 (by omega)), Option.bind_some, if_neg (show ¬ lg_cmp 0 631476 = 0 from w0_ne 1 (by omega)), shutW1_r hX r, Option.bind_some]
/-! a text of the reference -/
theorem rdt_r {X : TK} (hX : tks X) : ∀ (d f n j : Nat) (V : TV) (m : IM), kJ X - j < d → d < f → rst m X j → RR m 83 V → OkV V → ∃ (n' : Nat) (m' : IM), ((f_X7_item m).bind fun r5 => f_X7_text_l1 f (nI n) r5) = f_X7_text_j2 (nI n') m' ∧ (rfr m m' ∧ ((∃ V', (pT X d n j V).2 = some (n', V') ∧ m' 82 20 = 0 ∧ RR m' 83 V') ∨ ((pT X d n j V).2 = none ∧ rwr m' X (pT X d n j V).1)))
  | 0, f, n, j, V, m, hd, _, _, _, _ => absurd hd (Nat.not_lt_zero _)
  | d + 1, f, n, j, V, m, hd, hf, h, v, ok => by
    have q1 := hX.1
    obtain ⟨g, rfl⟩ : ∃ g, f = g + 1 := ⟨f - 1, by omega⟩
    obtain ⟨m1, e1, o1, hr⟩ := item_r hX h v ok.1
    rw [e1, Option.bind_some]
    have un : f_X7_text_l1 (g + 1) (nI n) m1 = f_X7_text_l1b (f_X7_text_l1 g) (nI n) m1 := rfl
    rw [un]
    unfold f_X7_text_l1b
    rcases hr with ⟨V', p, r1, v1⟩ | ⟨p, r1⟩
    · obtain ⟨ok', jl⟩ := pItem_s hX ok p
      have j1 := r1.1
      have hbe := kbe hX j1
      rw [pT_some p, if_pos r1.2.2.2.1, r1.2.2.2.2.1, r1.2.1]
      by_cases c1 : (pItem X j V).1 = kJ X
      · rw [if_pos (by rw [c1, hX.2.2.2.2.2.1]; exact Int32.le_refl _), if_pos c1]
        exact ⟨n, m1, rfl, o1, Or.inl ⟨V', rfl, r1.2.2.2.1, v1⟩⟩
      · have jJ : (pItem X j V).1 < kJ X := by omega
        have kq' := hX.2.2.2.1 _ jJ
        have b256 := hX.2.2.1 (kb X (pItem X j V).1)
        rw [if_neg (nI_ge kq' (by omega)), if_neg c1, byte_r hX r1.2.2.2.2.1 r1.2.2.2.2.2 (by omega), Option.bind_some, if_pos kq']
        have gi : (nI (kB X (kb X (pItem X j V).1)) = (59 : Int32)) ↔ gB X (pItem X j V).1 59 = true := by
          rw [gB_iff, nI_eq_lit (n := 59) 59 (by decide) (by omega)]
          exact ⟨fun y => ⟨jJ, y⟩, fun y => y.2⟩
        unfold f_X7_text_j3
        by_cases c2 : gB X (pItem X j V).1 59 = true
        · rw [if_pos (gi.mpr c2), if_pos c2]
          obtain ⟨m2, e2, r2, v2, -⟩ := needs_1 hX r1
          have eg := go_lt jJ
          obtain ⟨n', m', e3, o3, h3⟩ := rdt_r hX d g (n + 1) (go X (pItem X j V).1) V' m2 (by omega) (by omega) r2 (RR_c v1 (vfr_c v2)) ok'
          refine ⟨n', m', ?_, rfr_trans o1 (rfr_trans (cfr_r (vfr_c v2)) o3), h3⟩
          rw [e2, Option.bind_some, ← e3, nI_1]
          simp only [bnd_eq]
        · rw [if_neg (fun z => c2 (gi.mp z)), if_neg c2]
          obtain ⟨e0, w0⟩ := needs_0 r1
          obtain ⟨g', rfl⟩ : ∃ g', g = g' + 1 := ⟨g - 1, by omega⟩
          refine ⟨n + 1, up m1 82 20 1, ?_, rfr_trans o1 (cfr_r (cfr_82 (by omega))), Or.inr ⟨rfl, w0⟩⟩
          rw [e0, Option.bind_some, item_w hX w0, Option.bind_some, bnd_eq, nI_1]
          show f_X7_text_l1b _ (nI (n + 1)) (up m1 82 20 1) = _
          unfold f_X7_text_l1b
          rw [if_neg (by rw [w0.2.2.2.1]; decide)]
    · rw [pT_none p, if_neg (by rw [r1.2.2.2.1]; decide)]
      exact ⟨n, m1, rfl, o1, Or.inr ⟨rfl, r1⟩⟩
theorem text_r {x : IM} {X : TK} {V : TV} (hX : tks X) (h16 : x 82 16 = nI (kq X)) (hB : ∀ k, k < kq X → x 89 k = nI (kB X k)) (v : RR x 83 V) (ok : OkV V) : ∃ (r : Int32) (m2 : IM), f_X7_text x = some (r, m2) ∧ m2 82 16 = 0 ∧ (∀ a, a ≠ 82 → a ≠ 83 → a ≠ 85 → m2 a = x a) ∧ (∀ k, (k < 16 ∨ 22 < k) → m2 82 k = x 82 k) ∧ ((∃ n' V', (pT X (kJ X + 1) 1 0 V).2 = some (n', V') ∧ r = nI n' ∧ RR m2 83 V') ∨ ((pT X (kJ X + 1) 1 0 V).2 = none ∧ r = -1 - nI (kb X (pT X (kJ X + 1) 1 0 V).1) ∧ RR m2 83 V)) := by
  have q1 := hX.1
  have q2 := hX.2.1
  obtain ⟨x1, e1, c1⟩ := puts_r x
  have h0 : up (up x1 82 18 0) 82 20 0 82 16 = nI (kq X) := by rw [up_ne (by decide), up_ne (by decide), c1.1 82 (by decide)]; exact h16
  have hB0 : ∀ k, k < kq X → up (up x1 82 18 0) 82 20 0 89 k = nI (kB X k) := fun k hk => by rw [up_row (by decide), up_row (by decide), c1.1 89 (by decide)]; exact hB k hk
  obtain ⟨x2, e2, o1, o2, o3, o4⟩ := token_r (m := up (up x1 82 18 0) 82 20 0) (p := 0) hX h0 hB0 (by rw [up_ne (by decide), up_same]; rfl) (hX.2.2.2.2.1 0 (Nat.zero_le _))
  have r2 : rst x2 X 0 := ⟨Nat.zero_le _, o3, o4, by rw [o2 20 (by decide) (by decide), up_same], by rw [o2 16 (by decide) (by decide)]; exact h0, fun k hk => by rw [o1 89 (by decide)]; exact hB0 k hk⟩
  have a2 : ∀ a, a ≠ 82 → x2 a = x1 a := fun a ha => by rw [o1 a ha, up_row ha, up_row ha]
  have b2 : ∀ k, (k < 17 ∨ 22 < k) → x2 82 k = x1 82 k := fun k hk => by rw [o2 k (by omega) (by omega), up_ne (by omega), up_ne (by omega)]
  obtain ⟨n', x3, e3, f3, h3⟩ := rdt_r hX (kJ X + 1) xF 1 0 V x2 (by omega) (by unfold xF; omega) r2 (v.cg (by rw [a2 83 (by decide), c1.1 83 (by decide)])) ok
  have eR : f_X7_text x = f_X7_text_j2 (nI n') x3 := by
    unfold f_X7_text
    rw [e1, Option.bind_some, bnd_eq, bnd_eq, e2, Option.bind_some]
    exact e3
  have a3 : ∀ a, a ≠ 82 → a ≠ 83 → a ≠ 85 → x3 a = x a := fun a g1 g2 g3 => by rw [f3.1 a g1 g2, a2 a g1, c1.1 a g3]
  have b3 : ∀ k, (k < 16 ∨ 22 < k) → x3 82 k = x 82 k := fun k hk => by rw [f3.2 k (by omega), b2 k (by omega), c1.1 82 (by decide)]
  unfold f_X7_text_j2 at eR
  rw [bnd_eq] at eR
  rcases h3 with ⟨V', p, e20, v3⟩ | ⟨p, r3⟩
  · rw [up_ne (by decide), e20, if_pos rfl] at eR
    exact ⟨nI n', up x3 82 16 0, eR, up_same, fun a g1 g2 g3 => by rw [up_row g1]; exact a3 a g1 g2 g3, fun k hk => by rw [up_ne (by omega)]; exact b3 k hk, Or.inl ⟨n', V', p, rfl, v3.cg (up_row (by decide))⟩⟩
  · obtain ⟨x4, e4, c4⟩ := putsBack_r (up x3 82 16 0)
    rw [up_ne (by decide), if_neg (by rw [r3.2.2.2.1]; decide), e4, Option.bind_some] at eR
    refine ⟨_, x4, eR, by rw [c4.1 82 (by decide), up_same], fun a g1 g2 g3 => by rw [c4.1 a g2, up_row g1]; exact a3 a g1 g2 g3, fun k hk => by rw [c4.1 82 (by decide), up_ne (by omega)]; exact b3 k hk, Or.inr ⟨p, by rw [c4.1 82 (by decide), up_ne (by decide), r3.2.1], v.pt ok.1 (fun k hk => ?_)⟩⟩
    rw [c4.2 k hk, up_row (by decide), f3.1 85 (by decide) (by decide), a2 85 (by decide), c1.2 k hk]
theorem lp_text : LP_text Inv := by
  intro im hI
  obtain ⟨⟨V, v1, v2, v3⟩, hK, hS, ⟨q, p1, p2, p3, p4⟩, hH⟩ := id hI
  obtain ⟨X, x, m1, hX, kqe, hB, eC, t66, oC, hC⟩ := text_c v1 v3 p1 p2 (fun k hk => (p4 k hk).2)
  have o82 : m1 82 = im 82 := oC 82 (by omega) (by omega) (by decide) (by omega)
  have o83 : m1 83 = im 83 := oC 83 (by omega) (by omega) (by decide) (by omega)
  have o89 : m1 89 = im 89 := oC 89 (by omega) (by omega) (by decide) (by omega)
  obtain ⟨r, m2, eR, t16, oR, oR2, hR⟩ := text_r (x := m1) (V := V) hX (by rw [o82, kqe]; exact p3) (fun k hk => by rw [o89, ← (p4 k (by omega)).1]; exact hB k (by omega)) (v2.cg o83) v3
  have both : x = r ∧ ∃ V', RC m1 1 V' ∧ RR m2 83 V' ∧ OkV V' := by
    rcases hC with ⟨n', V', p, ex, rc, ok'⟩ | ⟨p, ex, rc⟩
    · rcases hR with ⟨n2, V2, q', er, rr⟩ | ⟨q', -⟩
      · rw [p, Option.some.injEq, Prod.mk.injEq] at q'
        obtain ⟨z1, z2⟩ := q'
        subst z1 z2
        exact ⟨by rw [ex, er], V', rc, rr, ok'⟩
      · rw [p] at q'
        exact absurd q' (by simp)
    · rcases hR with ⟨n2, V2, q', er, rr⟩ | ⟨q', er, rr⟩
      · rw [p] at q'
        exact absurd q' (by simp)
      · exact ⟨by rw [ex, er], V, rc, rr, v3⟩
  obtain ⟨exr, V', rc, rr, ok'⟩ := both
  have rows : ∀ a, ¬ (1 ≤ a ∧ a < 16) → ¬ (31 ≤ a ∧ a < 46) → a ≠ 66 → ¬ (68 ≤ a ∧ a ≤ 71) → a ≠ 82 → a ≠ 83 → a ≠ 85 → m2 a = im a := fun a h1 h2 h3 h4 h5 h6 h7 => by rw [oR a h5 h6 h7]; exact oC a h1 h2 h3 h4
  refine ⟨x, m1, m2, eC, by rw [exr]; exact eR, ⟨V', rc.cg (fun a h1 h2 => oR a (by omega) (by omega) (by omega)) ok'.1, rr, ok'⟩, ?_, fun k hk => ?_, ⟨0, by omega, by rw [oR 66 (by decide) (by decide) (by decide)]; exact t66, t16, fun k hk => absurd hk (Nat.not_lt_zero _)⟩, fun i hi => ?_⟩
  · rcases hK with ⟨k1, k2⟩ | ⟨k1, k2, W, w1, w2, w3⟩
    · exact Or.inl ⟨by rw [rows 0 (by omega) (by omega) (by decide) (by omega) (by decide) (by decide) (by decide)]; exact k1, by rw [oR2 4 (by decide), o82]; exact k2⟩
    · exact Or.inr ⟨by rw [rows 0 (by omega) (by omega) (by decide) (by omega) (by decide) (by decide) (by decide)]; exact k1, by rw [oR2 4 (by decide), o82]; exact k2, W, w1.cg (fun a h1 h2 => rows a (by omega) (by omega) (by omega) (by omega) (by omega) (by omega) (by omega)) w3.1, w2.cg (rows 84 (by omega) (by omega) (by decide) (by omega) (by decide) (by decide) (by decide)), w3⟩
  · rw [rows 73 (by omega) (by omega) (by decide) (by omega) (by decide) (by decide) (by decide), rows 86 (by omega) (by omega) (by decide) (by omega) (by decide) (by decide) (by decide)]
    exact hS k hk
  · rw [rows (74 + 2 * i) (by omega) (by omega) (by omega) (by omega) (by omega) (by omega) (by omega), rows (75 + 2 * i) (by omega) (by omega) (by omega) (by omega) (by omega) (by omega) (by omega), rows 90 (by omega) (by omega) (by decide) (by omega) (by decide) (by decide) (by decide), rows 91 (by omega) (by omega) (by decide) (by omega) (by decide) (by decide) (by decide), rows 92 (by omega) (by omega) (by decide) (by omega) (by decide) (by decide) (by decide)]
    exact hH i hi
