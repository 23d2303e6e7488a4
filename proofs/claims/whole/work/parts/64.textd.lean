/-! a text, as a value -/
noncomputable def pT (X : TK) : Nat → Nat → Nat → TV → Nat × Option (Nat × TV)
  | 0, _, j, _ => (j, none)
  | d + 1, n, j, V =>
    match (pItem X j V).2 with
    | none => ((pItem X j V).1, none)
    | some V' => if (pItem X j V).1 = kJ X then ((pItem X j V).1, some (n, V')) else if gB X (pItem X j V).1 59 = true then pT X d (n + 1) (go X (pItem X j V).1) V' else ((pItem X j V).1, none)
theorem pT_none {X : TK} {d n j : Nat} {V : TV} (h : (pItem X j V).2 = none) : pT X (d + 1) n j V = ((pItem X j V).1, none) := by
  show (match (pItem X j V).2 with | none => ((pItem X j V).1, none) | some V' => if (pItem X j V).1 = kJ X then ((pItem X j V).1, some (n, V')) else if gB X (pItem X j V).1 59 = true then pT X d (n + 1) (go X (pItem X j V).1) V' else ((pItem X j V).1, none)) = _
  rw [h]
theorem pT_some {X : TK} {d n j : Nat} {V V' : TV} (h : (pItem X j V).2 = some V') : pT X (d + 1) n j V = if (pItem X j V).1 = kJ X then ((pItem X j V).1, some (n, V')) else if gB X (pItem X j V).1 59 = true then pT X d (n + 1) (go X (pItem X j V).1) V' else ((pItem X j V).1, none) := by
  show (match (pItem X j V).2 with | none => ((pItem X j V).1, none) | some V' => if (pItem X j V).1 = kJ X then ((pItem X j V).1, some (n, V')) else if gB X (pItem X j V).1 59 = true then pT X d (n + 1) (go X (pItem X j V).1) V' else ((pItem X j V).1, none)) = _
  rw [h]
theorem cst_68 {m : IM} {X : TK} {j : Nat} (hX : tks X) (h : cst m X j) : m 68 j = nI (kb X j) := by
  obtain ⟨h1, h2, h3, h4, h5, h6, h7⟩ := h
  by_cases c : j < kJ X
  · exact (h4 j c).1
  · have e : j = kJ X := by omega
    rw [e, hX.2.2.2.2.2.1]; exact h5
theorem cst_70 {m : IM} {X : TK} {j : Nat} (h : cst m X j) : m 70 j = 0 ↔ j = kJ X := by
  obtain ⟨h1, h2, h3, h4, h5, h6, h7⟩ := h
  constructor
  · intro z
    by_cases c : j < kJ X
    · rw [(h4 j c).2.2.1] at z
      have := ty_lt (kB X (kb X j))
      rw [nI_eq_lit (n := 0) 0 (by decide) (by omega)] at z
      omega
    · omega
  · rintro rfl
    exact h6
theorem rdt_c {X : TK} (hX : tks X) : ∀ (d f n j : Nat) (V : TV) (m : IM), kJ X - j < d → d ≤ f → 1 ≤ n → 2 * n ≤ j + 2 → cst m X j → RC m 31 V → OkV V → ∃ c : Int32 × IM, f_X1_readText_l1 31 f (nI n) m = some c ∧ (lfr m c.2 ∧ ((∃ n' V', (pT X d n j V).2 = some (n', V') ∧ c.1 = nI n' ∧ 1 ≤ n' ∧ n' ≤ 61 ∧ RC c.2 31 V' ∧ OkV V') ∨ ((pT X d n j V).2 = none ∧ c.1 = -1 - nI (kb X (pT X d n j V).1) ∧ (pT X d n j V).1 ≤ kJ X)))
  | 0, f, n, j, V, m, hd, _, _, _, _, _, _ => absurd hd (Nat.not_lt_zero _)
  | d + 1, f, n, j, V, m, hd, hf, hn, hnj, h, v, ok => by
    have q1 := hX.1
    have q2 := hX.2.1
    have hj := h.1
    obtain ⟨g, rfl⟩ : ∃ g, f = g + 1 := ⟨f - 1, by omega⟩
    obtain ⟨⟨x, m1⟩, e1, h1, l1, hr⟩ := item_c hX h v ok.1
    have h1 : cst m1 X (pItem X j V).1 := h1
    have l1 : lfr m m1 := l1
    have e7 := h1.2.1
    have j1 := h1.1
    have ib := inb_nI (show (pItem X j V).1 < 121 by omega) (show 121 < 2 ^ 31 by decide)
    have ij : ix (nI (pItem X j V).1) = (pItem X j V).1 := ix_nI (by omega)
    have n120 : ¬ (120 : Int32) < nI n := by rw [nI_gt_lit (n := 120) 120 (by decide) (by omega)]; omega
    have eh : f_X1_readText_l1 31 (g + 1) (nI n) m = if x = 0 then some (-1 - m1 68 (pItem X j V).1, m1) else if m1 70 (pItem X j V).1 = 0 then some (nI n, m1) else (f_X1_takeSign (nI 59) m1).bind fun r4 => if r4.1 = 0 then (if inb (r4.2 66 7) 121 = true then some (-1 - r4.2 68 (ix (r4.2 66 7)), r4.2) else none) else bnd (nI n + 1) fun v5 => f_X1_readText_l1 31 g v5 r4.2 := by
      show f_X1_readText_l1b 31 _ (nI n) m = _
      unfold f_X1_readText_l1b
      rw [if_neg n120, e1, Option.bind_some]
      show (if x = 0 then (if inb (m1 66 7) 121 = true then some (-1 - m1 68 (ix (m1 66 7)), m1) else none) else if inb (m1 66 7) 121 = true then if m1 70 (ix (m1 66 7)) = 0 then some (nI n, m1) else _ else none) = _
      rw [e7, if_pos ib, if_pos ib, ij]
      rfl
    rw [eh]
    rcases hr with ⟨V', p, hx, r'⟩ | ⟨p, hx⟩
    · have hx : x = 1 := hx
      have r' : RC m1 31 V' := r'
      obtain ⟨ok', jl⟩ := pItem_s hX ok p
      rw [hx, if_neg i10, pT_some p]
      by_cases c1 : (pItem X j V).1 = kJ X
      · rw [if_pos ((cst_70 h1).mpr c1), if_pos c1]
        exact ⟨(nI n, m1), rfl, l1, Or.inl ⟨n, V', rfl, rfl, hn, by omega, r', ok'⟩⟩
      · rw [if_neg (fun z => c1 ((cst_70 h1).mp z)), if_neg c1, takeSign_c hX h1 (Or.inl rfl)]
        by_cases c2 : gB X (pItem X j V).1 59 = true
        · rw [if_pos c2, if_pos c2, Option.bind_some]
          have jJ := (gB_iff.mp c2).1
          have eg := go_lt jJ
          have w2 : lfr m1 (up m1 66 7 (nI (go X (pItem X j V).1))) := lfr_66 (by omega)
          obtain ⟨c, ec, lc, hc⟩ := rdt_c hX d g (n + 1) (go X (pItem X j V).1) V' (up m1 66 7 (nI (go X (pItem X j V).1))) (by omega) (by omega) (by omega) (by omega) (go_c h1) (r'.cg (fun a g1 g2 => up_row (by omega)) ok'.1) ok'
          refine ⟨c, ?_, lfr_trans l1 (lfr_trans w2 lc), hc⟩
          show (if (1 : Int32) = 0 then _ else bnd (nI n + 1) fun v5 => f_X1_readText_l1 31 g v5 (up m1 66 7 (nI (go X (pItem X j V).1)))) = _
          rw [if_neg i10, bnd_eq, nI_1, ec]
        · rw [if_neg c2, if_neg c2, Option.bind_some]
          refine ⟨(-1 - nI (kb X (pItem X j V).1), m1), ?_, l1, Or.inr ⟨rfl, rfl, j1⟩⟩
          show (if (0 : Int32) = 0 then (if inb (m1 66 7) 121 = true then some (-1 - m1 68 (ix (m1 66 7)), m1) else none) else _) = _
          rw [if_pos rfl, e7, if_pos ib, ij, cst_68 hX h1]
    · have hx : x = 0 := hx
      rw [hx, if_pos rfl, pT_none p, cst_68 hX h1]
      exact ⟨(-1 - nI (kb X (pItem X j V).1), m1), rfl, l1, Or.inr ⟨rfl, rfl, j1⟩⟩
theorem neg_k : ∀ k, k < 121 → (-1 - nI k : Int32) ≤ 0 := by decide +kernel
theorem text_c {im : IM} {V : TV} {q : Nat} (v : RC im 1 V) (ok : OkV V) (hq : q ≤ 120) (eq : im 66 1 = nI q) (hb : ∀ k, k < q → wi (im 67 k) 0 255) : ∃ (X : TK) (x : Int32) (m1 : IM), tks X ∧ kq X = q ∧ (∀ k, k < q → im 67 k = nI (kB X k)) ∧ f_X6_text im = some (x, m1) ∧ m1 66 1 = 0 ∧ (∀ a, ¬ (1 ≤ a ∧ a < 16) → ¬ (31 ≤ a ∧ a < 46) → a ≠ 66 → ¬ (68 ≤ a ∧ a ≤ 71) → m1 a = im a) ∧ ((∃ n' V', (pT X (kJ X + 1) 1 0 V).2 = some (n', V') ∧ x = nI n' ∧ RC m1 1 V' ∧ OkV V') ∨ ((pT X (kJ X + 1) 1 0 V).2 = none ∧ x = -1 - nI (kb X (pT X (kJ X + 1) 1 0 V).1) ∧ RC m1 1 V)) := by
  obtain ⟨mb, eb, rb, ob⟩ := become_c (im := im) (T := 31) (S := 1) (by omega) v ok.1
  let B : Nat → Nat := fun k => if k < q then ix (im 67 k) else 0
  have hB : ∀ k, k < q → im 67 k = nI (B k) ∧ B k < 256 := by
    intro k hk
    obtain ⟨c, hc, e⟩ := rng_of (n := 255) 255 (by decide) (hb k hk).1 (hb k hk).2
    have : B k = c := by
      show (if k < q then ix (im 67 k) else 0) = c
      rw [if_pos hk, e, ix_nI (by omega)]
    rw [this]
    exact ⟨e, by omega⟩
  have B256 : ∀ k, B k < 256 := by
    intro k
    by_cases c : k < q
    · exact (hB k c).2
    · show (if k < q then ix (im 67 k) else 0) < 256
      rw [if_neg c]; omega
  obtain ⟨⟨J, tb, te, m2⟩, e2, s1, s2, s3, s4, s5, s6, s7, s8, s9⟩ := split_c (im := mb) (B := B) (q := q) ⟨hq, B256, fun k hk => by rw [ob 67 (by omega)]; exact (hB k hk).1⟩ (by rw [ob 66 (by omega)]; exact eq)
  have e2 : f_X1_splitTape mb = some m2 := e2
  have s1 : J ≤ q := s1
  have s2 : m2 66 6 = nI (J + 1) := s2
  have s3 : sfr mb m2 := s3
  have s4 : ∀ j, j < J → arr m2 B tb te j ∧ tb j < q := s4
  have s5 : ∀ j, j ≤ J → tok B q (pe te j) (tb j) (te j) := s5
  have s6 : tb J = q := s6
  have s7 : te J = q := s7
  have s8 : m2 68 J = nI q := s8
  have s9 : m2 70 J = 0 := s9
  have hX : tks (B, q, J, tb, te) := ⟨hq, s1, B256, fun j hj => (s4 j hj).2, s5, s6, s7⟩
  have c0 : cst (up m2 66 7 0) (B, q, J, tb, te) 0 := by
    refine ⟨Nat.zero_le _, up_same, by rw [up_ne (by decide)]; exact s2, fun i hi => ?_, by rw [up_row (by decide)]; exact s8, by rw [up_row (by decide)]; exact s9, fun k hk => ?_⟩
    · have := (s4 i hi).1
      unfold arr at this ⊢
      rw [up_row (by decide), up_row (by decide), up_row (by decide), up_row (by decide)]
      exact this
    · rw [up_row (by decide), s3.1 67 (by decide) (by omega), ob 67 (by omega)]
      exact (hB k hk).1
  have r2 : RC (up m2 66 7 0) 31 V := rb.cg (fun a h1 h2 => by rw [up_row (by omega), s3.1 a (by omega) (by omega)]) ok.1
  obtain ⟨⟨x, m3⟩, e3, l3, h3⟩ := rdt_c hX (J + 1) xF 1 0 V (up m2 66 7 0) (by show J - 0 < J + 1; omega) (by unfold xF; omega) (by omega) (by omega) c0 r2 ok
  have e3 : f_X1_readText_l1 31 xF 1 (up m2 66 7 0) = some (x, m3) := e3
  have l3 : lfr (up m2 66 7 0) m3 := l3
  have eT : f_X1_readText 31 mb = some (x, m3) := by
    unfold f_X1_readText
    rw [e2, Option.bind_some, bnd_eq, e3]
  have o3 : ∀ a, ¬ (31 ≤ a ∧ a < 46) → a ≠ 66 → ¬ (68 ≤ a ∧ a ≤ 71) → m3 a = im a := fun a h1 h2 h3 => by
    rw [l3.1 a h2 h1, up_row h2, s3.1 a h2 h3, ob a (by omega)]
  have eC : f_X6_text im = if x ≤ 0 then f_X6_text_j1 x m3 else (f_X5_become 1 31 m3).bind fun r4 => f_X6_text_j1 x r4 := by
    unfold f_X6_text
    rw [eb, Option.bind_some, eT, Option.bind_some]
  rcases h3 with ⟨n', V', p, hx, n1, n2, r', ok'⟩ | ⟨p, hx, pj⟩
  · have hx : x = nI n' := hx
    have r' : RC m3 31 V' := r'
    obtain ⟨m4, e4, r4, o4⟩ := become_c (im := m3) (T := 1) (S := 31) (by omega) r' ok'.1
    refine ⟨(B, q, J, tb, te), x, up m4 66 1 0, hX, rfl, fun k hk => (hB k hk).1, ?_, up_same, fun a h1 h2 h3 h4 => ?_, Or.inl ⟨n', V', p, hx, r4.cg (fun a g1 g2 => up_row (by omega)) ok'.1, ok'⟩⟩
    · rw [eC, if_neg (by rw [hx]; exact nI_nle (by omega) (by omega)), e4, Option.bind_some]
      rfl
    · rw [up_row h3, o4 a (by omega)]; exact o3 a h2 h3 h4
  · have hx : x = -1 - nI (kb (B, q, J, tb, te) (pT (B, q, J, tb, te) (J + 1) 1 0 V).1) := hx
    refine ⟨(B, q, J, tb, te), x, up m3 66 1 0, hX, rfl, fun k hk => (hB k hk).1, ?_, up_same, fun a h1 h2 h3 h4 => ?_, Or.inr ⟨p, hx, v.cg (fun a g1 g2 => ?_) ok.1⟩⟩
    · have kb120 : kb (B, q, J, tb, te) (pT (B, q, J, tb, te) (J + 1) 1 0 V).1 < 121 := by
        have pj : (pT (B, q, J, tb, te) (J + 1) 1 0 V).1 ≤ J := pj
        rcases Nat.lt_or_ge (pT (B, q, J, tb, te) (J + 1) 1 0 V).1 J with z | z
        · have := (s4 _ z).2
          show tb _ < 121
          omega
        · have z2 : (pT (B, q, J, tb, te) (J + 1) 1 0 V).1 = J := by omega
          show tb _ < 121
          rw [z2, s6]
          omega
      rw [eC, if_pos (by rw [hx]; exact neg_k _ kb120)]
      rfl
    · rw [up_row h3]; exact o3 a h2 h3 h4
    · rw [up_row (by omega)]; exact o3 a (by omega) (by omega) (by omega)
