theorem fb_rng (x : Int32) : -2147483648 ≤ x.toInt ∧ x.toInt < 2147483648 := ⟨Int32.le_toInt x, Int32.toInt_lt x⟩
theorem fb_bmod {z : Int} (h1 : -2147483648 ≤ z) (h2 : z < 2147483648) : z.bmod (2 ^ 32) = z := Int.bmod_eq_of_le (by omega) (by omega)
theorem fb_addI {x y : Int32} (h1 : -2147483648 ≤ x.toInt + y.toInt) (h2 : x.toInt + y.toInt < 2147483648) : (x + y).toInt = x.toInt + y.toInt := by rw [Int32.toInt_add, fb_bmod h1 h2]
theorem fb_subI {x y : Int32} (h1 : -2147483648 ≤ x.toInt - y.toInt) (h2 : x.toInt - y.toInt < 2147483648) : (x - y).toInt = x.toInt - y.toInt := by rw [Int32.toInt_sub, fb_bmod h1 h2]
theorem fb_mulI {x y : Int32} (h1 : -2147483648 ≤ x.toInt * y.toInt) (h2 : x.toInt * y.toInt < 2147483648) : (x * y).toInt = x.toInt * y.toInt := by rw [Int32.toInt_mul, fb_bmod h1 h2]
theorem wiI {x a b : Int32} (h : wi x a b) : a.toInt ≤ x.toInt ∧ x.toInt ≤ b.toInt := ⟨Int32.le_iff_toInt_le.mp h.1, Int32.le_iff_toInt_le.mp h.2⟩
/-! feed -/
theorem byte_eq {a : Int32} {i : Nat} (hi : i < 4) : (jush a (8 * nI i)) &&& 255 = (jshr a (8 * nI i)) &&& 255 := by
  have e8 : (8 : Int32) * nI i = nI (8 * i) := by rw [show (8 : Int32) = nI 8 from rfl, pk_mul]
  rw [e8]
  refine b_ext (fun j hj => ?_)
  rw [b_and, b_and, b_255]
  by_cases h : j < 8
  · unfold jush jshr
    rw [b_ushr (8 * i) (by omega), b_sshr (8 * i) (by omega) a hj, if_pos (by omega)]
  · simp [h]
theorem byte_wi (x : Int32) : wi (x &&& 255) 0 255 := by
  obtain ⟨j, hj, e⟩ := pk_andE x (m := 255) 8 (by decide)
  rw [e]
  exact ⟨nI_pos' (by omega), (nI_le_lit (n := 255) 255 (by decide) (by omega)).mpr (by omega)⟩
def pB (a : Int32) (i : Nat) : Int32 := (jshr a (8 * nI i)) &&& 255
def fedC (im m : IM) (a : Int32) (q n i : Nat) : Prop := m 66 1 = nI (q + (n - i)) ∧ (∀ j, j < n - i → m 67 (q + j) = pB a (n - 1 - j)) ∧ (∀ k, k < q → m 67 k = im 67 k) ∧ ∀ r, r ≠ 66 → r ≠ 67 → m r = im r
def fedR (im m : IM) (a : Int32) (q n i : Nat) : Prop := m 82 16 = nI (q + (n - i)) ∧ (∀ j, j < n - i → m 89 (q + j) = pB a (n - 1 - j)) ∧ (∀ k, k < q → m 89 k = im 89 k) ∧ (∀ r, r ≠ 82 → r ≠ 89 → m r = im r) ∧ ∀ k, k ≠ 16 → m 82 k = im 82 k
theorem lp_feed : LP_feed Inv := by
  intro im hI a1 a2
  obtain ⟨-, -, -, ⟨q, p1, p2, p3, p4⟩, -⟩ := id hI
  by_cases h1 : wi a2 1 4
  · obtain ⟨n, hn, rfl⟩ := rng_of (n := 4) 4 (by decide) (Int32.le_trans (by decide) h1.1) h1.2
    have hn1 : 1 ≤ n := by
      have := h1.1
      rw [nI_ge_lit (n := 1) 1 (by decide) (by omega)] at this
      exact this
    have e120 : (120 : Int32) - nI n = nI (120 - n) := by rw [show (120 : Int32) = nI 120 from rfl, pk_sub (by omega)]
    have en : nI n - 1 = nI n + (-1) := by
      obtain ⟨k, rfl⟩ : ∃ k, n = k + 1 := ⟨n - 1, by omega⟩
      rw [nI_pred, pk_m1]
    by_cases h2 : q + n ≤ 120
    · have eC : ∃ c, f_X6_feed_l1 a1 (nI n) xF (nI n + (-1)) im = some c ∧ ∃ m : IM, c = (m 66 1, m) ∧ fedC im m a1 q n 0 := by
        refine loopD (fun f m x => f_X6_feed_l1 a1 (nI n) f (x + (-1)) m) some n (by omega) (fun i m => fedC im m a1 q n i) _ (fun f m hP => ⟨_, ?_, m, rfl, hP⟩) (fun f m i hi hP => Or.inr ?_) im ⟨by rw [Nat.sub_self]; exact p2, fun j hj => by omega, fun _ _ => rfl, fun _ _ _ => rfl⟩
        · show f_X6_feed_l1b a1 (nI n) _ (nI 0 + (-1)) m = _
          unfold f_X6_feed_l1b
          rw [if_pos (by decide)]
        · obtain ⟨q1, q2, q3, q4⟩ := hP
          refine ⟨up (up m 67 (q + (n - (i + 1))) ((jush a1 (8 * nI i)) &&& 255)) 66 1 (nI (q + (n - (i + 1)) + 1)), ?_, ?_, fun j hj => ?_, fun k hk => ?_, fun r h1 h2 => ?_⟩
          · show f_X6_feed_l1b a1 (nI n) _ (nI (i + 1) + (-1)) m = _
            unfold f_X6_feed_l1b f_X1_addByte
            rw [pk_m1, if_neg (nI_pos (by omega)), q1, if_neg (by rw [nI_ge_lit (n := 120) 120 (by decide) (by omega)]; omega), if_pos (inb_nI (show q + (n - (i + 1)) < 120 by omega) (by decide)), ix_nI (by omega)]
            simp only [bnd_eq, Option.bind_some]
            rw [up_row (show (66 : Nat) ≠ 67 by decide), q1, nI_1]
          · rw [up_same, show q + (n - (i + 1)) + 1 = q + (n - i) by omega]
          · rw [up_row (by decide)]
            by_cases e : j = n - (i + 1)
            · subst e
              rw [up_same, byte_eq (by omega), show n - 1 - (n - (i + 1)) = i by omega]
              rfl
            · rw [up_ne (by omega)]; exact q2 j (by omega)
          · rw [up_row (by decide), up_ne (by omega)]; exact q3 k hk
          · rw [up_row h1, up_row h2]; exact q4 r h1 h2
      obtain ⟨c, e1, m, rfl, mC⟩ := eC
      have m82 : m 82 = im 82 := mC.2.2.2 82 (by decide) (by decide)
      have eR : ∃ c, f_X7_feed_l1 a1 (nI n) xF (nI n + (-1)) m = some c ∧ ∃ m2 : IM, c = (m2 82 16, m2) ∧ fedR m m2 a1 q n 0 := by
        refine loopD (fun f m x => f_X7_feed_l1 a1 (nI n) f (x + (-1)) m) some n (by omega) (fun i m2 => fedR m m2 a1 q n i) _ (fun f m hP => ⟨_, ?_, m, rfl, hP⟩) (fun f m2 i hi hP => Or.inr ?_) m ⟨by rw [Nat.sub_self, m82]; exact p3, fun j hj => by omega, fun _ _ => rfl, fun _ _ _ => rfl, fun _ _ => rfl⟩
        · show f_X7_feed_l1b a1 (nI n) _ (nI 0 + (-1)) m = _
          unfold f_X7_feed_l1b
          rw [if_pos (by decide)]
        · obtain ⟨q1, q2, q3, q4, q5⟩ := hP
          refine ⟨up (up m2 89 (q + (n - (i + 1))) ((jshr a1 (8 * nI i)) &&& 255)) 82 16 (nI (q + (n - (i + 1)) + 1)), ?_, ?_, fun j hj => ?_, fun k hk => ?_, fun r h1 h2 => ?_, fun k hk => ?_⟩
          · show f_X7_feed_l1b a1 (nI n) _ (nI (i + 1) + (-1)) m2 = _
            unfold f_X7_feed_l1b
            rw [pk_m1, if_neg (nI_pos (by omega)), q1, if_pos (inb_nI (show q + (n - (i + 1)) < 120 by omega) (by decide)), ix_nI (by omega)]
            simp only [bnd_eq]
            rw [up_row (show (82 : Nat) ≠ 89 by decide), q1, nI_1]
          · rw [up_same, show q + (n - (i + 1)) + 1 = q + (n - i) by omega]
          · rw [up_row (by decide)]
            by_cases e : j = n - (i + 1)
            · subst e
              rw [up_same, show n - 1 - (n - (i + 1)) = i by omega]
              rfl
            · rw [up_ne (by omega)]; exact q2 j (by omega)
          · rw [up_row (by decide), up_ne (by omega)]; exact q3 k hk
          · rw [up_row h1, up_row h2]; exact q4 r h1 h2
          · rw [up_ne hk, up_row (by decide)]; exact q5 k hk
      obtain ⟨c, e2, m2, rfl, mR⟩ := eR
      obtain ⟨c1, c2, c3, c4⟩ := mC
      obtain ⟨r1, r2, r3, r4, r5⟩ := mR
      refine ⟨nI (q + (n - 0)), m, m2, ?_, ?_, ?_⟩
      · unfold f_X6_feed
        rw [within_1 h1, if_neg i10, p2, e120, if_pos (nI_le (show q ≤ 120 - n by omega) (by omega)), bnd_eq, en, e1, c1]
      · unfold f_X7_feed
        rw [in_1_4, within_1 h1, if_neg i10, m82, p3, nI_add, if_pos ((nI_le_lit (n := 120) 120 (by decide) (by omega)).mpr h2), bnd_eq, en, e2, r1]
      · refine hI.tape (fun a h1 h2 h3 h4 => by rw [r4 a h3 h4, c4 a h1 h2]) (by rw [r5 4 (by decide), m82]) ⟨q + n, by omega, ?_, ?_, fun k hk => ?_⟩
        · rw [r4 66 (by decide) (by decide), c1]; rfl
        · rw [r1]; rfl
        · rw [r4 67 (by decide) (by decide)]
          by_cases h : k < q
          · rw [c3 k h, r3 k h, c4 89 (by decide) (by decide)]
            exact p4 k h
          · obtain ⟨j, rfl⟩ : ∃ j, k = q + j := ⟨k - q, by omega⟩
            rw [c2 j (by omega), r2 j (by omega)]
            exact ⟨rfl, byte_wi _⟩
    · refine bref2 hI ?_ (fun m hm => ?_)
      · unfold f_X6_feed
        rw [within_1 h1, if_neg i10, p2, e120, if_neg (nI_ge (show 120 - n < q by omega) (by omega)), refuse_2, Option.bind_some]
      · unfold f_X7_feed
        rw [in_1_4, within_1 h1, if_neg i10, show m 82 16 = nI q by rw [hm, up_row (by decide)]; exact p3, nI_add, if_neg (fun z => h2 ((nI_le_lit (n := 120) 120 (by decide) (by omega)).mp z)), finds_2, Option.bind_some]
  · refine bref1 hI ?_ (fun m hm => ?_)
    · unfold f_X6_feed
      rw [within_0 h1, if_pos rfl, refuse_1, Option.bind_some]
    · unfold f_X7_feed
      rw [in_1_4, within_0 h1, if_pos rfl, finds_1, Option.bind_some]
/-! sheets -/
theorem Inv.sheets {im m2 : IM} (h : Inv im) (ho : ∀ a, ¬ (74 ≤ a ∧ a ≤ 81) → ¬ (90 ≤ a ∧ a ≤ 93) → m2 a = im a) (hH : IvH m2) : Inv m2 := by
  obtain ⟨⟨V, v1, v2, v3⟩, hK, hS, ⟨q, p1, p2, p3, p4⟩, -⟩ := h
  have r : ∀ a, ((a ≤ 73) ∨ (82 ≤ a ∧ a ≤ 89)) → m2 a = im a := fun a h => ho a (by omega) (by omega)
  refine ⟨⟨V, v1.cg (fun a h1 h2 => r a (by omega)) v3.1, v2.cg (r 83 (by omega)), v3⟩, ?_, fun k hk => by rw [r 73 (by omega), r 86 (by omega)]; exact hS k hk, ⟨q, p1, by rw [r 66 (by omega)]; exact p2, by rw [r 82 (by omega)]; exact p3, fun k hk => by rw [r 67 (by omega), r 89 (by omega)]; exact p4 k hk⟩, hH⟩
  rcases hK with ⟨k1, k2⟩ | ⟨k1, k2, W, w1, w2, w3⟩
  · exact Or.inl ⟨by rw [r 0 (by omega)]; exact k1, by rw [r 82 (by omega)]; exact k2⟩
  · exact Or.inr ⟨by rw [r 0 (by omega)]; exact k1, by rw [r 82 (by omega)]; exact k2, W, w1.cg (fun a h1 h2 => r a (by omega)) w3.1, w2.cg (r 84 (by omega)), w3⟩
theorem lit_mul40 {s : Nat} : (40 : Int32) * nI s = nI (40 * s) := by rw [show (40 : Int32) = nI 40 from rfl, pk_mul]
theorem n40 {i : Nat} (hi : i < 40) : ¬ (40 : Int32) ≤ nI i := by rw [nI_ge_lit (n := 40) 40 (by decide) (by omega)]; omega
theorem begin_c {im : IM} {A : Nat} {b n z : Int32} (hz : z = if b = 0 then 0 else n) : ∃ m, f_X3_begin A b n im = some m ∧ m A 1 = b ∧ m A 2 = z ∧ (∀ k, k < 40 → m (A + 1) k = 0) ∧ ∀ a, a ≠ A → a ≠ A + 1 → m a = im a := by
  have e : f_X3_begin A b n im = f_X3_begin_l2 A b n xF 0 (up (up im A 1 b) A 2 z) := by
    unfold f_X3_begin f_X3_begin_j1
    rw [hz]
    by_cases h : b = 0
    · rw [bnd_eq, if_pos h, if_pos h, bnd_eq]
    · rw [bnd_eq, if_neg h, if_neg h, bnd_eq]
  rw [e]
  obtain ⟨c, e2, h2⟩ := loopG (fun f m i => f_X3_begin_l2 A b n f i m) some 0 0 rfl 40 (by omega) (by omega) (fun i m => m A = (up (up im A 1 b) A 2 z) A ∧ (∀ k, k < i → m (A + 1) k = 0) ∧ ∀ a, a ≠ A → a ≠ A + 1 → m a = im a) (fun m => m A = (up (up im A 1 b) A 2 z) A ∧ (∀ k, k < 40 → m (A + 1) k = 0) ∧ ∀ a, a ≠ A → a ≠ A + 1 → m a = im a) (fun f m hP => ⟨m, by
      show f_X3_begin_l2b A b n _ (nI 40) m = _
      unfold f_X3_begin_l2b
      rw [if_pos (by decide)], hP⟩) (fun f m i hi0 hi hP => Or.inr ⟨up m (A + 1) i 0, by
      show f_X3_begin_l2b A b n _ (nI i) m = _
      unfold f_X3_begin_l2b
      rw [if_neg (n40 hi), if_pos (inb_nI hi (by decide)), ix_nI (by omega), bnd_eq, bnd_eq, nI_1], by rw [up_row (by omega)]; exact hP.1, fun k hk => by
        by_cases e : k = i
        · subst e; rw [up_same]
        · rw [up_ne e]; exact hP.2.1 k (by omega), fun a h1 h2 => by rw [up_row h2]; exact hP.2.2 a h1 h2⟩) (up (up im A 1 b) A 2 z) ⟨rfl, fun k hk => absurd hk (Nat.not_lt_zero _), fun a h1 h2 => by rw [up_row h1, up_row h1]⟩
  refine ⟨c, e2, ?_, ?_, h2.2.1, h2.2.2⟩
  · rw [h2.1, up_ne (by decide), up_same]
  · rw [h2.1, up_same]
theorem lp_sheet : LP_sheet Inv := by
  intro im hI a1 a2 a3
  obtain ⟨-, -, -, -, hH⟩ := id hI
  have bad1 : ∀ m, f_X6_sheet_j1 a1 a2 a3 m = (f_X6_refuse (-1000001) m).bind fun r1 => some (r1.1, r1.2) := fun _ => rfl
  have bad7 : ∀ m, f_X7_sheet_j1 a1 a2 a3 m = (f_X7_finds (-1000001) m).bind fun r1 => some (r1.1, r1.2) := fun _ => rfl
  by_cases h1 : wi a1 0 3
  · obtain ⟨s, hs, rfl⟩ := rng_of (n := 3) 3 (by decide) h1.1 h1.2
    have ib := inb_nI (show s < 4 by omega) (show 4 < 2 ^ 31 by decide)
    have is : ix (nI s) = s := ix_nI (by omega)
    by_cases h2 : a2 = 0 ∨ a2 = 8 ∨ a2 = 16 ∨ a2 = 32
    · have eC : f_X6_sheet (nI s) a2 a3 im = f_X6_sheet_j2 (nI s) a2 a3 im := by
        unfold f_X6_sheet f_X6_isSheet
        rw [within_1 h1, zb_1, if_neg i10]
        rcases h2 with h | h | h | h
        · rw [if_pos h]
        · by_cases h0 : a2 = 0
          · rw [if_pos h0]
          · rw [if_neg h0, if_pos h]
        · by_cases h0 : a2 = 0
          · rw [if_pos h0]
          · by_cases h8 : a2 = 8
            · rw [if_neg h0, if_pos h8]
            · rw [if_neg h0, if_neg h8, if_pos h]
        · by_cases h0 : a2 = 0
          · rw [if_pos h0]
          · by_cases h8 : a2 = 8
            · rw [if_neg h0, if_pos h8]
            · by_cases h16 : a2 = 16
              · rw [if_neg h0, if_neg h8, if_pos h16]
              · rw [if_neg h0, if_neg h8, if_neg h16, if_pos h]
      have eR : ∀ m, f_X7_sheet (nI s) a2 a3 m = f_X7_sheet_j2 (nI s) a2 a3 m := by
        intro m
        unfold f_X7_sheet f_X7_isOne
        rw [in_0_3, within_1 h1, zb_1, if_neg i10]
        rcases h2 with h | h | h | h
        · rw [if_pos h]
        · by_cases h0 : a2 = 0
          · rw [if_pos h0]
          · rw [if_neg h0, if_pos h]
        · by_cases h0 : a2 = 0
          · rw [if_pos h0]
          · by_cases h8 : a2 = 8
            · rw [if_neg h0, if_pos h8]
            · rw [if_neg h0, if_neg h8, if_pos h]
        · by_cases h0 : a2 = 0
          · rw [if_pos h0]
          · by_cases h8 : a2 = 8
            · rw [if_neg h0, if_pos h8]
            · by_cases h16 : a2 = 16
              · rw [if_neg h0, if_neg h8, if_pos h16]
              · rw [if_neg h0, if_neg h8, if_neg h16, if_pos h]
      by_cases h3 : 0 ≤ a3
      · by_cases h4 : a3 ≤ 40
        · obtain ⟨z, hz⟩ : ∃ z : Int32, z = if a2 = 0 then 0 else a3 := ⟨_, rfl⟩
          have hzw : wi z 0 40 := by
            rw [hz]
            by_cases h : a2 = 0
            · rw [if_pos h]; unfold wi; decide
            · rw [if_neg h]; exact ⟨h3, h4⟩
          obtain ⟨m, e1, b1, b2, b3, b4⟩ := begin_c (im := im) (A := 74 + 2 * s) hz
          have e7 : f_X7_sheet_j2 (nI s) a2 a3 m = f_X7_sheet_l4 (nI s) a2 a3 xF 0 (up (up m 90 s a2) 91 s z) := by
            unfold f_X7_sheet_j2 f_X7_sheet_j3
            rw [if_pos h3, if_pos h4, if_pos ib, bnd_eq, hz]
            by_cases h : a2 = 0
            · rw [if_pos h, if_pos h, if_pos ib, bnd_eq, is]
            · rw [if_neg h, if_neg h, if_pos ib, bnd_eq, is]
          obtain ⟨c, e2, m2, rfl, g1, g2, g3⟩ := loopG (fun f m i => f_X7_sheet_l4 (nI s) a2 a3 f i m) some 0 0 rfl 40 (by omega) (by omega) (fun i m2 => (∀ a, a ≠ 92 → m2 a = (up (up m 90 s a2) 91 s z) a) ∧ (∀ k, k < i → m2 92 (40 * s + k) = 0) ∧ ∀ k, (k < 40 * s ∨ 40 * s + 40 ≤ k) → m2 92 k = m 92 k) (fun c => ∃ m2 : IM, c = (m2 91 s, m2) ∧ (∀ a, a ≠ 92 → m2 a = (up (up m 90 s a2) 91 s z) a) ∧ (∀ k, k < 40 → m2 92 (40 * s + k) = 0) ∧ ∀ k, (k < 40 * s ∨ 40 * s + 40 ≤ k) → m2 92 k = m 92 k) (fun f m hP => ⟨_, by
            show f_X7_sheet_l4b (nI s) a2 a3 _ (nI 40) m = _
            unfold f_X7_sheet_l4b
            rw [if_pos (by decide), if_pos ib, is], m, rfl, hP⟩) (fun f m i hi0 hi hP => Or.inr ⟨up m 92 (40 * s + i) 0, by
            show f_X7_sheet_l4b (nI s) a2 a3 _ (nI i) m = _
            unfold f_X7_sheet_l4b
            rw [if_neg (n40 hi), lit_mul40, nI_add, if_pos (inb_nI (show 40 * s + i < 160 by omega) (by decide)), ix_nI (by omega), bnd_eq, bnd_eq, nI_1], fun a ha => by rw [up_row ha]; exact hP.1 a ha, fun k hk => by
              by_cases e : k = i
              · subst e; rw [up_same]
              · rw [up_ne (by omega)]; exact hP.2.1 k (by omega), fun k hk => by rw [up_ne (by omega)]; exact hP.2.2 k hk⟩) (up (up m 90 s a2) 91 s z) ⟨fun _ _ => rfl, fun k hk => absurd hk (Nat.not_lt_zero _), fun k hk => by rw [up_row (by decide), up_row (by decide)]⟩
          refine ⟨z, m, m2, ?_, ?_, ?_⟩
          · rw [eC]
            unfold f_X6_sheet_j2
            rw [if_pos h3, if_pos h4, if_pos ib, is, e1, Option.bind_some, if_pos ib, b2]
          · rw [eR, e7, e2, g1 91 (by decide), up_same]
          · refine hI.sheets (fun a h5 h6 => by rw [g1 a (by omega), up_row (by omega), up_row (by omega)]; exact b4 a (by omega) (by omega)) (fun i hi => ?_)
            have r90 : m2 90 = (up m 90 s a2) 90 := by rw [g1 90 (by decide), up_row (by decide)]
            have r91 : m2 91 = (up (up m 90 s a2) 91 s z) 91 := g1 91 (by decide)
            have rs : ∀ a, 74 ≤ a → a ≤ 81 → m2 a = m a := fun a ha hb => by rw [g1 a (by omega), up_row (by omega), up_row (by omega)]
            rw [rs (74 + 2 * i) (by omega) (by omega), rs (75 + 2 * i) (by omega) (by omega), r90, r91]
            by_cases e : i = s
            · subst e
              rw [up_same, up_same, b1, b2]
              refine ⟨⟨rfl, h2⟩, ⟨rfl, hzw⟩, fun k hk => ?_⟩
              rw [show 75 + 2 * i = 74 + 2 * i + 1 by omega, b3 k hk, g2 k hk]
            · have q := hH i hi
              rw [up_ne e, up_ne e, up_row (show (91 : Nat) ≠ 90 by decide), b4 (74 + 2 * i) (by omega) (by omega), b4 (75 + 2 * i) (by omega) (by omega), b4 90 (by omega) (by omega), b4 91 (by omega) (by omega)]
              refine ⟨q.1, q.2.1, fun k hk => ?_⟩
              rw [g3 (40 * i + k) (by omega), b4 92 (by omega) (by omega)]
              exact q.2.2 k hk
        · refine bref1 hI ?_ (fun m hm => ?_)
          · rw [eC]
            unfold f_X6_sheet_j2
            rw [if_pos h3, if_neg h4, refuse_1, Option.bind_some]
          · rw [eR]
            unfold f_X7_sheet_j2
            rw [if_pos h3, if_neg h4, finds_1, Option.bind_some]
      · refine bref7 hI ?_ (fun m hm => ?_)
        · rw [eC]
          unfold f_X6_sheet_j2
          rw [if_neg h3, refuse_7, Option.bind_some]
        · rw [eR]
          unfold f_X7_sheet_j2
          rw [if_neg h3, finds_7, Option.bind_some]
    · have c0 : ¬ a2 = 0 := fun q => h2 (Or.inl q)
      have c8 : ¬ a2 = 8 := fun q => h2 (Or.inr (Or.inl q))
      have c16 : ¬ a2 = 16 := fun q => h2 (Or.inr (Or.inr (Or.inl q)))
      have c32 : ¬ a2 = 32 := fun q => h2 (Or.inr (Or.inr (Or.inr q)))
      refine bref1 hI ?_ (fun m hm => ?_)
      · unfold f_X6_sheet f_X6_isSheet
        rw [within_1 h1, zb_1, if_neg i10, if_neg c0, if_neg c8, if_neg c16, if_neg c32, bad1, refuse_1, Option.bind_some]
      · unfold f_X7_sheet f_X7_isOne
        rw [in_0_3, within_1 h1, zb_1, if_neg i10, if_neg c0, if_neg c8, if_neg c16, if_neg c32, bad7, finds_1, Option.bind_some]
  · refine bref1 hI ?_ (fun m hm => ?_)
    · unfold f_X6_sheet f_X6_isSheet
      rw [within_0 h1, zb_0, if_pos rfl, bad1, refuse_1, Option.bind_some]
    · unfold f_X7_sheet f_X7_isOne
      rw [in_0_3, within_0 h1, zb_0, if_pos rfl, bad7, finds_1, Option.bind_some]
