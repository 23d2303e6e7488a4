theorem wi_NN {a : Int32} {n : Nat} (hn : n ≤ 40) : wi a 0 (nI n - 1) ↔ ∃ t, t < n ∧ a = nI t := by
  unfold wi
  have e1 : (nI n - 1).toInt = (n : Int) - 1 := by
    rw [show (1 : Int32) = nI 1 from rfl, pk_sub_toInt (by omega) (by omega)]; rfl
  rw [Int32.le_iff_toInt_le, Int32.le_iff_toInt_le, e1]
  constructor
  · rintro ⟨h1, h2⟩
    have h1 : 0 ≤ a.toInt := by simpa using h1
    refine ⟨a.toInt.toNat, by omega, ?_⟩
    rw [← Int32.toInt_inj, nI_toInt (by omega)]
    omega
  · rintro ⟨t, h1, rfl⟩
    rw [nI_toInt (by omega)]
    simp
    omega
theorem wrong_b {a1 : Int32} {im : IM} (h1 : ¬ wi a1 0 3) : f_X7_wrong a1 im = some (-1000001) := by
  unfold f_X7_wrong f_X7_isOne
  rw [in_0_3, within_0 h1, zb_0, if_pos rfl]
theorem wrong_m {s : Nat} {im : IM} (hs : s ≤ 3) (h1 : wi (nI s) 0 3) (h : im 90 s = 0) : f_X7_wrong (nI s) im = some (-1000006) := by
  unfold f_X7_wrong f_X7_isOne
  rw [in_0_3, within_1 h1, zb_1, if_neg i10, if_pos (inb_nI (show s < 4 by omega) (by decide)), ix_nI (by omega), if_pos h]
theorem wrong_n {s : Nat} {im : IM} (hs : s ≤ 3) (h1 : wi (nI s) 0 3) (h : ¬ im 90 s = 0) : f_X7_wrong (nI s) im = some 0 := by
  unfold f_X7_wrong f_X7_isOne
  rw [in_0_3, within_1 h1, zb_1, if_neg i10, if_pos (inb_nI (show s < 4 by omega) (by decide)), ix_nI (by omega), if_neg h]
theorem miss_1 {A : Nat} {im : IM} (h : im A 1 = 0) : f_X3_isMissing A im = 1 := by unfold f_X3_isMissing; rw [if_pos h]
theorem miss_0 {A : Nat} {im : IM} (h : ¬ im A 1 = 0) : f_X3_isMissing A im = 0 := by unfold f_X3_isMissing; rw [if_neg h]
theorem n1_0 : ¬ (-1000001 : Int32) = 0 := by decide
theorem n6_0 : ¬ (-1000006 : Int32) = 0 := by decide
theorem lp_write : LP_write Inv := by
  intro im hI a1 a2 a3
  obtain ⟨-, -, -, -, hH⟩ := id hI
  by_cases h1 : wi a1 0 3
  · obtain ⟨s, hs, rfl⟩ := rng_of (n := 3) 3 (by decide) h1.1 h1.2
    have ib := inb_nI (show s < 4 by omega) (show 4 < 2 ^ 31 by decide)
    have is : ix (nI s) = s := ix_nI (by omega)
    obtain ⟨⟨b1, b2⟩, ⟨z1, z2⟩, nm⟩ := hH s (by omega)
    by_cases h2 : im 90 s = 0
    · refine bref6 hI ?_ (fun m hm => ?_)
      · unfold f_X6_write f_X6_isSheet
        rw [within_1 h1, zb_1, if_neg i10, if_pos ib, is, miss_1 (by rw [b1]; exact h2), if_neg i10, refuse_6, Option.bind_some]
      · unfold f_X7_write
        rw [wrong_m hs h1 (by rw [hm, up_row (by decide)]; exact h2), Option.bind_some, if_neg n6_0, finds_6, Option.bind_some]
    · obtain ⟨z, hz, ez⟩ := rng_of (n := 40) 40 (by decide) z2.1 z2.2
      by_cases h3 : wi a2 0 (nI z - 1)
      · obtain ⟨i, hi, rfl⟩ := (wi_NN hz).mp h3
        have e2 : f_X7_narrowed (im 90 s) a3 = f_X3_cutToBits (74 + 2 * s) a3 im := by
          unfold f_X7_narrowed f_X3_cutToBits
          rw [b1]
        refine ⟨1, up im (75 + 2 * s) i (f_X3_cutToBits (74 + 2 * s) a3 im), up (up im (75 + 2 * s) i (f_X3_cutToBits (74 + 2 * s) a3 im)) 92 (40 * s + i) (f_X3_cutToBits (74 + 2 * s) a3 im), ?_, ?_, ?_⟩
        · unfold f_X6_write f_X6_isSheet
          rw [within_1 h1, zb_1, if_neg i10, if_pos ib, is, miss_0 (by rw [b1]; exact h2), if_pos rfl, if_pos ib, z1, ez, within_1 h3, if_neg i10, if_pos ib, if_pos ib, if_pos (inb_nI (show i < 40 by omega) (by decide)), ix_nI (by omega), bnd_eq, show 74 + 2 * s + 1 = 75 + 2 * s by omega]
        · have r : ∀ a, 82 ≤ a → (up im (75 + 2 * s) i (f_X3_cutToBits (74 + 2 * s) a3 im)) a = im a := fun a ha => up_row (by omega)
          unfold f_X7_write
          rw [wrong_n hs h1 (by rw [r 90 (by omega)]; exact h2), Option.bind_some, if_pos rfl, if_pos ib, is, r 91 (by omega), ez, in_lit (b := 0) (by decide) rfl, within_1 h3, if_neg i10, if_pos ib, lit_mul40, nI_add, if_pos (inb_nI (show 40 * s + i < 160 by omega) (by decide)), ix_nI (by omega), bnd_eq, r 90 (by omega), e2]
        · refine hI.sheets (fun a h5 h6 => by rw [up_row (by omega), up_row (by omega)]) (fun k hk => ?_)
          obtain ⟨q1, q2, q3⟩ := hH k hk
          rw [up_row (show 74 + 2 * k ≠ 92 by omega), up_row (show 74 + 2 * k ≠ 75 + 2 * s by omega), up_row (show (90 : Nat) ≠ 92 by omega), up_row (show (90 : Nat) ≠ 75 + 2 * s by omega), up_row (show (91 : Nat) ≠ 92 by omega), up_row (show (91 : Nat) ≠ 75 + 2 * s by omega), up_row (show 75 + 2 * k ≠ 92 by omega)]
          refine ⟨q1, q2, fun j hj => ?_⟩
          by_cases e : k = s
          · subst e
            by_cases e2 : j = i
            · subst e2
              rw [up_same, up_same]
            · rw [up_ne e2, up_ne (by omega), up_row (by omega)]
              exact q3 j hj
          · rw [up_row (by omega), up_ne (by omega), up_row (by omega)]
            exact q3 j hj
      · refine bref1 hI ?_ (fun m hm => ?_)
        · unfold f_X6_write f_X6_isSheet
          rw [within_1 h1, zb_1, if_neg i10, if_pos ib, is, miss_0 (by rw [b1]; exact h2), if_pos rfl, if_pos ib, z1, ez, within_0 h3, if_pos rfl, refuse_1, Option.bind_some]
        · unfold f_X7_write
          rw [wrong_n hs h1 (by rw [hm, up_row (by decide)]; exact h2), Option.bind_some, if_pos rfl, if_pos ib, is, show m 91 s = nI z by rw [hm, up_row (by decide)]; exact ez, in_lit (b := 0) (by decide) rfl, within_0 h3, if_pos rfl, finds_1, Option.bind_some]
  · refine bref1 hI ?_ (fun m hm => ?_)
    · unfold f_X6_write f_X6_isSheet
      rw [within_0 h1, zb_0, if_pos rfl, refuse_1, Option.bind_some]
    · unfold f_X7_write
      rw [wrong_b h1, Option.bind_some, if_neg n1_0, finds_1, Option.bind_some]
/-! copy -/
def hp (sz f n : Int32) : Prop := 0 ≤ f.toInt ∧ 0 ≤ n.toInt ∧ f.toInt + n.toInt ≤ sz.toInt
theorem le0I (x : Int32) : x < 0 ↔ x.toInt < 0 := by
  rw [Int32.lt_iff_toInt_lt]; rfl
theorem part_1 {A : Nat} {im : IM} {f n : Int32} (hz : wi (im A 2) 0 40) (h : hp (im A 2) f n) : f_X3_hasPart A f n im = 1 := by
  have w := wiI hz
  have e0 : (0 : Int32).toInt = 0 := by decide
  have e40 : (40 : Int32).toInt = 40 := by decide
  rw [e0, e40] at w
  obtain ⟨h1, h2, h3⟩ := h
  unfold f_X3_hasPart
  rw [if_neg (by rw [le0I]; omega), if_neg (by rw [le0I]; omega), if_neg (by rw [Int32.lt_iff_toInt_lt]; omega), if_neg (by rw [Int32.lt_iff_toInt_lt, fb_subI (by omega) (by omega)]; omega)]
theorem part_0 {A : Nat} {im : IM} {f n : Int32} (hz : wi (im A 2) 0 40) (h : ¬ hp (im A 2) f n) : f_X3_hasPart A f n im = 0 := by
  have w := wiI hz
  have e0 : (0 : Int32).toInt = 0 := by decide
  have e40 : (40 : Int32).toInt = 40 := by decide
  rw [e0, e40] at w
  unfold f_X3_hasPart f_X3_hasPart_j1
  by_cases c1 : f < 0
  · rw [if_pos c1]
  · rw [if_neg c1]
    by_cases c2 : n < 0
    · rw [if_pos c2]
    · rw [if_neg c2]
      by_cases c3 : im A 2 < n
      · rw [if_pos c3]
      · rw [if_neg c3, if_pos]
        rw [le0I] at c1 c2
        rw [Int32.lt_iff_toInt_lt] at c3
        rw [Int32.lt_iff_toInt_lt, fb_subI (by omega) (by omega)]
        unfold hp at h
        omega
theorem lp_copy : LP_copy Inv := by
  intro im hI a1 a2 a3 a4 a5
  obtain ⟨-, -, -, -, hH⟩ := id hI
  by_cases h1 : wi a1 0 3
  · by_cases h3 : wi a3 0 3
    · obtain ⟨s, hs, rfl⟩ := rng_of (n := 3) 3 (by decide) h1.1 h1.2
      obtain ⟨t, ht, rfl⟩ := rng_of (n := 3) 3 (by decide) h3.1 h3.2
      have ib := inb_nI (show s < 4 by omega) (show 4 < 2 ^ 31 by decide)
      have is : ix (nI s) = s := ix_nI (by omega)
      have jb := inb_nI (show t < 4 by omega) (show 4 < 2 ^ 31 by decide)
      have js : ix (nI t) = t := ix_nI (by omega)
      obtain ⟨⟨b1, b2⟩, ⟨z1, z2⟩, nm⟩ := hH s (by omega)
      obtain ⟨⟨b1', b2'⟩, ⟨z1', z2'⟩, nm'⟩ := hH t (by omega)
      by_cases c1 : im 90 s = 0
      · refine bref6 hI ?_ (fun m hm => ?_)
        · unfold f_X6_copy f_X6_copy_j2 f_X6_isSheet
          rw [within_1 h1, within_1 h3, zb_1, if_neg i10, if_neg i10, if_pos ib, is, miss_1 (by rw [b1]; exact c1), if_neg i10, refuse_6, Option.bind_some]
        · unfold f_X7_copy f_X7_copy_j2 f_X7_isOne
          rw [in_0_3, in_0_3, within_1 h1, within_1 h3, zb_1, if_neg i10, if_neg i10, if_pos ib, is, if_pos (by rw [hm, up_row (by decide)]; exact c1), finds_6, Option.bind_some]
      · by_cases c2 : im 90 t = 0
        · refine bref6 hI ?_ (fun m hm => ?_)
          · unfold f_X6_copy f_X6_copy_j2 f_X6_isSheet
            rw [within_1 h1, within_1 h3, zb_1, if_neg i10, if_neg i10, if_pos ib, is, miss_0 (by rw [b1]; exact c1), if_pos rfl, if_pos jb, js, miss_1 (by rw [b1']; exact c2), if_neg i10, refuse_6, Option.bind_some]
          · unfold f_X7_copy f_X7_copy_j2 f_X7_isOne
            rw [in_0_3, in_0_3, within_1 h1, within_1 h3, zb_1, if_neg i10, if_neg i10, if_pos ib, is, if_neg (by rw [hm, up_row (by decide)]; exact c1), if_pos jb, js, if_pos (by rw [hm, up_row (by decide)]; exact c2), finds_6, Option.bind_some]
        · by_cases c3 : im 90 s = im 90 t
          · have wz := wiI z2
            have wz' := wiI z2'
            have e0 : (0 : Int32).toInt = 0 := by decide
            have e40 : (40 : Int32).toInt = 40 := by decide
            rw [e0, e40] at wz wz'
            have bad : ¬ (hp (im 91 s) a2 a5 ∧ hp (im 91 t) a4 a5) → ∃ (r : Int32) (m1 m2 : IM), f_X6_copy (nI s) a2 (nI t) a4 a5 im = some (r, m1) ∧ f_X7_copy (nI s) a2 (nI t) a4 a5 m1 = some (r, m2) ∧ Inv m2 := by
              intro hb
              refine bref1 hI ?_ (fun m hm => ?_)
              · unfold f_X6_copy f_X6_copy_j3 f_X6_isSheet
                rw [within_1 h1, within_1 h3, zb_1, if_neg i10, if_neg i10, if_pos ib, is, miss_0 (by rw [b1]; exact c1), if_pos rfl, if_pos jb, js, miss_0 (by rw [b1']; exact c2), if_pos rfl, if_pos ib, if_pos jb, b1, b1', if_pos c3, if_pos ib]
                by_cases d1 : hp (im 91 s) a2 a5
                · rw [part_1 (by rw [z1]; exact z2) (by rw [z1]; exact d1), if_neg i10, if_pos jb, part_0 (by rw [z1']; exact z2') (by rw [z1']; exact fun q => hb ⟨d1, q⟩), if_pos rfl, refuse_1, Option.bind_some]
                · rw [part_0 (by rw [z1]; exact z2) (by rw [z1]; exact d1), if_pos rfl, refuse_1, Option.bind_some]
              · have r : ∀ a, a ≠ 73 → m a = im a := fun a ha => by rw [hm, up_row ha]
                unfold f_X7_copy f_X7_copy_j3 f_X7_isOne
                rw [in_0_3, in_0_3, within_1 h1, within_1 h3, zb_1, if_neg i10, if_neg i10, if_pos ib, is, r 90 (by decide), r 91 (by decide), if_neg c1, if_pos jb, js, if_neg c2, if_pos ib, if_pos jb, if_pos c3]
                by_cases d1 : a2 < 0
                · rw [if_pos d1, finds_1, Option.bind_some]
                · rw [if_neg d1]
                  by_cases d2 : a4 < 0
                  · rw [if_pos d2, finds_1, Option.bind_some]
                  · rw [if_neg d2]
                    by_cases d3 : a5 < 0
                    · rw [if_pos d3, finds_1, Option.bind_some]
                    · rw [if_neg d3, if_pos ib]
                      by_cases d4 : im 91 s - a2 < a5
                      · rw [if_pos d4, finds_1, Option.bind_some]
                      · rw [if_neg d4, if_pos jb, if_neg, finds_1, Option.bind_some]
                        intro d5
                        rw [le0I] at d1 d2 d3
                        have r1 := fb_rng a2
                        have r4 := fb_rng a4
                        rw [Int32.lt_iff_toInt_lt, fb_subI (by omega) (by omega)] at d4
                        rw [Int32.le_iff_toInt_le, fb_subI (by omega) (by omega)] at d5
                        refine hb ⟨⟨by omega, by omega, by omega⟩, ⟨by omega, by omega, by omega⟩⟩
            by_cases d : hp (im 91 s) a2 a5 ∧ hp (im 91 t) a4 a5
            · obtain ⟨d1, d2⟩ := d
              obtain ⟨p1, p2, p3⟩ := id d1
              obtain ⟨q1, q2, q3⟩ := id d2
              have of : ∀ x : Int32, 0 ≤ x.toInt → x.toInt ≤ 40 → ∃ j : Nat, j ≤ 40 ∧ x = nI j := fun x hx hy => rng_of (n := 40) 40 (by decide) (by rw [Int32.le_iff_toInt_le, e0]; exact hx) (by rw [Int32.le_iff_toInt_le, e40]; exact hy)
              obtain ⟨f, hf, rfl⟩ := of a2 p1 (by omega)
              obtain ⟨g, hg, rfl⟩ := of a4 q1 (by omega)
              obtain ⟨n, hn, rfl⟩ := of a5 p2 (by omega)
              rw [nI_toInt (by omega), nI_toInt (by omega)] at p3 q3
              have hfn : f + n ≤ 40 := by omega
              have hgn : g + n ≤ 40 := by omega
              have hck : cpk (nI f) (nI g) (nI n) 40 40 = true := by
                unfold cpk
                rw [nI_clamp (by omega), nI_clamp (by omega), nI_clamp (by omega), decide_eq_false (nI_pos (by omega)), decide_eq_false (nI_pos (by omega)), decide_eq_false (nI_pos (by omega)), decide_eq_true hfn, decide_eq_true hgn]
                rfl
              let m1 : IM := upA im (75 + 2 * t) (va_cpy (im (75 + 2 * s)) (im (75 + 2 * t)) f g n)
              have r : ∀ a, a ≠ 75 + 2 * t → m1 a = im a := fun a ha => upA_row ha
              have e1 : ∃ m2, f_X7_copy_l4 (nI s) (nI f) (nI t) (nI g) (nI n) xF 0 m1 = some (nI n, m2) ∧ ((∀ a, a ≠ 92 → a ≠ 93 → m2 a = m1 a) ∧ (∀ k, k < n → m2 92 (40 * t + g + k) = im 92 (40 * s + f + k)) ∧ ∀ k, (k < 40 * t + g ∨ 40 * t + g + n ≤ k) → m2 92 k = im 92 k) := by
                have i1 : ∃ c, f_X7_copy_l4 (nI s) (nI f) (nI t) (nI g) (nI n) xF 0 m1 = f_X7_copy_l5 (nI s) (nI f) (nI t) (nI g) (nI n) xF 0 c ∧ ((∀ a, a ≠ 93 → c a = m1 a) ∧ ∀ k, k < n → c 93 k = im 92 (40 * s + f + k)) := by
                  refine loopG (fun f' m i => f_X7_copy_l4 (nI s) (nI f) (nI t) (nI g) (nI n) f' i m) (fun c => f_X7_copy_l5 (nI s) (nI f) (nI t) (nI g) (nI n) xF 0 c) 0 0 rfl n (by omega) (by omega) (fun i c => (∀ a, a ≠ 93 → c a = m1 a) ∧ ∀ k, k < i → c 93 k = im 92 (40 * s + f + k)) _ (fun f' m hP => ⟨m, ?_, hP⟩) (fun f' m i hi0 hi hP => Or.inr ⟨up m 93 i (m 92 (40 * s + f + i)), ?_, fun a ha => ?_, fun k hk => ?_⟩) m1 ⟨fun _ _ => rfl, fun k hk => absurd hk (Nat.not_lt_zero _)⟩
                  · show f_X7_copy_l4b (nI s) (nI f) (nI t) (nI g) (nI n) _ (nI n) m = _
                    unfold f_X7_copy_l4b
                    rw [if_pos (Int32.le_refl _)]
                  · show f_X7_copy_l4b (nI s) (nI f) (nI t) (nI g) (nI n) _ (nI i) m = _
                    unfold f_X7_copy_l4b
                    rw [if_neg (nI_ge hi (by omega)), lit_mul40, nI_add, nI_add, if_pos (inb_nI (show 40 * s + f + i < 160 by omega) (by decide)), if_pos (inb_nI (show i < 40 by omega) (by decide)), ix_nI (by omega), ix_nI (by omega), bnd_eq, bnd_eq, nI_1]
                  · rw [up_row ha]; exact hP.1 a ha
                  · by_cases e : k = i
                    · subst e
                      rw [up_same, hP.1 92 (by decide), r 92 (by omega)]
                    · rw [up_ne e]; exact hP.2 k (by omega)
                obtain ⟨c, ec, c1, c2⟩ := i1
                rw [ec]
                refine loopG (fun f' m i => f_X7_copy_l5 (nI s) (nI f) (nI t) (nI g) (nI n) f' i m) (fun c => some (nI n, c)) 0 0 rfl n (by omega) (by omega) (fun i m => m 93 = c 93 ∧ (∀ a, a ≠ 92 → a ≠ 93 → m a = m1 a) ∧ (∀ k, k < i → m 92 (40 * t + g + k) = im 92 (40 * s + f + k)) ∧ ∀ k, (k < 40 * t + g ∨ 40 * t + g + n ≤ k) → m 92 k = im 92 k) _ (fun f' m hP => ⟨m, ?_, hP.2⟩) (fun f' m i hi0 hi hP => Or.inr ⟨up m 92 (40 * t + g + i) (m 93 i), ?_, ?_, fun a ha hb => ?_, fun k hk => ?_, fun k hk => ?_⟩) c ⟨rfl, fun a ha hb => c1 a hb, fun k hk => absurd hk (Nat.not_lt_zero _), fun k hk => by rw [c1 92 (by decide), r 92 (by omega)]⟩
                · show f_X7_copy_l5b (nI s) (nI f) (nI t) (nI g) (nI n) _ (nI n) m = _
                  unfold f_X7_copy_l5b
                  rw [if_pos (Int32.le_refl _)]
                · show f_X7_copy_l5b (nI s) (nI f) (nI t) (nI g) (nI n) _ (nI i) m = _
                  unfold f_X7_copy_l5b
                  rw [if_neg (nI_ge hi (by omega)), if_pos (inb_nI (show i < 40 by omega) (by decide)), lit_mul40, nI_add, nI_add, if_pos (inb_nI (show 40 * t + g + i < 160 by omega) (by decide)), ix_nI (by omega), ix_nI (by omega), bnd_eq, bnd_eq, nI_1]
                · rw [up_row (by decide)]; exact hP.1
                · rw [up_row ha]; exact hP.2.1 a ha hb
                · by_cases e : k = i
                  · subst e
                    rw [up_same, hP.1, c2 k hi]
                  · rw [up_ne (by omega)]; exact hP.2.2.1 k (by omega)
                · rw [up_ne (by omega)]; exact hP.2.2.2 k hk
              obtain ⟨m2, e2, g1, g2, g3⟩ := e1
              refine ⟨nI n, m1, m2, ?_, ?_, ?_⟩
              · unfold f_X6_copy f_X6_isSheet
                rw [within_1 h1, within_1 h3, zb_1, if_neg i10, if_neg i10, if_pos ib, is, miss_0 (by rw [b1]; exact c1), if_pos rfl, if_pos jb, js, miss_0 (by rw [b1']; exact c2), if_pos rfl, if_pos ib, if_pos jb, b1, b1', if_pos c3, if_pos ib, part_1 (by rw [z1]; exact z2) (by rw [z1]; exact d1), if_neg i10, if_pos jb, part_1 (by rw [z1']; exact z2') (by rw [z1']; exact d2), if_neg i10, if_pos ib, if_pos jb, if_pos hck, bnd_eq, ix_nI (show f < 2 ^ 31 by omega), ix_nI (show g < 2 ^ 31 by omega), ix_nI (show n < 2 ^ 31 by omega), show 74 + 2 * t + 1 = 75 + 2 * t by omega, show 74 + 2 * s + 1 = 75 + 2 * s by omega]
              · unfold f_X7_copy f_X7_isOne
                rw [in_0_3, in_0_3, within_1 h1, within_1 h3, zb_1, if_neg i10, if_neg i10, if_pos ib, is, r 90 (by omega), r 91 (by omega), if_neg c1, if_pos jb, js, if_neg c2, if_pos ib, if_pos jb, if_pos c3, if_neg (nI_pos (by omega)), if_neg (nI_pos (by omega)), if_neg (nI_pos (by omega)), if_pos ib, if_neg, if_pos jb, if_pos, e2]
                · have eg := nI_toInt (n := g) (by omega)
                  rw [Int32.le_iff_toInt_le, fb_subI (by omega) (by omega), nI_toInt (by omega), eg]
                  omega
                · have eg := nI_toInt (n := f) (by omega)
                  rw [Int32.lt_iff_toInt_lt, fb_subI (by omega) (by omega), eg, nI_toInt (by omega)]
                  omega
              · refine hI.sheets (fun a h5 h6 => by rw [g1 a (by omega) (by omega), r a (by omega)]) (fun k hk => ?_)
                obtain ⟨k1, k2, k3⟩ := hH k hk
                rw [g1 (74 + 2 * k) (by omega) (by omega), g1 90 (by omega) (by omega), g1 91 (by omega) (by omega), g1 (75 + 2 * k) (by omega) (by omega), r (74 + 2 * k) (by omega), r 90 (by omega), r 91 (by omega)]
                refine ⟨k1, k2, fun j hj => ?_⟩
                by_cases e : k = t
                · subst e
                  have em : m1 (75 + 2 * k) = va_cpy (im (75 + 2 * s)) (im (75 + 2 * k)) f g n := upA_same
                  rw [em]
                  by_cases hin : g ≤ j ∧ j < g + n
                  · rw [pk_cpy_in hin.1 hin.2, nm (f + (j - g)) (by omega), show 40 * k + j = 40 * k + g + (j - g) by omega, g2 (j - g) (by omega), show 40 * s + (f + (j - g)) = 40 * s + f + (j - g) by omega]
                  · rw [pk_cpy_out (by omega), g3 (40 * k + j) (by omega)]
                    exact k3 j hj
                · rw [r (75 + 2 * k) (by omega), g3 (40 * k + j) (by omega)]
                  exact k3 j hj
            · exact bad d
          · refine bref3 hI ?_ (fun m hm => ?_)
            · unfold f_X6_copy f_X6_isSheet
              rw [within_1 h1, within_1 h3, zb_1, if_neg i10, if_neg i10, if_pos ib, is, miss_0 (by rw [b1]; exact c1), if_pos rfl, if_pos jb, js, miss_0 (by rw [b1']; exact c2), if_pos rfl, if_pos ib, if_pos jb, b1, b1', if_neg c3, refuse_3, Option.bind_some]
            · have r : ∀ a, a ≠ 73 → m a = im a := fun a ha => by rw [hm, up_row ha]
              unfold f_X7_copy f_X7_isOne
              rw [in_0_3, in_0_3, within_1 h1, within_1 h3, zb_1, if_neg i10, if_neg i10, if_pos ib, is, r 90 (by decide), if_neg c1, if_pos jb, js, if_neg c2, if_pos ib, if_pos jb, if_neg c3, finds_3, Option.bind_some]
    · refine bref1 hI ?_ (fun m hm => ?_)
      · unfold f_X6_copy f_X6_copy_j1 f_X6_isSheet
        rw [within_1 h1, within_0 h3, zb_1, zb_0, if_neg i10, if_pos rfl, refuse_1, Option.bind_some]
      · unfold f_X7_copy f_X7_copy_j1 f_X7_isOne
        rw [in_0_3, in_0_3, within_1 h1, within_0 h3, zb_1, zb_0, if_neg i10, if_pos rfl, finds_1, Option.bind_some]
  · refine bref1 hI ?_ (fun m hm => ?_)
    · unfold f_X6_copy f_X6_copy_j1 f_X6_isSheet
      rw [within_0 h1, zb_0, if_pos rfl, refuse_1, Option.bind_some]
    · unfold f_X7_copy f_X7_copy_j1 f_X7_isOne
      rw [in_0_3, within_0 h1, zb_0, if_pos rfl, finds_1, Option.bind_some]
/-! load -/
def setFs (V : TV) (f n : Nat) (x : Nat → Int32) : TV := (fun c => if f ≤ c ∧ c < f + n then x (c - f) else vF V c, V.2)
theorem setFs_F (V : TV) (f n : Nat) (x : Nat → Int32) (c : Nat) : vF (setFs V f n x) c = if f ≤ c ∧ c < f + n then x (c - f) else vF V c := rfl
/-- so many are taken: n of x, at most M, up to the first that is no fall -/
def ldn (x : Nat → Int32) (M n : Nat) : Prop := n ≤ M ∧ (∀ j, j < n → wi (x j) (-9) 9) ∧ (n = M ∨ ¬ wi (x n) (-9) 9)
theorem ldn_one {x : Nat → Int32} {M n k : Nat} (h : ldn x M n) (g : ldn x M k) : n = k := by
  obtain ⟨h1, h2, h3⟩ := h
  obtain ⟨g1, g2, g3⟩ := g
  rcases Nat.lt_trichotomy n k with c | c | c
  · rcases h3 with e | e
    · omega
    · exact absurd (g2 n c) e
  · exact c
  · rcases g3 with e | e
    · omega
    · exact absurd (h2 k c) e
theorem lp_load : LP_load Inv := by
  intro im hI a1 a2
  obtain ⟨⟨V, v1, v2, v3⟩, -, -, -, hH⟩ := id hI
  by_cases h1 : wi a1 0 3
  · obtain ⟨s, hs, rfl⟩ := rng_of (n := 3) 3 (by decide) h1.1 h1.2
    have ib := inb_nI (show s < 4 by omega) (show 4 < 2 ^ 31 by decide)
    have is : ix (nI s) = s := ix_nI (by omega)
    obtain ⟨⟨b1, b2⟩, ⟨z1, z2⟩, nm⟩ := hH s (by omega)
    by_cases h2 : im 90 s = 0
    · refine bref6 hI ?_ (fun m hm => ?_)
      · unfold f_X6_load f_X6_isSheet
        rw [within_1 h1, zb_1, if_neg i10, if_pos ib, is, miss_1 (by rw [b1]; exact h2), if_neg i10, refuse_6, Option.bind_some]
      · unfold f_X7_load
        rw [wrong_m hs h1 (by rw [hm, up_row (by decide)]; exact h2), Option.bind_some, if_neg n6_0, finds_6, Option.bind_some]
    · obtain ⟨z, hz, ez⟩ := rng_of (n := 40) 40 (by decide) z2.1 z2.2
      by_cases h3 : wi a2 0 30
      · obtain ⟨f, hf, rfl⟩ := rng_of (n := 30) 30 (by decide) h3.1 h3.2
        obtain ⟨M, hM⟩ : ∃ M, M = min z (31 - f) := ⟨_, rfl⟩
        obtain ⟨x, hx⟩ : ∃ x : Nat → Int32, x = im (75 + 2 * s) := ⟨_, rfl⟩
        have eM : jmin (nI z) (31 - nI f) = nI M := by
          rw [show (31 : Int32) = nI 31 from rfl, pk_sub (by omega)]
          unfold jmin
          by_cases h : 31 - f < z
          · rw [if_pos (nI_lt h (by omega)), show M = 31 - f by omega]
          · rw [if_neg (nI_nlt (by omega) (by omega)), show M = z by omega]
        have eC : ∃ c, f_X6_load_l1 (nI s) (nI f) xF (nI M) 0 im = some c ∧ ∃ n m, c = (nI n, m) ∧ ldn x M n ∧ (∀ a, a ≠ 2 → m a = im a) ∧ (∀ j, j < n → m 2 (f + j) = x j) ∧ ∀ k, (k < f ∨ f + n ≤ k) → m 2 k = im 2 k := by
          refine loopG (fun f' m i => f_X6_load_l1 (nI s) (nI f) f' (nI M) i m) some 0 0 rfl M (by omega) (by omega) (fun i m => (∀ j, j < i → wi (x j) (-9) 9) ∧ (∀ a, a ≠ 2 → m a = im a) ∧ (∀ j, j < i → m 2 (f + j) = x j) ∧ ∀ k, (k < f ∨ f + i ≤ k) → m 2 k = im 2 k) _ (fun f' m hP => ⟨(nI M, m), ?_, M, m, rfl, ⟨Nat.le_refl _, hP.1, Or.inl rfl⟩, hP.2⟩) (fun f' m i hi0 hi hP => ?_) im ⟨fun j hj => absurd hj (Nat.not_lt_zero _), fun _ _ => rfl, fun j hj => absurd hj (Nat.not_lt_zero _), fun _ _ => rfl⟩
          · show f_X6_load_l1b (nI s) (nI f) _ (nI M) (nI M) m = _
            unfold f_X6_load_l1b f_X6_load_j2
            rw [if_pos (Int32.le_refl _)]
          · have xe : m (75 + 2 * s) i = x i := by rw [hP.2.1 _ (by omega), hx]
            have e : f_X6_load_l1 (nI s) (nI f) (f' + 1) (nI M) (nI i) m = if f_X6_isFall (x i) = 0 then some (nI i, m) else f_X6_load_l1 (nI s) (nI f) f' (nI M) (nI (i + 1)) (up m 2 (f + i) (x i)) := by
              show f_X6_load_l1b (nI s) (nI f) _ (nI M) (nI i) m = _
              unfold f_X6_load_l1b f_X6_load_j2
              rw [if_neg (nI_ge hi (by omega)), if_pos ib, if_pos (inb_nI (show i < 40 by omega) (by decide)), is, ix_nI (show i < 2 ^ 31 by omega), show 74 + 2 * s + 1 = 75 + 2 * s by omega, xe, if_pos ib, if_pos (inb_nI (show i < 40 by omega) (by decide)), nI_add, if_pos (inb_nI (show f + i < 31 by omega) (by decide)), ix_nI (by omega), bnd_eq, bnd_eq, nI_1]
            by_cases hw : wi (x i) (-9) 9
            · refine Or.inr ⟨up m 2 (f + i) (x i), ?_, fun j hj => ?_, fun a ha => by rw [up_row ha]; exact hP.2.1 a ha, fun j hj => ?_, fun k hk => by rw [up_ne (by omega)]; exact hP.2.2.2 k (by omega)⟩
              · show f_X6_load_l1 (nI s) (nI f) (f' + 1) (nI M) (nI i) m = _
                rw [e]
                unfold f_X6_isFall
                rw [within_1 hw, zb_1, if_neg i10]
              · by_cases e : j = i
                · subst e; exact hw
                · exact hP.1 j (by omega)
              · by_cases e : j = i
                · subst e; rw [up_same]
                · rw [up_ne (by omega)]; exact hP.2.2.1 j (by omega)
            · refine Or.inl ⟨(nI i, m), ?_, i, m, rfl, ⟨by omega, hP.1, Or.inr hw⟩, hP.2⟩
              show f_X6_load_l1 (nI s) (nI f) (f' + 1) (nI M) (nI i) m = _
              rw [e]
              unfold f_X6_isFall
              rw [within_0 hw, zb_0, if_pos rfl]
        obtain ⟨c, e1, n, m, rfl, l1, o1, o2, o3⟩ := eC
        have eR : ∃ c, f_X7_load_l1 (nI s) (nI f) xF 0 m = some c ∧ ∃ n m2, c = (nI n, m2) ∧ ldn x M n ∧ (∀ a, a ≠ 83 → m2 a = m a) ∧ (∀ j, j < n → m2 83 (5 + f + j) = x j) ∧ ∀ k, (k < 5 + f ∨ 5 + f + n ≤ k) → m2 83 k = m 83 k := by
          refine loopG (fun f' m i => f_X7_load_l1 (nI s) (nI f) f' i m) some 0 0 rfl M (by omega) (by omega) (fun i m2 => (∀ j, j < i → wi (x j) (-9) 9) ∧ (∀ a, a ≠ 83 → m2 a = m a) ∧ (∀ j, j < i → m2 83 (5 + f + j) = x j) ∧ ∀ k, (k < 5 + f ∨ 5 + f + i ≤ k) → m2 83 k = m 83 k) _ (fun f' m2 hP => ⟨(nI M, m2), ?_, M, m2, rfl, ⟨Nat.le_refl _, hP.1, Or.inl rfl⟩, hP.2⟩) (fun f' m2 i hi0 hi hP => ?_) m ⟨fun j hj => absurd hj (Nat.not_lt_zero _), fun _ _ => rfl, fun j hj => absurd hj (Nat.not_lt_zero _), fun _ _ => rfl⟩
          · show f_X7_load_l1b (nI s) (nI f) _ (nI M) m2 = _
            unfold f_X7_load_l1b f_X7_load_j2
            rw [if_pos ib, is, hP.2.1 91 (by omega), o1 91 (by omega), ez]
            by_cases hzM : z ≤ M
            · rw [if_pos (nI_le hzM (by omega))]
            · rw [if_neg (nI_ge (by omega) (by omega)), nI_add, if_pos ((nI_ge_lit (n := 31) 31 (by decide) (by omega)).mpr (by omega))]
          · have xe : m2 92 (40 * s + i) = x i := by rw [hP.2.1 _ (by omega), o1 _ (by omega), hx, nm i (by omega)]
            have e : f_X7_load_l1 (nI s) (nI f) (f' + 1) (nI i) m2 = if f_X6_within (x i) (-9) 9 = 0 then some (nI i, m2) else f_X7_load_l1 (nI s) (nI f) f' (nI (i + 1)) (up m2 83 (5 + f + i) (x i)) := by
              show f_X7_load_l1b (nI s) (nI f) _ (nI i) m2 = _
              unfold f_X7_load_l1b f_X7_load_j2
              rw [if_pos ib, is, hP.2.1 91 (by omega), o1 91 (by omega), ez, if_neg (nI_ge (show i < z by omega) (by omega)), nI_add, if_neg (by rw [nI_ge_lit (n := 31) 31 (by decide) (by omega)]; omega), lit_mul40, nI_add, if_pos (inb_nI (show 40 * s + i < 160 by omega) (by decide)), ix_nI (show 40 * s + i < 2 ^ 31 by omega), xe, in_m9_9, if_pos (inb_nI (show 40 * s + i < 160 by omega) (by decide)), lit_add 5 (k := 5) rfl, nI_add, if_pos (inb_nI (show 5 + f + i < 167 by omega) (by decide)), ix_nI (by omega), bnd_eq, bnd_eq, nI_1]
            by_cases hw : wi (x i) (-9) 9
            · refine Or.inr ⟨up m2 83 (5 + f + i) (x i), ?_, fun j hj => ?_, fun a ha => by rw [up_row ha]; exact hP.2.1 a ha, fun j hj => ?_, fun k hk => by rw [up_ne (by omega)]; exact hP.2.2.2 k (by omega)⟩
              · show f_X7_load_l1 (nI s) (nI f) (f' + 1) (nI i) m2 = _
                rw [e, within_1 hw, if_neg i10]
              · by_cases e : j = i
                · subst e; exact hw
                · exact hP.1 j (by omega)
              · by_cases e : j = i
                · subst e; rw [up_same]
                · rw [up_ne (by omega)]; exact hP.2.2.1 j (by omega)
            · refine Or.inl ⟨(nI i, m2), ?_, i, m2, rfl, ⟨by omega, hP.1, Or.inr hw⟩, hP.2⟩
              show f_X7_load_l1 (nI s) (nI f) (f' + 1) (nI i) m2 = _
              rw [e, within_0 hw, if_pos rfl]
        obtain ⟨c, e2, n2, m2, rfl, l2, r1, r2, r3⟩ := eR
        have := ldn_one l1 l2
        subst this
        refine ⟨nI n, m, m2, ?_, ?_, ?_⟩
        · unfold f_X6_load f_X6_isSheet f_X6_isCell
          rw [within_1 h1, within_1 h3, zb_1, if_neg i10, if_pos ib, is, miss_0 (by rw [b1]; exact h2), if_pos rfl, if_neg i10, if_pos ib, z1, ez, bnd_eq, eM, e1]
        · unfold f_X7_load f_X7_isCell
          rw [wrong_n hs h1 (by rw [o1 90 (by omega)]; exact h2), Option.bind_some, if_pos rfl, in_0_30, within_1 h3, zb_1, if_neg i10, e2]
        · refine hI.town (fun a h5 h6 => by rw [r1 a h6, o1 a (by omega)]) ⟨setFs V f n x, ?_, ?_, ?_⟩
          · obtain ⟨w1, w2, w3, w4, w5⟩ := v1
            have r : ∀ a, a ≠ 2 → a ≠ 83 → m2 a = im a := fun a ha hb => by rw [r1 a hb, o1 a ha]
            refine ⟨fun c hc => ?_, fun c hc => by rw [r _ (by omega) (by omega)]; exact w2 c hc, fun t ht w hw => by have ht : t < vN V := ht; have := v3.1; rw [r _ (by omega) (by omega)]; exact w3 t ht w hw, fun k hk => by rw [r _ (by omega) (by omega)]; exact w4 k hk, by rw [r _ (by omega) (by omega)]; exact w5⟩
            show m2 2 c = _
            rw [r1 2 (by decide), setFs_F]
            by_cases h : f ≤ c ∧ c < f + n
            · rw [if_pos h, ← o2 (c - f) (by omega), show f + (c - f) = c by omega]
            · rw [if_neg h, o3 c (by omega)]; exact w1 c hc
          · obtain ⟨w1, w2, w3, w4, w5, w6, w7, w8, w9⟩ := v2
            have hb := l1.1
            have r : ∀ k, (k < 5 + f ∨ 5 + f + n ≤ k) → m2 83 k = im 83 k := fun k hk => by rw [r3 k hk, o1 83 (by decide)]
            refine ⟨fun c hc => ?_, fun c hc => by rw [r _ (by omega)]; exact w2 c hc, fun t ht w hw => by have ht : t < vN V := ht; rw [r _ (by omega)]; exact w3 t ht w hw, fun k hk => by rw [r _ (by omega)]; exact w4 k hk, by rw [r _ (by omega)]; exact w5, by rw [r _ (by omega)]; exact w6, by rw [r _ (by omega)]; exact w7, by rw [r _ (by omega)]; exact w8, by rw [r _ (by omega)]; exact w9⟩
            rw [setFs_F]
            by_cases h : f ≤ c ∧ c < f + n
            · rw [if_pos h, ← r2 (c - f) (by omega), show 5 + f + (c - f) = 5 + c by omega]
            · rw [if_neg h, r _ (by omega)]; exact w1 c hc
          · obtain ⟨w1, w2, w3⟩ := v3
            refine ⟨w1, fun c hc => ?_, w3⟩
            rw [setFs_F]
            by_cases h : f ≤ c ∧ c < f + n
            · rw [if_pos h]; exact l1.2.1 _ (by omega)
            · rw [if_neg h]; exact w2 c hc
      · refine bref1 hI ?_ (fun m hm => ?_)
        · unfold f_X6_load f_X6_isSheet f_X6_isCell
          rw [within_1 h1, within_0 h3, zb_1, zb_0, if_neg i10, if_pos ib, is, miss_0 (by rw [b1]; exact h2), if_pos rfl, if_pos rfl, refuse_1, Option.bind_some]
        · unfold f_X7_load f_X7_isCell
          rw [wrong_n hs h1 (by rw [hm, up_row (by decide)]; exact h2), Option.bind_some, if_pos rfl, in_0_30, within_0 h3, zb_0, if_pos rfl, finds_1, Option.bind_some]
  · refine bref1 hI ?_ (fun m hm => ?_)
    · unfold f_X6_load f_X6_isSheet
      rw [within_0 h1, zb_0, if_pos rfl, refuse_1, Option.bind_some]
    · unfold f_X7_load
      rw [wrong_b h1, Option.bind_some, if_neg n1_0, finds_1, Option.bind_some]
