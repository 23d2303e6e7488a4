/-! sets of things -/
theorem bt_nI {s t : Nat} (h : s < 2 ^ 32) : bt (nI s) t = s.testBit t := by
  unfold bt
  rw [← BitVec.testBit_toNat, pk_tn h]
def wS (w : Nat → Nat) (s : Nat) : Nat → Nat
  | 0 => 0
  | k + 1 => wS w s k + (if s.testBit k = true then w k else 0)
theorem wS_hi {w : Nat → Nat} {s i : Nat} (h : s < 2 ^ i) : wS w s (i + 1) = wS w s i := by
  show wS w s i + (if s.testBit i = true then w i else 0) = _
  rw [Nat.testBit_lt_two_pow h, if_neg (by decide), Nat.add_zero]
theorem wS_lo {w : Nat → Nat} {s i : Nat} : ∀ k, k ≤ i → wS w (2 ^ i + s) k = wS w s k
  | 0, _ => rfl
  | k + 1, h => by
    show wS w (2 ^ i + s) k + (if (2 ^ i + s).testBit k = true then w k else 0) = wS w s k + (if s.testBit k = true then w k else 0)
    rw [wS_lo k (by omega), Nat.testBit_two_pow_add_gt (by omega)]
theorem wS_up {w : Nat → Nat} {s i : Nat} (h : s < 2 ^ i) : wS w (2 ^ i + s) (i + 1) = wS w s i + w i := by
  show wS w (2 ^ i + s) i + (if (2 ^ i + s).testBit i = true then w i else 0) = _
  rw [wS_lo i (Nat.le_refl _), Nat.testBit_two_pow_add_eq, Nat.testBit_lt_two_pow h, if_pos (by decide)]
theorem wS_le {w : Nat → Nat} {s : Nat} : ∀ {k : Nat}, (∀ t, t < k → w t ≤ 99) → wS w s k ≤ 99 * k
  | 0, _ => Nat.zero_le _
  | k + 1, h => by
    have h1 := wS_le (s := s) (k := k) (fun t ht => h t (by omega))
    have h2 := h k (by omega)
    show wS w s k + (if s.testBit k = true then w k else 0) ≤ _
    by_cases c : s.testBit k = true
    · rw [if_pos c]; omega
    · rw [if_neg c]; omega
theorem shl_p : ∀ i, i < 11 → jshl 1 (nI i) = nI (2 ^ i) := by decide +kernel
theorem or_p : ∀ i, i < 10 → ∀ l, l < 2 ^ i → nI (2 ^ i) ||| nI l = nI (2 ^ i + l) := by decide +kernel
theorem p2_10 : ∀ i, i < 11 → 2 ^ i ≤ 1024 := by decide +kernel
theorem p2_9 : ∀ i, i < 10 → 2 ^ i ≤ 512 := by decide +kernel
theorem weigh_c {im : IM} {V : TV} (v : RC im 1 V) (ok : OkL V) : ∃ m, f_X0_weighAllSets 1 im = some m ∧ ((∀ a, a ≠ 64 → m a = im a) ∧ ∀ s, s < 2 ^ vN V → m 64 s = nI (wS (wN V) s (vN V))) := by
  have h10 := ok.1
  unfold f_X0_weighAllSets
  rw [bnd_eq]
  refine loopG (fun f m i => f_X0_weighAllSets_l1 1 f i m) some 0 0 rfl (vN V) (by omega) (by omega) (fun i m => (∀ a, a ≠ 64 → m a = im a) ∧ ∀ s, s < 2 ^ i → m 64 s = nI (wS (wN V) s i)) _ (fun f m hP => ⟨m, ?_, hP⟩) (fun f m i hi0 hi hP => Or.inr ?_) (up im 64 0 0) ⟨fun a ha => up_row ha, fun s hs => ?_⟩
  · show f_X0_weighAllSets_l1b 1 _ (nI (vN V)) m = _
    unfold f_X0_weighAllSets_l1b
    rw [hP.1 1 (by decide), v.2.2.2.2.1, if_pos (Int32.le_refl _)]
  · have hp := p2_9 i (by omega)
    obtain ⟨w1, -⟩ := wN_e (ok.2.2.2.1 i hi)
    have inner : ∃ m', f_X0_weighAllSets_l2 1 (f_X0_weighAllSets_l1 1 f) xF (nI i) (nI (2 ^ i)) 0 m = f_X0_weighAllSets_l1 1 f (nI (i + 1)) m' ∧ ((∀ a, a ≠ 64 → m' a = im a) ∧ (∀ s, s < 2 ^ i → m' 64 s = nI (wS (wN V) s i)) ∧ ∀ s, s < 2 ^ i → m' 64 (2 ^ i + s) = nI (wS (wN V) (2 ^ i + s) (i + 1))) := by
      refine loopG (fun h m l => f_X0_weighAllSets_l2 1 (f_X0_weighAllSets_l1 1 f) h (nI i) (nI (2 ^ i)) l m) (fun m' : IM => f_X0_weighAllSets_l1 1 f (nI (i + 1)) m') 0 0 rfl (2 ^ i) (by omega) (Nat.zero_le _) (fun l m => (∀ a, a ≠ 64 → m a = im a) ∧ (∀ s, s < 2 ^ i → m 64 s = nI (wS (wN V) s i)) ∧ ∀ s, s < l → m 64 (2 ^ i + s) = nI (wS (wN V) (2 ^ i + s) (i + 1))) _ (fun h m hP => ⟨m, ?_, hP⟩) (fun h m l hl0 hl hP => Or.inr ?_) m ⟨hP.1, hP.2, fun s hs => absurd hs (Nat.not_lt_zero _)⟩
      · show f_X0_weighAllSets_l2b 1 _ _ (nI i) (nI (2 ^ i)) (nI (2 ^ i)) m = _
        unfold f_X0_weighAllSets_l2b
        rw [if_pos (Int32.le_refl _), bnd_eq, nI_1]
      · obtain ⟨p1, p2, p3⟩ := hP
        refine ⟨up m 64 (2 ^ i + l) (nI (wS (wN V) (2 ^ i + l) (i + 1))), ?_, fun a ha => by rw [up_row ha]; exact p1 a ha, fun s hs => by rw [up_ne (by omega)]; exact p2 s hs, fun s hs => ?_⟩
        · show f_X0_weighAllSets_l2b 1 _ _ (nI i) (nI (2 ^ i)) (nI l) m = _
          unfold f_X0_weighAllSets_l2b
          rw [if_neg (nI_ge hl (by omega)), if_pos (inb_nI (show l < 1024 by omega) (by decide)), if_pos (inb_nI (show i < 10 by omega) (by decide)), or_p i (by omega) l hl, if_pos (inb_nI (show 2 ^ i + l < 1024 by omega) (by decide)), ix_nI (show 2 ^ i + l < 2 ^ 31 by omega), ix_nI (show l < 2 ^ 31 by omega), ix_nI (show i < 2 ^ 31 by omega), p2 l hl, p1 (1 + 5 + i) (by omega), v.2.2.1 i hi 1 (by decide), w1, nI_add, ← wS_up hl, bnd_eq, bnd_eq, nI_1]
        · by_cases e : s = l
          · subst e; rw [up_same]
          · rw [up_ne (by omega)]; exact p3 s (by omega)
    obtain ⟨m', e, q1, q2, q3⟩ := inner
    refine ⟨m', ?_, q1, fun s hs => ?_⟩
    · show f_X0_weighAllSets_l1b 1 _ (nI i) m = _
      unfold f_X0_weighAllSets_l1b
      rw [hP.1 1 (by decide), v.2.2.2.2.1, if_neg (nI_ge hi (by omega)), bnd_eq, shl_p i (by omega), e]
    · by_cases c : s < 2 ^ i
      · rw [q2 s c, wS_hi c]
      · have hs2 : s < 2 ^ i * 2 := by rw [← Nat.pow_succ]; exact hs
        have e := q3 (s - 2 ^ i) (by omega)
        rw [show 2 ^ i + (s - 2 ^ i) = s by omega] at e
        exact e
  · have : s = 0 := by
      have : s < 2 ^ 0 := hs
      simp at this
      exact this
    subst this
    rw [up_same]
    rfl
theorem weighs_r {im : IM} {V : TV} {s : Nat} (v : RR im 83 V) (ok : OkL V) (hs : s < 2 ^ 31) : f_X7_weighs (nI s) im = some (nI (wS (wN V) s (vN V))) := by
  have h10 := ok.1
  unfold f_X7_weighs
  have key1 : ∃ u : Unit, f_X7_weighs_l1 (nI s) im xF 0 0 = some (nI (wS (wN V) s (vN V))) ∧ True := by
    refine loopG (fun f x i => f_X7_weighs_l1 (nI s) im f x i) (fun _ : Unit => some (nI (wS (wN V) s (vN V)))) 0 0 rfl (vN V) (by omega) (by omega) (fun i x => x = nI (wS (wN V) s i)) _ (fun f x hP => ⟨(), ?_, trivial⟩) (fun f x i hi0 hi hP => Or.inr ⟨nI (wS (wN V) s (i + 1)), ?_, rfl⟩) 0 rfl
    · show f_X7_weighs_l1b (nI s) im _ x (nI (vN V)) = _
      unfold f_X7_weighs_l1b
      rw [v.2.2.2.2.1, if_pos (Int32.le_refl _), hP]
    · obtain ⟨w1, -⟩ := wN_e (ok.2.2.2.1 i hi)
      show f_X7_weighs_l1b (nI s) im _ x (nI i) = f_X7_weighs_l1 (nI s) im f (nI (wS (wN V) s i + (if s.testBit i = true then wN V i else 0))) (nI (i + 1))
      unfold f_X7_weighs_l1b f_X7_weighs_j2
      rw [v.2.2.2.2.1, if_neg (nI_ge hi (by omega)), has_r (by omega), bt_nI (by omega), its_w (w := 1) 1 rfl (by omega) (by decide), Option.bind_some, v.2.2.1 i hi 1 (by decide), w1, hP]
      simp only [bnd_eq, nI_1]
      by_cases c : s.testBit i = true
      · rw [if_pos c, if_pos c, if_neg i10, nI_add]
      · rw [if_neg c, if_neg c, if_pos rfl, Int32.add_zero]
        rfl
  obtain ⟨-, e, -⟩ := key1
  exact e
/-! how far a packing is off -/
def dAb (a b : Nat) : Nat := (a - b) + (b - a)
theorem jabs_n {a b : Nat} (ha : a < 2 ^ 30) (hb : b < 2 ^ 30) : jabs (nI a - nI b) = nI (dAb a b) := by
  unfold jabs dAb
  by_cases c : b ≤ a
  · rw [pk_sub c, if_pos (nI_pos' (by omega)), show a - b + (b - a) = a - b by omega]
  · have n : ¬ 0 ≤ nI a - nI b := Int32.not_le.mpr (pk_sneg hb (by omega))
    rw [if_neg n, show a - b + (b - a) = b - a by omega, ← pk_sub (show a ≤ b by omega), Int32.zero_sub, Int32.neg_sub]
theorem dAb_c (a b : Nat) : dAb a b = dAb b a := by unfold dAb; omega
def dOf (V : TV) (S l : Nat) : Nat := dAb (wS (wN V) S (vN V)) (2 * wS (wN V) l (vN V))
theorem two_n (a : Nat) : (2 : Int32) * nI a = nI (2 * a) := by rw [show (2 : Int32) = nI 2 from rfl, pk_mul]
theorem diff_c {m : IM} {V : TV} {S l : Nat} (ok : OkL V) (h : ∀ s, s < 2 ^ vN V → m 64 s = nI (wS (wN V) s (vN V))) (hS : S < 2 ^ vN V) (hl : l < 2 ^ vN V) : f_X0_difference (nI S) (nI l) m = some (nI (dOf V S l)) := by
  have h10 := ok.1
  have hp := p2_10 (vN V) (by omega)
  have b1 : wS (wN V) S (vN V) ≤ 99 * vN V := wS_le (fun t ht => (wN_e (ok.2.2.2.1 t ht)).2.2)
  have b2 : wS (wN V) l (vN V) ≤ 99 * vN V := wS_le (fun t ht => (wN_e (ok.2.2.2.1 t ht)).2.2)
  unfold f_X0_difference
  rw [if_pos (inb_nI (show S < 1024 by omega) (by decide)), if_pos (inb_nI (show l < 1024 by omega) (by decide)), ix_nI (by omega), ix_nI (by omega), h S hS, h l hl, two_n, jabs_n (by omega) (by omega)]
  rfl
theorem off_r {m : IM} {V : TV} {S l : Nat} (v : RR m 83 V) (ok : OkL V) (hS : S < 2 ^ 31) (hl : l < 2 ^ 31) : f_X7_offBy (nI l) (nI S) m = some (nI (dOf V S l)) := by
  have h10 := ok.1
  have b1 : wS (wN V) S (vN V) ≤ 99 * vN V := wS_le (fun t ht => (wN_e (ok.2.2.2.1 t ht)).2.2)
  have b2 : wS (wN V) l (vN V) ≤ 99 * vN V := wS_le (fun t ht => (wN_e (ok.2.2.2.1 t ht)).2.2)
  unfold f_X7_offBy
  rw [weighs_r v ok hl, Option.bind_some, weighs_r v ok hS, Option.bind_some, bnd_eq, two_n]
  have e := jabs_n (a := 2 * wS (wN V) l (vN V)) (b := wS (wN V) S (vN V)) (by omega) (by omega)
  unfold jabs at e
  unfold dOf
  rw [dAb_c, ← e]
  by_cases c : (0 : Int32) ≤ nI (2 * wS (wN V) l (vN V)) - nI (wS (wN V) S (vN V))
  · rw [if_pos c, if_pos c]
  · rw [if_neg c, if_neg c]
/-! the part that is looked for -/
def vd (S L : Int32) (l : Nat) : Prop := (nI l &&& (S ^^^ (-1))) = 0 ∧ ¬ (nI l &&& L) = 0
theorem low_S : ∀ S, S < 1024 → 1 ≤ S → ∃ b, b < 10 ∧ (nI S &&& (-(nI S))) = nI (2 ^ b) ∧ 2 ^ b ≤ S ∧ ¬ (nI S &&& nI (2 ^ b)) = 0 ∧ (nI S &&& (nI S ^^^ (-1))) = 0 := by decide +kernel
theorem low_l : ∀ b, b < 10 → ∀ l, l < 2 ^ b → (nI l &&& nI (2 ^ b)) = 0 := by decide +kernel
def isB (V : TV) (S : Nat) (L : Int32) (b : Nat) : Prop := b ≤ S ∧ vd (nI S) L b ∧ ∀ l, l ≤ S → vd (nI S) L l → dOf V S b < dOf V S l ∨ (dOf V S b = dOf V S l ∧ b ≤ l)
theorem isB_u {V : TV} {S a b : Nat} {L : Int32} (ha : isB V S L a) (hb : isB V S L b) : a = b := by
  have h1 := ha.2.2 b hb.1 hb.2.1
  have h2 := hb.2.2 a ha.1 ha.2.1
  omega
theorem dOf_le {V : TV} {S l : Nat} (ok : OkL V) : dOf V S l ≤ 3000 := by
  have h10 := ok.1
  have b1 : wS (wN V) S (vN V) ≤ 99 * vN V := wS_le (fun t ht => (wN_e (ok.2.2.2.1 t ht)).2.2)
  have b2 : wS (wN V) l (vN V) ≤ 99 * vN V := wS_le (fun t ht => (wN_e (ok.2.2.2.1 t ht)).2.2)
  unfold dOf dAb
  omega
theorem left_c {im : IM} {V : TV} {S : Nat} (v : RC im 1 V) (ok : OkL V) (h1 : 1 ≤ S) (hS : S < 2 ^ vN V) : ∃ c : Nat × IM, f_X0_leftSide 1 (nI S) im = some (nI c.1, c.2) ∧ ((∀ a, a ≠ 64 → c.2 a = im a) ∧ (∀ s, s < 2 ^ vN V → c.2 64 s = nI (wS (wN V) s (vN V))) ∧ isB V S (nI S &&& (-(nI S))) c.1) := by
  have h10 := ok.1
  have hp := p2_10 (vN V) (by omega)
  obtain ⟨m, e, o, q⟩ := weigh_c v ok
  obtain ⟨b, hb, eL, hbS, n0, z0⟩ := low_S S (by omega) h1
  have hpb := p2_9 b hb
  unfold f_X0_leftSide
  rw [e, Option.bind_some, bnd_eq, eL]
  refine loopD (fun f (s : Int32) i => f_X0_leftSide_l1 1 (nI S) f (nI (2 ^ b)) s i m) (fun c : Nat × IM => some (nI c.1, c.2)) S (by omega) (fun i s => ∃ k, s = nI k ∧ k ≤ S ∧ vd (nI S) (nI (2 ^ b)) k ∧ ∀ l, i < l → l ≤ S → vd (nI S) (nI (2 ^ b)) l → dOf V S k < dOf V S l ∨ (dOf V S k = dOf V S l ∧ k ≤ l)) _ (fun f s hP => ?_) (fun f s i hi hP => ?_) (nI S) ⟨S, rfl, Nat.le_refl _, ⟨z0, n0⟩, fun l g1 g2 => absurd g1 (by omega)⟩
  · obtain ⟨k, rfl, p1, p2, p3⟩ := hP
    refine ⟨(k, m), ?_, o, q, p1, p2, fun l g1 g2 => ?_⟩
    · show f_X0_leftSide_l1b 1 (nI S) _ (nI (2 ^ b)) (nI k) (nI 0) m = _
      unfold f_X0_leftSide_l1b
      rw [if_pos (nI_lt (Nat.two_pow_pos b) (by omega))]
    · by_cases z : l = 0
      · subst z
        exact absurd (low_l b hb 0 (Nat.two_pow_pos b)) g2.2
      · exact p3 l (by omega) g1 g2
  · obtain ⟨k, rfl, p1, p2, p3⟩ := hP
    by_cases c0 : i + 1 < 2 ^ b
    · refine Or.inl ⟨(k, m), ?_, o, q, p1, p2, fun l g1 g2 => ?_⟩
      · show f_X0_leftSide_l1b 1 (nI S) _ (nI (2 ^ b)) (nI k) (nI (i + 1)) m = _
        unfold f_X0_leftSide_l1b
        rw [if_pos (nI_lt c0 (by omega))]
      · by_cases z : l < 2 ^ b
        · exact absurd (low_l b hb l z) g2.2
        · exact p3 l (by omega) g1 g2
    · have d1 := diff_c (l := i + 1) ok q hS (by omega)
      have d2 := diff_c (l := k) ok q hS (by omega)
      have skip : ¬ vd (nI S) (nI (2 ^ b)) (i + 1) → f_X0_leftSide_l1 1 (nI S) (f + 1) (nI (2 ^ b)) (nI k) (nI (i + 1)) m = f_X0_leftSide_l1 1 (nI S) f (nI (2 ^ b)) (nI k) (nI i) m := by
        intro c
        show f_X0_leftSide_l1b 1 (nI S) _ (nI (2 ^ b)) (nI k) (nI (i + 1)) m = _
        unfold f_X0_leftSide_l1b f_X0_leftSide_j2 f_X0_leftSide_j3 f_X0_leftSide_j4
        rw [if_neg (nI_nlt (by omega) (by omega))]
        simp only [bnd_eq, pk_m1]
        by_cases c1 : (nI (i + 1) &&& (nI S ^^^ (-1))) = 0
        · rw [if_pos c1]
          by_cases c2 : (nI (i + 1) &&& nI (2 ^ b)) = 0
          · rw [if_pos c2, if_pos trivial]
          · exact absurd ⟨c1, c2⟩ c
        · rw [if_neg c1, if_pos trivial]
      by_cases c : vd (nI S) (nI (2 ^ b)) (i + 1)
      · have e0 : f_X0_leftSide_l1 1 (nI S) (f + 1) (nI (2 ^ b)) (nI k) (nI (i + 1)) m = if nI (dOf V S k) < nI (dOf V S (i + 1)) then f_X0_leftSide_l1 1 (nI S) f (nI (2 ^ b)) (nI k) (nI i) m else f_X0_leftSide_l1 1 (nI S) f (nI (2 ^ b)) (nI (i + 1)) (nI i) m := by
          show f_X0_leftSide_l1b 1 (nI S) _ (nI (2 ^ b)) (nI k) (nI (i + 1)) m = _
          unfold f_X0_leftSide_l1b f_X0_leftSide_j3 f_X0_leftSide_j4
          rw [if_neg (nI_nlt (by omega) (by omega)), if_pos c.1, if_neg c.2, if_neg i10, d1, Option.bind_some, d2, Option.bind_some]
          simp only [bnd_eq, pk_m1]
        have k3 := dOf_le (S := S) (l := k) ok
        have i3 := dOf_le (S := S) (l := i + 1) ok
        by_cases c2 : dOf V S k < dOf V S (i + 1)
        · rw [if_pos (nI_lt c2 (by omega))] at e0
          refine Or.inr ⟨nI k, e0, k, rfl, p1, p2, fun l g1 g2 g3 => ?_⟩
          by_cases z : l = i + 1
          · subst z; exact Or.inl c2
          · exact p3 l (by omega) g2 g3
        · rw [if_neg (nI_nlt (by omega) (by omega))] at e0
          refine Or.inr ⟨nI (i + 1), e0, i + 1, rfl, by omega, c, fun l g1 g2 g3 => ?_⟩
          by_cases z : l = i + 1
          · subst z; exact Or.inr ⟨rfl, Nat.le_refl _⟩
          · have := p3 l (by omega) g2 g3
            omega
      · refine Or.inr ⟨nI k, skip c, k, rfl, p1, p2, fun l g1 g2 g3 => ?_⟩
        by_cases z : l = i + 1
        · subst z; exact absurd g3 c
        · exact p3 l (by omega) g2 g3
theorem packed_r {m : IM} {V : TV} {S : Nat} (v : RR m 83 V) (ok : OkL V) (h1 : 1 ≤ S) (hS : S < 2 ^ vN V) : ∃ b : Nat, f_X7_packed (nI S) m = some (nI b) ∧ isB V S (nI S &&& (-(nI S))) b := by
  have h10 := ok.1
  have hp := p2_10 (vN V) (by omega)
  obtain ⟨b, hb, eL, hbS, n0, z0⟩ := low_S S (by omega) h1
  have hpb := p2_9 b hb
  unfold f_X7_packed
  rw [bnd_eq, Int32.zero_sub, eL]
  refine loopG (fun f (s : Int32) i => f_X7_packed_l1 (nI S) m f (nI (2 ^ b)) s i) (fun c : Nat => some (nI c)) 1 1 rfl S (by omega) h1 (fun i s => ∃ k, s = nI k ∧ k ≤ S ∧ vd (nI S) (nI (2 ^ b)) k ∧ ∀ l, (l < i ∨ l = S) → l ≤ S → vd (nI S) (nI (2 ^ b)) l → dOf V S k < dOf V S l ∨ (dOf V S k = dOf V S l ∧ k ≤ l)) _ (fun f s hP => ?_) (fun f s i hi0 hi hP => Or.inr ?_) (nI S) ⟨S, rfl, Nat.le_refl _, ⟨z0, n0⟩, fun l g1 g2 g3 => ?_⟩
  · obtain ⟨k, rfl, p1, p2, p3⟩ := hP
    refine ⟨k, ?_, p1, p2, fun l g1 g2 => p3 l (by omega) g1 g2⟩
    show f_X7_packed_l1b (nI S) m _ (nI (2 ^ b)) (nI k) (nI S) = _
    unfold f_X7_packed_l1b
    rw [if_pos (Int32.le_refl _)]
  · obtain ⟨k, rfl, p1, p2, p3⟩ := hP
    have d1 := off_r (S := S) (l := i) v ok (by omega) (by omega)
    have d2 := off_r (S := S) (l := k) v ok (by omega) (by omega)
    have k3 := dOf_le (S := S) (l := k) ok
    have i3 := dOf_le (S := S) (l := i) ok
    have nS := nI_ge hi (show S < 2 ^ 31 by omega)
    by_cases c : vd (nI S) (nI (2 ^ b)) i
    · have e0 : f_X7_packed_l1 (nI S) m (f + 1) (nI (2 ^ b)) (nI k) (nI i) = if dOf V S i < dOf V S k ∨ (dOf V S i = dOf V S k ∧ i < k) then f_X7_packed_l1 (nI S) m f (nI (2 ^ b)) (nI i) (nI (i + 1)) else f_X7_packed_l1 (nI S) m f (nI (2 ^ b)) (nI k) (nI (i + 1)) := by
        show f_X7_packed_l1b (nI S) m _ (nI (2 ^ b)) (nI k) (nI i) = _
        unfold f_X7_packed_l1b f_X7_packed_j3 f_X7_packed_j4 f_X7_packed_j6 f_X7_packed_j5
        rw [if_neg nS, if_pos c.1, if_neg c.2, d2, Option.bind_some, if_neg i10, d1, Option.bind_some, Option.bind_some]
        simp only [bnd_eq, nI_1]
        by_cases c1 : dOf V S i < dOf V S k
        · rw [if_pos (nI_lt c1 (by omega)), if_pos (Or.inl c1)]
        · rw [if_neg (nI_nlt (by omega) (by omega))]
          by_cases c2 : dOf V S i = dOf V S k
          · rw [if_pos (by rw [c2])]
            by_cases c3 : i < k
            · rw [if_neg (nI_ge c3 (by omega)), if_pos (Or.inr ⟨c2, c3⟩)]
            · rw [if_pos (nI_le (by omega) (by omega)), if_neg (by omega)]
          · rw [if_neg (fun z => c2 (nI_u (by omega) (by omega) z)), if_neg (by omega)]
      by_cases c2 : dOf V S i < dOf V S k ∨ (dOf V S i = dOf V S k ∧ i < k)
      · rw [if_pos c2] at e0
        refine ⟨nI i, e0, i, rfl, by omega, c, fun l g1 g2 g3 => ?_⟩
        by_cases z : l = i
        · subst z; exact Or.inr ⟨rfl, Nat.le_refl _⟩
        · have := p3 l (by omega) g2 g3
          omega
      · rw [if_neg c2] at e0
        refine ⟨nI k, e0, k, rfl, p1, p2, fun l g1 g2 g3 => ?_⟩
        by_cases z : l = i
        · subst z; omega
        · exact p3 l (by omega) g2 g3
    · refine ⟨nI k, ?_, k, rfl, p1, p2, fun l g1 g2 g3 => ?_⟩
      · show f_X7_packed_l1b (nI S) m _ (nI (2 ^ b)) (nI k) (nI i) = _
        unfold f_X7_packed_l1b f_X7_packed_j2 f_X7_packed_j3 f_X7_packed_j4 f_X7_packed_j5
        rw [if_neg nS, d2, Option.bind_some]
        simp only [bnd_eq, nI_1]
        by_cases c1 : (nI i &&& (nI S ^^^ (-1))) = 0
        · rw [if_pos c1]
          by_cases c2 : (nI i &&& nI (2 ^ b)) = 0
          · rw [if_pos c2, if_pos trivial]
          · exact absurd ⟨c1, c2⟩ c
        · rw [if_neg c1, if_pos trivial]
      · by_cases z : l = i
        · subst z; exact absurd g3 c
        · exact p3 l (by omega) g2 g3
  · have : l = S := by
      rcases g1 with z | z
      · have : l = 0 := by omega
        subst this
        exact absurd (low_l b hb 0 (Nat.two_pow_pos b)) g3.2
      · exact z
    subst this
    exact Or.inr ⟨rfl, Nat.le_refl _⟩
theorem set_top : ∀ n, n < 11 → jshl 1 (nI n) - 1 = nI (2 ^ n - 1) := by decide +kernel
theorem set_wi {a : Int32} {n : Nat} (hn : n < 11) : wi a 1 (nI (2 ^ n - 1)) ↔ ∃ S, 1 ≤ S ∧ S < 2 ^ n ∧ a = nI S := by
  have hp := p2_10 n hn
  have h0 := Nat.two_pow_pos n
  constructor
  · rintro ⟨h1, h2⟩
    obtain ⟨S, hS, e⟩ := nI_of2 (nI_toInt (show 2 ^ n - 1 < 2 ^ 31 by omega)) (Int32.not_lt.mpr (Int32.le_trans (by decide) h1)) h2
    rw [e, nI_ge_lit (n := 1) 1 (by decide) (by omega)] at h1
    exact ⟨S, h1, by omega, e⟩
  · rintro ⟨S, h1, h2, rfl⟩
    exact ⟨(nI_ge_lit (n := 1) 1 (by decide) (by omega)).mpr h1, nI_le (by omega) (by omega)⟩
theorem set_1 {im : IM} {V : TV} {S : Nat} (v : RC im 1 V) (h10 : vN V ≤ 10) (h1 : 1 ≤ S) (h2 : S < 2 ^ vN V) : f_X6_isSetOfThings (nI S) im = 1 := by
  unfold f_X6_isSetOfThings
  rw [v.2.2.2.2.1, set_top _ (by omega), within_1 ((set_wi (by omega)).mpr ⟨S, h1, h2, rfl⟩), zb_1]
theorem set_0 {im : IM} {V : TV} {a : Int32} (v : RC im 1 V) (h10 : vN V ≤ 10) (h : ¬ ∃ S, 1 ≤ S ∧ S < 2 ^ vN V ∧ a = nI S) : f_X6_isSetOfThings a im = 0 := by
  unfold f_X6_isSetOfThings
  rw [v.2.2.2.2.1, set_top _ (by omega), within_0 (fun z => h ((set_wi (by omega)).mp z)), zb_0]
theorem set7_1 {im : IM} {V : TV} {S : Nat} (v : RR im 83 V) (h10 : vN V ≤ 10) (h1 : 1 ≤ S) (h2 : S < 2 ^ vN V) : f_X7_isSet (nI S) im = 1 := by
  unfold f_X7_isSet
  rw [v.2.2.2.2.1, set_top _ (by omega), in_lit (b := 1) (by decide) rfl, within_1 ((set_wi (by omega)).mpr ⟨S, h1, h2, rfl⟩), zb_1]
theorem set7_0 {im : IM} {V : TV} {a : Int32} (v : RR im 83 V) (h10 : vN V ≤ 10) (h : ¬ ∃ S, 1 ≤ S ∧ S < 2 ^ vN V ∧ a = nI S) : f_X7_isSet a im = 0 := by
  unfold f_X7_isSet
  rw [v.2.2.2.2.1, set_top _ (by omega), in_lit (b := 1) (by decide) rfl, within_0 (fun z => h ((set_wi (by omega)).mp z)), zb_0]
theorem o64_agr {im m : IM} (o : ∀ a, a ≠ 64 → m a = im a) : agr im m := ⟨fun a g1 g2 g3 g4 => o a (fun z => g1 (by unfold scr; omega)), by rw [o 0 (by decide)], by rw [o 66 (by decide)], by rw [o 82 (by decide)], by rw [o 82 (by decide)]⟩
theorem lp_pack : LP_pack Inv := by
  intro im hI a1
  obtain ⟨⟨V, v1, v2, v3⟩, -⟩ := id hI
  have h10 := v3.1
  have ok := v3.l
  by_cases hs : ∃ S, 1 ≤ S ∧ S < 2 ^ vN V ∧ a1 = nI S
  · obtain ⟨S, h1, h2, rfl⟩ := hs
    obtain ⟨⟨b, m⟩, e, o, q, hB⟩ := left_c v1 ok h1 h2
    have e : f_X0_leftSide 1 (nI S) im = some (nI b, m) := e
    have o : ∀ a, a ≠ 64 → m a = im a := o
    have v2m : RR m 83 V := v2.cg (o 83 (by decide))
    obtain ⟨b', e2, hB'⟩ := packed_r v2m ok h1 h2
    have eb : b = b' := isB_u hB hB'
    refine ⟨nI b, m, m, ?_, ?_, hI.agr (o64_agr o)⟩
    · unfold f_X6_pack
      rw [set_1 v1 h10 h1 h2, if_neg i10, e, Option.bind_some]
    · unfold f_X7_pack
      rw [set7_1 v2m h10 h1 h2, if_neg i10, e2, Option.bind_some, eb]
  · refine bref1 hI ?_ (fun m hm => ?_)
    · unfold f_X6_pack
      rw [set_0 v1 h10 hs, if_pos rfl, refuse_1, Option.bind_some]
    · unfold f_X7_pack
      rw [set7_0 (v2.cg (by rw [hm, up_row (by decide)])) h10 hs, if_pos rfl, finds_1, Option.bind_some]
theorem lp_lean : LP_lean Inv := by
  intro im hI a1
  obtain ⟨⟨V, v1, v2, v3⟩, -⟩ := id hI
  have h10 := v3.1
  have ok := v3.l
  have hp := p2_10 (vN V) (by omega)
  by_cases hs : ∃ S, 1 ≤ S ∧ S < 2 ^ vN V ∧ a1 = nI S
  · obtain ⟨S, h1, h2, rfl⟩ := hs
    obtain ⟨⟨b, m⟩, e, o, q, hB⟩ := left_c v1 ok h1 h2
    have e : f_X0_leftSide 1 (nI S) im = some (nI b, m) := e
    have o : ∀ a, a ≠ 64 → m a = im a := o
    have q : ∀ s, s < 2 ^ vN V → m 64 s = nI (wS (wN V) s (vN V)) := q
    have hB : isB V S (nI S &&& (-(nI S))) b := hB
    have v2m : RR m 83 V := v2.cg (o 83 (by decide))
    obtain ⟨b', e2, hB'⟩ := packed_r v2m ok h1 h2
    have eb : b = b' := isB_u hB hB'
    have hbS := hB.1
    refine ⟨nI (dOf V S b), m, m, ?_, ?_, hI.agr (o64_agr o)⟩
    · unfold f_X6_lean
      rw [set_1 v1 h10 h1 h2, if_neg i10, e, Option.bind_some]
      show ((f_X0_difference (nI S) (nI b) m).bind fun r2 => some (r2, m)) = _
      rw [diff_c ok q h2 (by omega), Option.bind_some]
    · unfold f_X7_lean
      rw [set7_1 v2m h10 h1 h2, if_neg i10, e2, Option.bind_some, ← eb, off_r v2m ok (by omega) (by omega), Option.bind_some]
  · refine bref1 hI ?_ (fun m hm => ?_)
    · unfold f_X6_lean
      rw [set_0 v1 h10 hs, if_pos rfl, refuse_1, Option.bind_some]
    · unfold f_X7_lean
      rw [set7_0 (v2.cg (by rw [hm, up_row (by decide)])) h10 hs, if_pos rfl, finds_1, Option.bind_some]
