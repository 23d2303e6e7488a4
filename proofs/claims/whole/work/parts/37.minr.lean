/-! the reference: rows -/
def tr (im m : IM) (N : Nat) (W : RW) : Prop := (∀ a, a ≠ 82 → a ≠ 83 → m a = im a) ∧ (∀ k, k ≠ 5 → k ≠ 6 → m 82 k = im 82 k) ∧ (∀ k, (k < 67 ∨ 157 ≤ k) → m 83 k = im 83 k) ∧ ∀ t, t < N → ∀ w, w < 8 → m 83 (67 + 9 * t + w) = W t w
def bgR (m : IM) (i : Nat) (b : Nat → Bool) : Prop := ∀ t, t < i → m 83 (67 + 9 * t + 8) = if b t = true then 1 else 0
theorem tr_RR {im m : IM} {V : TV} {W : RW} (v : RR im 83 V) (h : tr im m (vN V) W) : RR m 83 (setW V W) := by
  obtain ⟨h1, h2, h3, h4, h5, h6, h7, h8, h9⟩ := v
  obtain ⟨-, -, g1, g2⟩ := h
  exact ⟨fun c hc => by rw [g1 _ (by omega)]; exact h1 c hc, fun c hc => by rw [g1 _ (by omega)]; exact h2 c hc, fun t ht w hw => g2 t ht w hw, fun k hk => by rw [g1 _ (by omega)]; exact h4 k hk, by rw [g1 _ (by omega)]; exact h5, by rw [g1 _ (by omega)]; exact h6, by rw [g1 _ (by omega)]; exact h7, by rw [g1 _ (by omega)]; exact h8, by rw [g1 _ (by omega)]; exact h9⟩
theorem tr_cg {im m : IM} {N : Nat} {W W' : RW} (h : tr im m N W) (hw : ∀ t, t < N → ∀ w, w < 8 → W t w = W' t w) : tr im m N W' := ⟨h.1, h.2.1, h.2.2.1, fun t ht w hw' => by rw [h.2.2.2 t ht w hw', hw t ht w hw']⟩
theorem tr_82 {im m : IM} {N : Nat} {W : RW} (h : tr im m N W) {k : Nat} {x : Int32} (hk : k = 5 ∨ k = 6) : tr im (up m 82 k x) N W := ⟨fun a h1 h2 => by rw [up_row h1]; exact h.1 a h1 h2, fun j h5 h6 => by rw [up_ne (by omega)]; exact h.2.1 j h5 h6, fun j hj => by rw [up_row (by decide)]; exact h.2.2.1 j hj, fun t ht w hw => by rw [up_row (by decide)]; exact h.2.2.2 t ht w hw⟩
/-- one row changes -/
theorem tr_up {im m m' : IM} {N i : Nat} {W W' : RW} (h10 : N ≤ 10) (h : tr im m N W) (hi : i < N) (ho : ∀ a, a ≠ 83 → m' a = m a) (hk : ∀ k, (k < 67 + 9 * i ∨ 67 + 9 * i + 8 < k) → m' 83 k = m 83 k) (hr : ∀ w, w < 8 → m' 83 (67 + 9 * i + w) = W' i w) (hW : ∀ t, t ≠ i → W' t = W t) : tr im m' N W' := by
  refine ⟨fun a h1 h2 => by rw [ho a h2]; exact h.1 a h1 h2, fun k h5 h6 => by rw [ho 82 (by decide)]; exact h.2.1 k h5 h6, fun k hk' => by rw [hk k (by omega)]; exact h.2.2.1 k hk', fun t ht w hw => ?_⟩
  by_cases e : t = i
  · subst e; exact hr w hw
  · rw [hk _ (by omega), hW t e]; exact h.2.2.2 t ht w hw
theorem bgR_up {m m' : IM} {i j : Nat} {b : Nat → Bool} (h : bgR m i b) (hk : ∀ k, (k < 67 + 9 * j ∨ 67 + 9 * j + 8 ≤ k) → m' 83 k = m 83 k) : bgR m' i b := fun t ht => by
  rw [hk _ (by omega)]; exact h t ht
/-! the reference: those on one cell -/
theorem meets_r {im m : IM} {N c : Nat} {W : RW} {q b : Nat → Bool} (hN : im 83 1 = nI N) (h10 : N ≤ 10) (hc1 : 1 ≤ c) (hc : c < 30) (h : tr im m N (stW q W)) (hb : bgR m N b) (hq : ∀ t, t < N → q t = true → pStd (W t 6) = true ∧ ¬ W t 4 = nI c) : ∃ (r : Nat) (m' : IM), f_X7_meets (nI c) m = some (nI r, m') ∧ m' 82 = m 82 ∧ bgR m' N b ∧ ((mcell W b N N (nI c) ∧ r = cn (onW W (nI c)) N ∧ tr im m' N (stW (fun t => q t || onW W (nI c) t) W)) ∨ (¬ mcell W b N N (nI c) ∧ r = 0 ∧ tr im m' N (stW q W))) := by
  have hon : ∀ t, t < N → onW (stW q W) (nI c) t = onW W (nI c) t := fun t ht => onW_st (fun z => (hq t ht z).1) _
  have r4 : ∀ t, t < N → ∀ x : IM, (∀ k, m 83 k = x 83 k) → x 83 (67 + 9 * t + 4) = W t 4 := fun t ht x hx => by
    rw [← hx, h.2.2.2 t ht 4 (by decide)]
    unfold stW
    by_cases z : q t = true
    · rw [if_pos z]; rfl
    · rw [if_neg z]
  have hlane : ∀ t, t < N → pStd (m 83 (67 + 9 * t + 6)) = pStd (W t 6) := fun t ht => by
    rw [h.2.2.2 t ht 6 (by decide)]
    unfold stW
    by_cases z : q t = true
    · rw [if_pos z, (hq t ht z).1]; rfl
    · rw [if_neg z]
  have hcell : ∀ t, t < N → m 83 (67 + 9 * t + 4) = W t 4 := fun t ht => r4 t ht m (fun _ => rfl)
  have e1 : ∃ a : Int32 × Int32, f_X7_meets (nI c) m = (if a.1 < 2 then f_X7_meets_j2 (nI c) m else if a.2 = 0 then f_X7_meets_j2 (nI c) m else f_X7_meets_l3 (nI c) xF a.1 0 m) ∧ (a.1 = nI (cn (onW W (nI c)) N) ∧ ((a.2 = 1 ∧ ∃ u, u < N ∧ onW W (nI c) u = true ∧ b u = true) ∨ (a.2 = 0 ∧ ¬ ∃ u, u < N ∧ onW W (nI c) u = true ∧ b u = true))) := by
    unfold f_X7_meets
    refine loopG (fun f (a : Int32 × Int32) i => f_X7_meets_l1 (nI c) f a.1 a.2 i m) (fun a : Int32 × Int32 => if a.1 < 2 then f_X7_meets_j2 (nI c) m else if a.2 = 0 then f_X7_meets_j2 (nI c) m else f_X7_meets_l3 (nI c) xF a.1 0 m) 0 0 rfl N (by omega) (by omega) (fun i a => a.1 = nI (cn (onW W (nI c)) i) ∧ ((a.2 = 1 ∧ ∃ u, u < i ∧ onW W (nI c) u = true ∧ b u = true) ∨ (a.2 = 0 ∧ ¬ ∃ u, u < i ∧ onW W (nI c) u = true ∧ b u = true))) _ (fun f a hP => ⟨a, ?_, hP⟩) (fun f a i hi0 hi hP => Or.inr ?_) (0, 0) ⟨rfl, Or.inr ⟨rfl, fun ⟨u, hu, _⟩ => absurd hu (Nat.not_lt_zero _)⟩⟩
    · show f_X7_meets_l1b (nI c) _ a.1 a.2 (nI N) m = _
      unfold f_X7_meets_l1b
      rw [h.2.2.1 1 (by omega), hN, if_pos (Int32.le_refl _)]
    · obtain ⟨p1, p2⟩ := hP
      have hbi := hb i hi
      have on0 : onW W (nI c) i = false → f_X7_meets_l1 (nI c) (f + 1) a.1 a.2 (nI i) m = f_X7_meets_l1 (nI c) f (a.1 + 0) a.2 (nI (i + 1)) m → ∃ a' : Int32 × Int32, f_X7_meets_l1 (nI c) (f + 1) a.1 a.2 (nI i) m = f_X7_meets_l1 (nI c) f a'.1 a'.2 (nI (i + 1)) m ∧ a'.1 = nI (cn (onW W (nI c)) (i + 1)) ∧ ((a'.2 = 1 ∧ ∃ u, u < i + 1 ∧ onW W (nI c) u = true ∧ b u = true) ∨ (a'.2 = 0 ∧ ¬ ∃ u, u < i + 1 ∧ onW W (nI c) u = true ∧ b u = true)) := by
        intro ho he
        refine ⟨(a.1 + 0, a.2), he, ?_, ?_⟩
        · show a.1 + 0 = nI (cn (onW W (nI c)) i + (if onW W (nI c) i = true then 1 else 0))
          rw [ho, p1, Int32.add_zero]
          rfl
        · rcases p2 with ⟨x1, u, u1, u2⟩ | ⟨x1, x2⟩
          · exact Or.inl ⟨x1, u, by omega, u2⟩
          · refine Or.inr ⟨x1, ?_⟩
            rintro ⟨u, u1, u2, u3⟩
            by_cases e : u = i
            · subst e; rw [ho] at u2; exact absurd u2 (by decide)
            · exact x2 ⟨u, by omega, u2, u3⟩
      have j5 : ∀ s0 : Int32, (s0 = 0 ∨ s0 = 1) → f_X7_meets_j6 (nI c) (f_X7_meets_l1 (nI c) f) a.1 a.2 (nI i) s0 m = f_X7_meets_l1 (nI c) f (a.1 + s0) (if a.2 = 0 then (if s0 = 0 then 0 else if b i = true then 1 else 0) else 1) (nI (i + 1)) m := by
        intro s0 hs
        unfold f_X7_meets_j6 f_X7_meets_j7 f_X7_meets_j8 f_X7_meets_j10 f_X7_meets_j9
        have i8 : f_X7_its (nI i) 8 m = some (if b i = true then 1 else 0) := by rw [its_w (w := 8) 8 rfl (by omega) (by decide), hbi]
        simp only [i8, Option.bind_some, bnd_eq, nI_1]
        by_cases x0 : a.2 = 0
        · rcases hs with rfl | rfl
          · simp only [x0, if_true]
          · by_cases hbb : b i = true
            · simp only [x0, hbb, if_true, i10, if_false]
            · simp only [x0, hbb, if_true, i10, if_false, show ¬ (0 : Int32) = 1 by decide, Bool.false_eq_true]
        · rcases hs with rfl | rfl
          · simp only [x0, if_true, if_false]
          · simp only [x0, if_false, i10]
      have e0 : f_X7_meets_l1 (nI c) (f + 1) a.1 a.2 (nI i) m = if pStd (W i 6) = true then (if W i 4 = nI c then f_X7_meets_j6 (nI c) (f_X7_meets_l1 (nI c) f) a.1 a.2 (nI i) 1 m else f_X7_meets_j6 (nI c) (f_X7_meets_l1 (nI c) f) a.1 a.2 (nI i) 0 m) else f_X7_meets_j6 (nI c) (f_X7_meets_l1 (nI c) f) a.1 a.2 (nI i) 0 m := by
        show f_X7_meets_l1b (nI c) _ a.1 a.2 (nI i) m = _
        unfold f_X7_meets_l1b f_X7_meets_j5
        rw [h.2.2.1 1 (by omega), hN, if_neg (nI_ge hi (by omega)), lane_r (by omega), hlane i hi, Option.bind_some, its_w (w := 4) 4 rfl (by omega) (by decide), Option.bind_some, hcell i hi]
        by_cases x : pStd (W i 6) = true
        · rw [if_pos x, if_neg i10, if_pos x]
        · rw [if_neg x, if_pos rfl, if_neg x]
      have z2 : (if a.2 = 0 then (if (0 : Int32) = 0 then (0 : Int32) else if b i = true then 1 else 0) else 1) = a.2 := by
        rcases p2 with ⟨x1, -⟩ | ⟨x1, -⟩
        · rw [x1, if_neg i10]
        · rw [x1, if_pos rfl, if_pos rfl]
      show ∃ a' : Int32 × Int32, f_X7_meets_l1 (nI c) (f + 1) a.1 a.2 (nI i) m = f_X7_meets_l1 (nI c) f a'.1 a'.2 (nI (i + 1)) m ∧ a'.1 = nI (cn (onW W (nI c)) (i + 1)) ∧ ((a'.2 = 1 ∧ ∃ u, u < i + 1 ∧ onW W (nI c) u = true ∧ b u = true) ∨ (a'.2 = 0 ∧ ¬ ∃ u, u < i + 1 ∧ onW W (nI c) u = true ∧ b u = true))
      by_cases x : pStd (W i 6) = true
      · by_cases y : W i 4 = nI c
        · rw [if_pos x, if_pos y, j5 1 (Or.inr rfl)] at e0
          have ho : onW W (nI c) i = true := onW_mk y x
          refine ⟨(a.1 + 1, if a.2 = 0 then (if (1 : Int32) = 0 then (0 : Int32) else if b i = true then 1 else 0) else 1), e0, ?_, ?_⟩
          · show a.1 + 1 = nI (cn (onW W (nI c)) i + (if onW W (nI c) i = true then 1 else 0))
            rw [if_pos ho, p1, nI_1]
          · show ((if a.2 = 0 then (if (1 : Int32) = 0 then (0 : Int32) else if b i = true then 1 else 0) else 1) = 1 ∧ _) ∨ ((if a.2 = 0 then (if (1 : Int32) = 0 then (0 : Int32) else if b i = true then 1 else 0) else 1) = 0 ∧ _)
            rcases p2 with ⟨x1, u, u1, u2⟩ | ⟨x1, x2⟩
            · exact Or.inl ⟨by rw [x1, if_neg i10], u, by omega, u2⟩
            · by_cases hbb : b i = true
              · exact Or.inl ⟨by rw [x1, if_pos rfl, if_neg i10, if_pos hbb], i, by omega, ho, hbb⟩
              · refine Or.inr ⟨by rw [x1, if_pos rfl, if_neg i10, if_neg hbb], ?_⟩
                rintro ⟨u, u1, u2, u3⟩
                by_cases e : u = i
                · subst e; exact hbb u3
                · exact x2 ⟨u, by omega, u2, u3⟩
        · rw [if_pos x, if_neg y, j5 0 (Or.inl rfl), z2] at e0
          refine on0 ?_ e0
          unfold onW; simp [y]
      · rw [if_neg x, j5 0 (Or.inl rfl), z2] at e0
        refine on0 ?_ e0
        unfold onW; simp [x]
  obtain ⟨a, ea, p1, p2⟩ := e1
  have hcn := cn_le (p := onW W (nI c)) (N := N)
  have no : ¬ mcell W b N N (nI c) → f_X7_meets (nI c) m = some (0, m) → ∃ (r : Nat) (m' : IM), f_X7_meets (nI c) m = some (nI r, m') ∧ m' 82 = m 82 ∧ bgR m' N b ∧ ((mcell W b N N (nI c) ∧ r = cn (onW W (nI c)) N ∧ tr im m' N (stW (fun t => q t || onW W (nI c) t) W)) ∨ (¬ mcell W b N N (nI c) ∧ r = 0 ∧ tr im m' N (stW q W))) := fun h1 h2 => ⟨0, m, h2, rfl, hb, Or.inr ⟨h1, rfl, h⟩⟩
  have c0 : (0 : Int32) < nI c := (nI_gt_lit (n := 0) 0 (by decide) (by omega)).mpr (by omega)
  have c30 : nI c < 30 := (nI_lt_lit (n := 30) 30 (by decide) (by omega)).mpr hc
  by_cases h2 : cn (onW W (nI c)) N < 2
  · refine no (fun z => ?_) ?_
    · have := z.2.2.1; omega
    · rw [ea, p1, if_pos ((nI_lt_lit (n := 2) 2 (by decide) (by omega)).mpr h2)]
      rfl
  · rw [p1, if_neg (fun z => h2 ((nI_lt_lit (n := 2) 2 (by decide) (by omega)).mp z))] at ea
    rcases p2 with ⟨x1, x2⟩ | ⟨x1, x2⟩
    · rw [x1, if_neg i10] at ea
      have hm : mcell W b N N (nI c) := ⟨c0, c30, by omega, x2⟩
      have key : ∃ m', f_X7_meets_l3 (nI c) xF (nI (cn (onW W (nI c)) N)) 0 m = some (nI (cn (onW W (nI c)) N), m') ∧ (m' 82 = m 82 ∧ bgR m' N b ∧ tr im m' N (stW (fun t => q t || onW W (nI c) t) W)) := by
        refine loopG (fun f m' i => f_X7_meets_l3 (nI c) f (nI (cn (onW W (nI c)) N)) i m') (fun m' : IM => some (nI (cn (onW W (nI c)) N), m')) 0 0 rfl N (by omega) (by omega) (fun i m' => m' 82 = m 82 ∧ bgR m' N b ∧ tr im m' N (stW (fun t => q t || (decide (t < i) && onW W (nI c) t)) W)) (fun m' => m' 82 = m 82 ∧ bgR m' N b ∧ tr im m' N (stW (fun t => q t || onW W (nI c) t) W)) (fun f m' hP => ⟨m', ?_, hP.1, hP.2.1, tr_cg hP.2.2 (fun t ht w hw => ?_)⟩) (fun f m' i hi0 hi hP => Or.inr ?_) m ⟨rfl, hb, tr_cg h (fun t ht w hw => ?_)⟩
        · show f_X7_meets_l3b (nI c) _ (nI (cn (onW W (nI c)) N)) (nI N) m' = _
          unfold f_X7_meets_l3b
          rw [hP.2.2.2.2.1 1 (by omega), hN, if_pos (Int32.le_refl _)]
        · unfold stW; simp [ht]
        · obtain ⟨g1, g2, g3⟩ := hP
          have hstd : ∀ t, t < N → (q t || (decide (t < i) && onW W (nI c) t)) = true → pStd (W t 6) = true := fun t ht z => by
            rw [Bool.or_eq_true, Bool.and_eq_true] at z
            rcases z with z | z
            · exact (hq t ht z).1
            · exact (onW_std z.2).2
          have l6 : pStd (m' 83 (67 + 9 * i + 6)) = pStd (W i 6) := by
            rw [g3.2.2.2 i hi 6 (by decide)]
            unfold stW
            by_cases z : (q i || (decide (i < i) && onW W (nI c) i)) = true
            · rw [if_pos z, hstd i hi z]; rfl
            · rw [if_neg z]
          have l4 : m' 83 (67 + 9 * i + 4) = W i 4 := by
            rw [g3.2.2.2 i hi 4 (by decide)]
            unfold stW
            by_cases z : (q i || (decide (i < i) && onW W (nI c) i)) = true
            · rw [if_pos z]; rfl
            · rw [if_neg z]
          have e0 : f_X7_meets_l3 (nI c) (f + 1) (nI (cn (onW W (nI c)) N)) (nI i) m' = if pStd (W i 6) = true then (if W i 4 = nI c then f_X7_meets_l3 (nI c) f (nI (cn (onW W (nI c)) N)) (nI (i + 1)) (up (up (up m' 83 (67 + 9 * i + 5) 0) 83 (67 + 9 * i + 6) 0) 83 (67 + 9 * i + 7) (m' 83 (67 + 9 * i + 7) + 1)) else f_X7_meets_l3 (nI c) f (nI (cn (onW W (nI c)) N)) (nI (i + 1)) m') else f_X7_meets_l3 (nI c) f (nI (cn (onW W (nI c)) N)) (nI (i + 1)) m' := by
            show f_X7_meets_l3b (nI c) _ (nI (cn (onW W (nI c)) N)) (nI i) m' = _
            unfold f_X7_meets_l3b f_X7_meets_j4
            have i7 := at_in (t := i) (w := 7) 7 rfl (by omega) (by decide)
            have i5 := at_in (t := i) (w := 5) 5 rfl (by omega) (by decide)
            have i6 := at_in (t := i) (w := 6) 6 rfl (by omega) (by decide)
            rw [g3.2.2.1 1 (by omega), hN, if_neg (nI_ge hi (by omega)), lane_r (by omega), l6, Option.bind_some, its_w (w := 4) 4 rfl (by omega) (by decide), Option.bind_some, l4]
            simp only [i5, i6, i7, at_ix (t := i) (w := 5) 5 rfl (by omega) (by decide), at_ix (t := i) (w := 6) 6 rfl (by omega) (by decide), at_ix (t := i) (w := 7) 7 rfl (by omega) (by decide), if_true, bnd_eq, nI_1, up_ne (show 67 + 9 * i + 7 ≠ 67 + 9 * i + 6 by omega), up_ne (show 67 + 9 * i + 7 ≠ 67 + 9 * i + 5 by omega)]
            by_cases x : pStd (W i 6) = true
            · rw [if_pos x, if_neg i10, if_pos x]
            · rw [if_neg x, if_pos rfl, if_neg x]
          have stay : onW W (nI c) i = false → f_X7_meets_l3 (nI c) (f + 1) (nI (cn (onW W (nI c)) N)) (nI i) m' = f_X7_meets_l3 (nI c) f (nI (cn (onW W (nI c)) N)) (nI (i + 1)) m' → ∃ a', f_X7_meets_l3 (nI c) (f + 1) (nI (cn (onW W (nI c)) N)) (nI i) m' = f_X7_meets_l3 (nI c) f (nI (cn (onW W (nI c)) N)) (nI (i + 1)) a' ∧ a' 82 = m 82 ∧ bgR a' N b ∧ tr im a' N (stW (fun t => q t || (decide (t < i + 1) && onW W (nI c) t)) W) := by
            intro ho he
            refine ⟨m', he, g1, g2, tr_cg g3 (fun t ht w hw => ?_)⟩
            unfold stW
            by_cases e : t = i
            · subst e; simp [ho]
            · by_cases e2 : t < i
              · simp [e2, show t < i + 1 by omega]
              · simp [e2, show ¬ t < i + 1 by omega]
          show ∃ a', f_X7_meets_l3 (nI c) (f + 1) (nI (cn (onW W (nI c)) N)) (nI i) m' = f_X7_meets_l3 (nI c) f (nI (cn (onW W (nI c)) N)) (nI (i + 1)) a' ∧ a' 82 = m 82 ∧ bgR a' N b ∧ tr im a' N (stW (fun t => q t || (decide (t < i + 1) && onW W (nI c) t)) W)
          by_cases x : pStd (W i 6) = true
          · by_cases y : W i 4 = nI c
            · rw [if_pos x, if_pos y] at e0
              have ho : onW W (nI c) i = true := onW_mk y x
              have nq : q i = false := by
                cases z : q i with
                | false => rfl
                | true => exact absurd y (hq i hi z).2
              refine ⟨_, e0, by rw [up_row (by decide), up_row (by decide), up_row (by decide)]; exact g1, bgR_up g2 (j := i) (fun k hk => by rw [up_ne (by omega), up_ne (by omega), up_ne (by omega)]), tr_up h10 g3 hi (fun a ha => by rw [up_row ha, up_row ha, up_row ha]) (fun k hk => by rw [up_ne (by omega), up_ne (by omega), up_ne (by omega)]) (fun w hw => ?_) (fun t ht => ?_)⟩
              · have rw0 : ∀ w, w < 8 → m' 83 (67 + 9 * i + w) = W i w := fun w hw => by
                  rw [g3.2.2.2 i hi w hw]
                  unfold stW
                  rw [if_neg (by simp [nq])]
                unfold stW stopRow
                rw [if_pos (by simp [ho])]
                by_cases c7 : w = 7
                · subst c7; rw [up_same, rw0 7 (by decide)]; rfl
                · rw [up_ne (by omega)]
                  by_cases c6 : w = 6
                  · subst c6; rw [up_same]; rfl
                  · rw [up_ne (by omega)]
                    by_cases c5 : w = 5
                    · subst c5; rw [up_same]; rfl
                    · rw [up_ne (by omega), if_neg c5, if_neg c6, if_neg c7, rw0 w hw]
              · unfold stW
                by_cases e2 : t < i
                · simp [e2, show t < i + 1 by omega]
                · simp [e2, show ¬ t < i + 1 by omega]
            · rw [if_pos x, if_neg y] at e0
              exact stay (by unfold onW; simp [y]) e0
          · rw [if_neg x] at e0
            exact stay (by unfold onW; simp [x]) e0
        · unfold stW; simp
      obtain ⟨m', e3, k1, k2, k3⟩ := key
      exact ⟨_, m', by rw [ea, e3], k1, k2, Or.inl ⟨hm, rfl, k3⟩⟩
    · refine no (fun z => x2 z.2.2.2) ?_
      rw [ea, x1, if_pos rfl]
      rfl
/-! counting by cells -/
theorem cn_or {p q : Nat → Bool} : ∀ {N : Nat}, (∀ t, t < N → p t = true → q t = false) → cn (fun t => p t || q t) N = cn p N + cn q N
  | 0, _ => rfl
  | N + 1, h => by
    show cn (fun t => p t || q t) N + _ = (cn p N + _) + (cn q N + _)
    rw [cn_or (N := N) (fun t ht => h t (by omega))]
    have := h N (by omega)
    cases hp : p N with
    | false => cases hq : q N <;> simp [hp, hq] <;> omega
    | true =>
      rw [this hp]
      simp [hp]
      omega
theorem minute_r {im : IM} {V : TV} (v : RR im 83 V) (ok : OkL V) : ∃ m, f_X7_minute im = some m ∧ (RR m 83 (minV V) ∧ m 82 5 = nI (minMet V) ∧ m 82 6 = nI (minOut V) ∧ (∀ a, a ≠ 82 → a ≠ 83 → m a = im a) ∧ ∀ k, k ≠ 5 → k ≠ 6 → m 82 k = im 82 k) := by
  have h10 := ok.1
  have hN : im 83 1 = nI (vN V) := v.2.2.2.2.1
  obtain ⟨N, eN⟩ : ∃ N, N = vN V := ⟨_, rfl⟩
  obtain ⟨W, eW⟩ : ∃ W, W = rollW V := ⟨_, rfl⟩
  obtain ⟨b, eb⟩ : ∃ b, b = bgV V := ⟨_, rfl⟩
  rw [← eN] at hN h10
  have okW : ∀ t, t < N → OkT (W t) := fun t ht => by rw [eW]; exact rollW_ok ok (by omega)
  -- 1: roll
  have ph1 : ∃ m, f_X7_minute im = f_X7_minute_l2 xF 1 m ∧ (tr im m N W ∧ bgR m N b ∧ m 82 5 = 0 ∧ m 82 6 = nI (minOut V)) := by
    unfold f_X7_minute
    rw [bnd_eq, bnd_eq]
    refine loopG (fun f m i => f_X7_minute_l1 f i m) (fun m => f_X7_minute_l2 xF 1 m) 0 0 rfl N (by omega) (by omega) (fun i m => tr im m N (fun t => if t < i then W t else vT V t) ∧ bgR m i b ∧ m 82 5 = 0 ∧ m 82 6 = nI (cn (fun t => bgV V t && decide (rollW V t 6 = 2)) i)) (fun m => tr im m N W ∧ bgR m N b ∧ m 82 5 = 0 ∧ m 82 6 = nI (minOut V)) (fun f m hP => ⟨m, ?_, tr_cg hP.1 (fun t ht w hw => by rw [if_pos ht]), hP.2.1, hP.2.2.1, by rw [hP.2.2.2, eN]; rfl⟩) (fun f m i hi0 hi hP => Or.inr ?_) _ ⟨⟨fun a h1 h2 => by rw [up_row h1, up_row h1], fun k h5 h6 => by rw [up_ne h6, up_ne h5], fun k hk => by rw [up_row (by decide), up_row (by decide)], fun t ht w hw => ?_⟩, fun t ht => absurd ht (Nat.not_lt_zero _), by rw [up_ne (by decide), up_same], by rw [up_same]; rfl⟩
    · show f_X7_minute_l1b _ (nI N) m = _
      unfold f_X7_minute_l1b
      rw [hP.1.2.2.1 1 (by omega), hN, if_pos (Int32.le_refl _)]
    · obtain ⟨p1, p2, p3, p4⟩ := hP
      have hi' : i < vN V := by omega
      have row : ∀ w, w < 8 → m 83 (67 + 9 * i + w) = vT V i w := fun w hw => by
        rw [p1.2.2.2 i hi w hw]
        show (if i < i then W i else vT V i) w = _
        rw [if_neg (Nat.lt_irrefl _)]
      have i8 := at_in (t := i) (w := 8) 8 rfl (by omega) (by decide)
      have x8 := at_ix (t := i) (w := 8) 8 rfl (by omega) (by decide)
      let m1 : IM := up m 83 (67 + 9 * i + 8) (if b i = true then 1 else 0)
      have r1 : ∀ k, k ≠ 67 + 9 * i + 8 → m1 83 k = m 83 k := fun k hk => up_ne hk
      have hb : b i = decide (vT V i 6 = 1) := by rw [eb]; rfl
      have e1 : f_X7_minute_l1 (f + 1) (nI i) m = if vT V i 6 = 1 then (f_X7_rolls (nI i) (vM V) m1).bind fun r13 => (f_X7_its (nI i) 6 r13).bind fun r14 => if r14 = 2 then f_X7_minute_l1 f (nI (i + 1)) (up r13 82 6 (r13 82 6 + 1)) else f_X7_minute_l1 f (nI (i + 1)) (up r13 82 6 (r13 82 6 + 0)) else f_X7_minute_l1 f (nI (i + 1)) m1 := by
        show f_X7_minute_l1b _ (nI i) m = _
        unfold f_X7_minute_l1b f_X7_minute_j4 f_X7_minute_j6
        rw [p1.2.2.1 1 (by omega), hN, if_neg (nI_ge hi (by omega)), its_w (w := 6) 6 rfl (by omega) (by decide), Option.bind_some, row 6 (by decide)]
        have em : ∀ x : Int32, (up m 83 (67 + 9 * i + 8) x) 83 0 = vM V := fun x => by
          rw [up_ne (by omega), p1.2.2.1 0 (by omega)]; exact v.2.2.2.2.2.2.2.1
        have e6 : ∀ x : Int32, f_X7_its (nI i) 6 (up m 83 (67 + 9 * i + 8) x) = some (vT V i 6) := fun x => by
          rw [its_w (w := 6) 6 rfl (by omega) (by decide), up_ne (by omega), row 6 (by decide)]
        have j5 : ∀ x, f_X7_minute_j5 (f_X7_minute_l1 f) (nI i) x = f_X7_minute_l1 f (nI (i + 1)) x := fun x => by
          unfold f_X7_minute_j5
          rw [bnd_eq, nI_1]
        simp only [i8, x8, if_true, bnd_eq, em, e6, Option.bind_some, nI_1, j5]
        by_cases c : vT V i 6 = 1
        · have em1 : m1 = up m 83 (67 + 9 * i + 8) 1 := by
            show up m 83 (67 + 9 * i + 8) (if b i = true then 1 else 0) = _
            rw [hb, if_pos (decide_eq_true c)]
          rw [if_pos c, if_pos c, if_pos c, em1]
        · have em1 : m1 = up m 83 (67 + 9 * i + 8) 0 := by
            show up m 83 (67 + 9 * i + 8) (if b i = true then 1 else 0) = _
            rw [hb, if_neg (by rw [decide_eq_true_iff]; exact c)]
          rw [if_neg c, if_neg c, if_neg c, em1]
      have bg1 : bgR m1 (i + 1) b := fun t ht => by
        by_cases e : t = i
        · subst e; exact up_same
        · rw [r1 _ (by omega)]; exact p2 t (by omega)
      show ∃ a', f_X7_minute_l1 (f + 1) (nI i) m = f_X7_minute_l1 f (nI (i + 1)) a' ∧ tr im a' N (fun t => if t < i + 1 then W t else vT V t) ∧ bgR a' (i + 1) b ∧ a' 82 5 = 0 ∧ a' 82 6 = nI (cn (fun t => bgV V t && decide (rollW V t 6 = 2)) (i + 1))
      have hWt : ∀ t, t ≠ i → (if t < i + 1 then W t else vT V t) = if t < i then W t else vT V t := fun t ht => by
        by_cases e : t < i
        · rw [if_pos e, if_pos (by omega)]
        · rw [if_neg e, if_neg (by omega)]
      by_cases c : vT V i 6 = 1
      · have okt := ok.2.2.2.1 i hi'
        obtain ⟨c4, hc4, e4⟩ := rng_of (n := 29) 29 (by decide) okt.2.2.2.2.1.1 (okt.2.2.2.2.2.2.2 c)
        obtain ⟨m2, er, o, rk, rr⟩ := rolls_r (im := m1) (t := i) (c := c4) (mi := vM V) (by omega) (by rw [r1 _ (by omega), row 4 (by decide)]; exact e4) hc4
        have rW : ∀ w, w < 8 → m2 83 (67 + 9 * i + w) = W i w := fun w hw => by
          rw [rr w, eW]
          unfold rollW
          rw [if_pos c, r1 2 (by omega), r1 3 (by omega), p1.2.2.1 2 (by omega), p1.2.2.1 3 (by omega), v.2.2.2.2.2.1, v.2.2.2.2.2.2.1]
          refine pR_cg (fun k hk => ?_) (fun k hk => ?_) (fun w hw => ?_) (c := c4) ?_ hc4 w hw
          · rw [r1 _ (by omega), p1.2.2.1 _ (by omega)]; exact v.1 k hk
          · rw [r1 _ (by omega), p1.2.2.1 _ (by omega)]; exact v.2.1 k hk
          · show m1 83 (67 + 9 * i + w) = _
            rw [r1 _ (by omega)]; exact row w hw
          · show m1 83 (67 + 9 * i + 4) = _
            rw [r1 _ (by omega), row 4 (by decide)]; exact e4
        have e6 : f_X7_its (nI i) 6 m2 = some (W i 6) := by rw [its_w (w := 6) 6 rfl (by omega) (by decide), rW 6 (by decide)]
        rw [if_pos c, er, Option.bind_some, e6, Option.bind_some] at e1
        have o82 : m2 82 = m 82 := by rw [o 82 (by decide)]; exact up_row (by decide)
        have tr2 : tr im m2 N (fun t => if t < i + 1 then W t else vT V t) := by
          refine tr_up h10 p1 hi (fun a ha => by rw [o a ha]; exact up_row ha) (fun k hk => by rw [rk k (by omega) (by omega) (by omega)]; exact r1 k (by omega)) (fun w hw => ?_) hWt
          rw [rW w hw, if_pos (by omega)]
        have bg2 : bgR m2 (i + 1) b := fun t ht => by rw [rk _ (by omega) (by omega) (by omega)]; exact bg1 t ht
        have hbv : bgV V i = true := decide_eq_true c
        by_cases d : W i 6 = 2
        · rw [if_pos d] at e1
          refine ⟨_, e1, tr_82 tr2 (Or.inr rfl), fun t ht => by rw [up_row (by decide)]; exact bg2 t ht, by rw [up_ne (by decide), o82]; exact p3, ?_⟩
          rw [up_same, o82, p4]
          show _ = nI (cn _ i + (if (bgV V i && decide (rollW V i 6 = 2)) = true then 1 else 0))
          rw [if_pos (by rw [hbv, ← eW, decide_eq_true d]; rfl), nI_1]
        · rw [if_neg d] at e1
          refine ⟨_, e1, tr_82 tr2 (Or.inr rfl), fun t ht => by rw [up_row (by decide)]; exact bg2 t ht, by rw [up_ne (by decide), o82]; exact p3, ?_⟩
          rw [up_same, o82, p4, Int32.add_zero]
          show _ = nI (cn _ i + (if (bgV V i && decide (rollW V i 6 = 2)) = true then 1 else 0))
          rw [if_neg (by rw [← eW, decide_eq_false d]; simp)]
          rfl
      · rw [if_neg c] at e1
        refine ⟨m1, e1, tr_up h10 p1 hi (fun a ha => up_row ha) (fun k hk => r1 k (by omega)) (fun w hw => ?_) hWt, bg1, by rw [show m1 82 = m 82 from up_row (by decide)]; exact p3, ?_⟩
        · rw [r1 _ (by omega), row w hw, if_pos (by omega), eW, rollW_n (decide_eq_false c)]
        · rw [show m1 82 = m 82 from up_row (by decide), p4]
          show _ = nI (cn _ i + (if (bgV V i && decide (rollW V i 6 = 2)) = true then 1 else 0))
          rw [show bgV V i = false from decide_eq_false c]
          rfl
    · rw [up_row (by decide), up_row (by decide)]
      show _ = (if t < 0 then W t else vT V t) w
      rw [if_neg (Nat.not_lt_zero _)]
      exact v.2.2.1 t (by omega) w hw
  obtain ⟨m1, e1, t1, b1, x5, x6⟩ := ph1
  -- 2: meetings, cell by cell
  have ph2 : ∃ m, f_X7_minute_l2 xF 1 m1 = f_X7_minute_l3 xF 0 m ∧ (tr im m N (stW (qm W b N N) W) ∧ m 82 5 = nI (cn (qm W b N N) N) ∧ m 82 6 = nI (minOut V)) := by
    have cok : ∀ t, t < N → ∃ k, k ≤ 30 ∧ W t 4 = nI k := fun t ht => rng_of (n := 30) 30 (by decide) (okW t ht).2.2.2.2.1.1 (okW t ht).2.2.2.2.1.2
    refine loopG (fun f m i => f_X7_minute_l2 f i m) (fun m => f_X7_minute_l3 xF 0 m) 1 1 rfl 30 (by omega) (by omega) (fun c m => tr im m N (stW (fun t => qm W b N N t && decide (W t 4 < nI c)) W) ∧ bgR m N b ∧ m 82 5 = nI (cn (fun t => qm W b N N t && decide (W t 4 < nI c)) N) ∧ m 82 6 = nI (minOut V)) (fun m => tr im m N (stW (qm W b N N) W) ∧ m 82 5 = nI (cn (qm W b N N) N) ∧ m 82 6 = nI (minOut V)) (fun f m hP => ⟨m, ?_, tr_cg hP.1 (fun t ht w hw => ?_), ?_, hP.2.2.2⟩) (fun f m c hc0 hc hP => Or.inr ?_) m1 ⟨tr_cg t1 (fun t ht w hw => ?_), b1, ?_, x6⟩
    · show f_X7_minute_l2b _ (nI 30) m = _
      unfold f_X7_minute_l2b
      rw [if_pos (by decide)]
    · unfold stW
      by_cases q : qm W b N N t = true
      · have := (qm_iff.mp q).2.2.1
        simp [q, show W t 4 < nI 30 from this]
      · simp [q]
    · rw [hP.2.2.1]
      congr 1
      refine cn_cg (fun t ht => ?_)
      by_cases q : qm W b N N t = true
      · have := (qm_iff.mp q).2.2.1
        simp [q, show W t 4 < nI 30 from this]
      · simp [q]
    · obtain ⟨p1, p2, p3, p4⟩ := hP
      obtain ⟨r, m', em, o82, bg', hm⟩ := meets_r hN h10 hc0 hc p1 p2 (fun t ht z => by
        rw [Bool.and_eq_true, decide_eq_true_iff] at z
        refine ⟨(qm_iff.mp z.1).1, fun e => ?_⟩
        rw [e] at z
        exact Int32.lt_irrefl z.2)
      refine ⟨up m' 82 5 (m 82 5 + nI r), ?_, ?_, fun t ht => by rw [up_row (by decide)]; exact bg' t ht, ?_, ?_⟩
      · show f_X7_minute_l2b _ (nI c) m = _
        unfold f_X7_minute_l2b
        rw [if_neg (by rw [nI_ge_lit (n := 30) 30 (by decide) (by omega)]; omega), em, Option.bind_some, bnd_eq, bnd_eq, nI_1]
      · refine tr_82 ?_ (Or.inl rfl)
        rcases hm with ⟨h1, h2, h3⟩ | ⟨h1, h2, h3⟩
        · refine tr_cg h3 (fun t ht w hw => ?_)
          obtain ⟨k, hk, ek⟩ := cok t ht
          unfold stW
          by_cases e : k = c
          · subst e
            by_cases s : pStd (W t 6) = true
            · have q : qm W b N N t = true := qm_iff.mpr ⟨s, by rw [ek]; exact h1⟩
              simp [onW_mk ek s, q, ek, nI_lt (show k < k + 1 by omega) (show k + 1 < 2 ^ 31 by omega)]
            · have q : qm W b N N t = false := by
                cases z : qm W b N N t with
                | false => rfl
                | true => exact absurd (qm_iff.mp z).1 s
              have o : onW W (nI k) t = false := by unfold onW; simp [s]
              simp [q, o]
          · have o : onW W (nI c) t = false := by
              unfold onW
              rw [ek, decide_eq_false (fun z => e ((nI_eq (by omega) (by omega)).mp z))]
              rfl
            have z : (W t 4 < nI c) ↔ (W t 4 < nI (c + 1)) := by
              rw [ek, nI_ltI (by omega) (by omega), nI_ltI (by omega) (by omega)]; omega
            simp [o, z]
        · refine tr_cg h3 (fun t ht w hw => ?_)
          obtain ⟨k, hk, ek⟩ := cok t ht
          unfold stW
          by_cases e : k = c
          · subst e
            have q : qm W b N N t = false := by
              cases z : qm W b N N t with
              | false => rfl
              | true =>
                have := (qm_iff.mp z).2
                rw [ek] at this
                exact absurd this h1
            simp [q]
          · have z : (W t 4 < nI c) ↔ (W t 4 < nI (c + 1)) := by
              rw [ek, nI_ltI (by omega) (by omega), nI_ltI (by omega) (by omega)]; omega
            simp [z]
      · rw [up_same, p3, nI_add]
        congr 1
        rcases hm with ⟨h1, h2, h3⟩ | ⟨h1, h2, h3⟩
        · rw [h2, ← cn_or (fun t ht z => ?_)]
          · refine cn_cg (fun t ht => ?_)
            obtain ⟨k, hk, ek⟩ := cok t ht
            by_cases e : k = c
            · subst e
              by_cases s : pStd (W t 6) = true
              · have q : qm W b N N t = true := qm_iff.mpr ⟨s, by rw [ek]; exact h1⟩
                simp [onW_mk ek s, q, ek, nI_lt (show k < k + 1 by omega) (show k + 1 < 2 ^ 31 by omega)]
              · have q : qm W b N N t = false := by
                  cases z : qm W b N N t with
                  | false => rfl
                  | true => exact absurd (qm_iff.mp z).1 s
                have o : onW W (nI k) t = false := by unfold onW; simp [s]
                simp [q, o]
            · have o : onW W (nI c) t = false := by
                unfold onW
                rw [ek, decide_eq_false (fun z => e ((nI_eq (by omega) (by omega)).mp z))]
                rfl
              have z : (W t 4 < nI c) ↔ (W t 4 < nI (c + 1)) := by
                rw [ek, nI_ltI (by omega) (by omega), nI_ltI (by omega) (by omega)]; omega
              simp [o, z]
          · rw [Bool.and_eq_true, decide_eq_true_iff] at z
            unfold onW
            rw [decide_eq_false (fun e => by rw [e] at z; exact Int32.lt_irrefl z.2)]
            rfl
        · rw [h2, Nat.add_zero]
          refine cn_cg (fun t ht => ?_)
          obtain ⟨k, hk, ek⟩ := cok t ht
          by_cases e : k = c
          · subst e
            have q : qm W b N N t = false := by
              cases z : qm W b N N t with
              | false => rfl
              | true =>
                have := (qm_iff.mp z).2
                rw [ek] at this
                exact absurd this h1
            simp [q]
          · have z : (W t 4 < nI c) ↔ (W t 4 < nI (c + 1)) := by
              rw [ek, nI_ltI (by omega) (by omega), nI_ltI (by omega) (by omega)]; omega
            simp [z]
      · rw [up_ne (by decide), o82]; exact p4
    · unfold stW
      rw [if_neg]
      intro z
      rw [Bool.and_eq_true, decide_eq_true_iff] at z
      obtain ⟨k, hk, ek⟩ := cok t ht
      have h0 := (qm_iff.mp z.1).2.1
      rw [ek] at z h0
      rw [nI_gt_lit (n := 0) 0 (by decide) (by omega)] at h0
      have := (nI_ltI (by omega) (by omega)).mp z.2
      omega
    · rw [x5, cn_none (fun t ht => ?_)]
      · rfl
      · obtain ⟨k, hk, ek⟩ := cok t ht
        cases z : (qm W b N N t && decide (W t 4 < nI 1)) with
        | false => rfl
        | true =>
          rw [Bool.and_eq_true, decide_eq_true_iff] at z
          have h0 := (qm_iff.mp z.1).2.1
          rw [ek] at z h0
          rw [nI_gt_lit (n := 0) 0 (by decide) (by omega)] at h0
          have := (nI_ltI (by omega) (by omega)).mp z.2
          omega
  obtain ⟨m2, e2, t2, y5, y6⟩ := ph2
  -- 3: the minute goes on
  have ph3 : ∃ m, f_X7_minute_l3 xF 0 m2 = some (up m 83 0 (m 83 0 + 1)) ∧ (tr im m N (stW (qm W b N N) W) ∧ m 82 = m2 82) := by
    refine loopG (fun f m i => f_X7_minute_l3 f i m) (fun m : IM => some (up m 83 0 (m 83 0 + 1))) 0 0 rfl N (by omega) (by omega) (fun i m => tr im m N (stW (qm W b N N) W) ∧ m 82 = m2 82) _ (fun f m hP => ⟨m, ?_, hP⟩) (fun f m i hi0 hi hP => Or.inr ⟨up m 83 (67 + 9 * i + 8) 0, ?_, ?_, ?_⟩) m2 ⟨t2, rfl⟩
    · show f_X7_minute_l3b _ (nI N) m = _
      unfold f_X7_minute_l3b
      rw [hP.1.2.2.1 1 (by omega), hN, if_pos (Int32.le_refl _), bnd_eq]
    · show f_X7_minute_l3b _ (nI i) m = _
      unfold f_X7_minute_l3b
      rw [hP.1.2.2.1 1 (by omega), hN, if_neg (nI_ge hi (by omega)), if_pos (at_in (w := 8) 8 rfl (by omega) (by decide)), at_ix (w := 8) 8 rfl (by omega) (by decide), bnd_eq, bnd_eq, nI_1]
    · exact tr_up h10 hP.1 hi (fun a ha => up_row ha) (fun k hk => up_ne (by omega)) (fun w hw => by rw [up_ne (by omega)]; exact hP.1.2.2.2 i hi w hw) (fun t ht => rfl)
    · rw [up_row (by decide)]; exact hP.2
  obtain ⟨m3, e3, t3, z3⟩ := ph3
  have em : m3 83 0 = vM V := by rw [t3.2.2.1 0 (by omega)]; exact v.2.2.2.2.2.2.2.1
  rw [eN, eW, eb] at t3
  rw [eN, eW, eb] at y5
  refine ⟨up m3 83 0 (vM V + 1), by rw [e1, e2, e3, em], RR_M (tr_RR v t3), ?_, ?_, fun a h1 h2 => by rw [up_row h2]; exact t3.1 a h1 h2, fun k h5 h6 => by rw [up_row (by decide)]; exact t3.2.1 k h5 h6⟩
  · rw [up_row (by decide), z3, y5]; rfl
  · rw [up_row (by decide), z3, y6]
