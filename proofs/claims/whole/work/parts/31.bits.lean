/-! ===== Int32 by its bits: bt x i ===== -/
def bt (x : Int32) (i : Nat) : Bool := x.toBitVec.getLsbD i
theorem b_ext {x y : Int32} (h : ∀ i, i < 32 → bt x i = bt y i) : x = y := Int32.toBitVec_inj.mp (BitVec.eq_of_getLsbD_eq (fun i hi => h i hi))
theorem b_or (x y : Int32) (i : Nat) : bt (x ||| y) i = (bt x i || bt y i) := by unfold bt; rw [Int32.toBitVec_or, BitVec.getLsbD_or]
theorem b_and (x y : Int32) (i : Nat) : bt (x &&& y) i = (bt x i && bt y i) := by unfold bt; rw [Int32.toBitVec_and, BitVec.getLsbD_and]
theorem b_xor (x y : Int32) (i : Nat) : bt (x ^^^ y) i = (bt x i ^^ bt y i) := by unfold bt; rw [Int32.toBitVec_xor, BitVec.getLsbD_xor]
theorem b_big {x : Int32} {i : Nat} (h : 32 ≤ i) : bt x i = false := BitVec.getLsbD_of_ge _ _ h
theorem b_255 (i : Nat) : bt 255 i = decide (i < 8) := by
  rcases Nat.lt_or_ge i 32 with h | h
  · exact (by decide +kernel : ∀ i, i < 32 → bt 255 i = decide (i < 8)) i h
  · rw [b_big h, decide_eq_false (by omega)]
theorem b_65535 (i : Nat) : bt 65535 i = decide (i < 16) := by
  rcases Nat.lt_or_ge i 32 with h | h
  · exact (by decide +kernel : ∀ i, i < 32 → bt 65535 i = decide (i < 16)) i h
  · rw [b_big h, decide_eq_false (by omega)]
theorem b_m1 : ∀ i, i < 32 → bt (-1) i = true := by decide +kernel
theorem b_0 (i : Nat) : bt 0 i = false := BitVec.getLsbD_zero
theorem s_l : ∀ n, n < 32 → ((nI n &&& 31).toBitVec.smod 32).toNat = n := by decide +kernel
theorem s_u : ∀ n, n < 32 → (((nI n).toUInt32 &&& Int32.toUInt32 31).toBitVec % 32).toNat = n := by decide +kernel
theorem b_shl (n : Nat) (hn : n < 32) (x : Int32) {i : Nat} (hi : i < 32) : bt (x <<< (nI n &&& 31)) i = (decide (n ≤ i) && bt x (i - n)) := by
  unfold bt
  rw [Int32.toBitVec_shiftLeft]
  show (x.toBitVec <<< ((nI n &&& 31).toBitVec.smod 32).toNat).getLsbD i = _
  rw [s_l n hn, BitVec.getLsbD_shiftLeft]
  rcases Nat.lt_or_ge i n with h | h
  · simp [h, Nat.not_le.mpr h]
  · simp [hi, h, Nat.not_lt.mpr h]
theorem b_ushr (n : Nat) (hn : n < 32) (x : Int32) (i : Nat) : bt ((x.toUInt32 >>> ((nI n).toUInt32 &&& Int32.toUInt32 31)).toInt32) i = bt x (n + i) := by
  show (x.toUInt32 >>> ((nI n).toUInt32 &&& Int32.toUInt32 31)).toBitVec.getLsbD i = x.toUInt32.toBitVec.getLsbD (n + i)
  rw [UInt32.toBitVec_shiftRight]
  show (x.toUInt32.toBitVec >>> (((nI n).toUInt32 &&& Int32.toUInt32 31).toBitVec % 32).toNat).getLsbD i = _
  rw [s_u n hn, BitVec.getLsbD_ushiftRight]
theorem b_sshr (n : Nat) (hn : n < 32) (x : Int32) {i : Nat} (hi : i < 32) : bt (x >>> (nI n &&& 31)) i = if n + i < 32 then bt x (n + i) else bt x 31 := by
  unfold bt
  rw [Int32.toBitVec_shiftRight]
  show (x.toBitVec.sshiftRight ((nI n &&& 31).toBitVec.smod 32).toNat).getLsbD i = _
  rw [s_l n hn, BitVec.getLsbD_sshiftRight, BitVec.msb_eq_getLsbD_last]
  simp [hi]
/-! sets of things by their bits -/
theorem b_1 : ∀ i, i < 32 → bt 1 i = decide (i = 0) := by decide +kernel
theorem b_bit {n : Nat} (hn : n < 32) {i : Nat} (hi : i < 32) : bt (jshl 1 (nI n)) i = decide (i = n) := by
  unfold jshl
  rw [b_shl n hn 1 hi, b_1 (i - n) (by omega)]
  by_cases h : n ≤ i
  · by_cases e : i = n
    · subst e; simp
    · simp [h, e]; omega
  · simp [h]; omega
theorem b_n1 (x : Int32) : x &&& 1 = if bt x 0 = true then 1 else 0 := by
  refine b_ext (fun i hi => ?_)
  rw [b_and, b_1 i hi]
  by_cases e : i = 0
  · subst e
    by_cases h : bt x 0 = true
    · rw [if_pos h, h, b_1 0 (by decide)]; rfl
    · rw [if_neg h, b_0]; simp [h]
  · by_cases h : bt x 0 = true
    · rw [if_pos h, b_1 i hi]; simp [e]
    · rw [if_neg h, b_0]; simp [e]
theorem shr_1 {s : Int32} {i : Nat} (hi : i < 32) : (jshr s (nI i)) &&& 1 = if bt s i = true then 1 else 0 := by
  rw [b_n1]
  unfold jshr
  have e := b_sshr i hi s (i := 0) (by decide)
  rw [if_pos (show i + 0 < 32 by omega), Nat.add_zero] at e
  rw [e]
theorem has_c {s : Int32} {i : Nat} (hi : i < 32) : f_X6_has s (nI i) = if bt s i = true then 1 else 0 := by
  unfold f_X6_has
  rw [shr_1 hi]
  by_cases h : bt s i = true
  · simp [h]
  · simp [h]
theorem has_r {s : Int32} {i : Nat} (hi : i < 32) : f_X7_has s (nI i) = if bt s i = true then 1 else 0 := by
  unfold f_X7_has
  rw [shr_1 hi]
  by_cases h : bt s i = true
  · simp [h]
  · simp [h]
theorem bt_fA {p : Nat → Bool} {i : Nat} (hi : i < 32) : ∀ (d k : Nat) (s : Int32), k + d ≤ 32 → bt (fA (fun t s => if p t = true then s ||| jshl 1 (nI t) else s) k d s) i = (bt s i || (decide (k ≤ i ∧ i < k + d) && p i)) := by
  intro d
  induction d with
  | zero =>
    intro k s h
    show bt s i = _
    rw [decide_eq_false (by omega)]; simp
  | succ d ih =>
    intro k s h
    show bt (fA _ (k + 1) d (if p k = true then s ||| jshl 1 (nI k) else s)) i = _
    rw [ih (k + 1) _ (by omega)]
    by_cases e : i = k
    · subst e
      by_cases hp : p i = true
      · rw [if_pos hp, b_or, b_bit (by omega) hi]
        simp [hp]
      · rw [if_neg hp]
        simp [hp]
    · have e2 : decide (k + 1 ≤ i ∧ i < k + 1 + d) = decide (k ≤ i ∧ i < k + (d + 1)) := by
        congr 1; apply propext; omega
      rw [e2]
      by_cases hp : p k = true
      · rw [if_pos hp, b_or, b_bit (by omega) hi]
        simp [e]
      · rw [if_neg hp]
theorem bt_sOf {p : Nat → Bool} {N i : Nat} (hN : N ≤ 32) (hi : i < 32) : bt (sOf p N) i = (decide (i < N) && p i) := by
  unfold sOf
  rw [bt_fA hi N 0 0 (by omega), b_0]
  simp
theorem sOf_10 {p : Nat → Bool} {N : Nat} (hN : N ≤ 10) : sOf p N = sOf (fun t => decide (t < N) && p t) 10 := by
  refine b_ext (fun i hi => ?_)
  rw [bt_sOf (by omega) hi, bt_sOf (by omega) hi]
  by_cases h : i < N
  · simp [h, show i < 10 by omega]
  · simp [h]
/-- how many -/
def cn (p : Nat → Bool) : Nat → Nat
  | 0 => 0
  | n + 1 => cn p n + (if p n = true then 1 else 0)
theorem cn_cg {p q : Nat → Bool} : ∀ {N : Nat}, (∀ t, t < N → p t = q t) → cn p N = cn q N
  | 0, _ => rfl
  | N + 1, h => by
    show cn p N + _ = cn q N + _
    rw [cn_cg (N := N) (fun t ht => h t (by omega)), h N (by omega)]
theorem cn_up {p : Nat → Bool} {N : Nat} : ∀ {M : Nat}, N ≤ M → cn (fun t => decide (t < N) && p t) M = cn p N
  | 0, h => by
    have : N = 0 := by omega
    subst this; rfl
  | M + 1, h => by
    by_cases e : N = M + 1
    · subst e
      exact cn_cg (fun t ht => by simp [ht])
    · show cn _ M + _ = _
      rw [cn_up (M := M) (by omega)]
      simp [show ¬ M < N by omega]
theorem cn_le {p : Nat → Bool} : ∀ {N : Nat}, cn p N ≤ N
  | 0 => Nat.le_refl _
  | N + 1 => by
    show cn p N + _ ≤ _
    have := cn_le (p := p) (N := N)
    by_cases h : p N = true
    · rw [if_pos h]; omega
    · rw [if_neg h]; omega
theorem bc_s : ∀ s, s < 1024 → f_J6_bitCount_0f7a4 (nI s) = nI (cn (fun t => s.testBit t) 10) := by decide +kernel
theorem s10 (p : Nat → Bool) : ∃ s, s < 1024 ∧ sOf p 10 = nI s ∧ ∀ t, t < 10 → s.testBit t = p t := by
  have tb : ∀ t, (sOf p 10).toBitVec.toNat.testBit t = bt (sOf p 10) t := fun t => BitVec.testBit_toNat _
  refine ⟨(sOf p 10).toBitVec.toNat, ?_, ?_, fun t ht => ?_⟩
  · refine Nat.lt_pow_two_of_testBit (n := 10) _ (fun i hi => ?_)
    rw [tb]
    by_cases h : i < 32
    · rw [bt_sOf (by omega) h, decide_eq_false (by omega)]; rfl
    · exact b_big (by omega)
  · refine Int32.toBitVec_inj.mp ?_
    show _ = BitVec.ofNat 32 _
    simp
  · rw [tb, bt_sOf (by omega) (by omega)]
    simp [ht]
theorem bc_sOf {p : Nat → Bool} {N : Nat} (hN : N ≤ 10) : f_J6_bitCount_0f7a4 (sOf p N) = nI (cn p N) := by
  rw [sOf_10 hN]
  obtain ⟨s, h1, h2, h3⟩ := s10 (fun t => decide (t < N) && p t)
  rw [h2, bc_s s h1, cn_cg h3, cn_up hN]
theorem sOf_and {p q : Nat → Bool} {N : Nat} (hN : N ≤ 32) : sOf p N &&& sOf q N = sOf (fun t => p t && q t) N := by
  refine b_ext (fun i hi => ?_)
  rw [b_and, bt_sOf hN hi, bt_sOf hN hi, bt_sOf hN hi]
  by_cases h : i < N <;> simp [h]
theorem sOf_0 {p : Nat → Bool} {N : Nat} (hN : N ≤ 32) : sOf p N = 0 ↔ ∀ t, t < N → p t = false := by
  constructor
  · intro h t ht
    have := bt_sOf (p := p) hN (show t < 32 by omega)
    rw [h, b_0] at this
    simpa [ht] using this.symm
  · intro h
    refine b_ext (fun i hi => ?_)
    rw [bt_sOf hN hi, b_0]
    by_cases hN : i < N
    · simp [h i hN]
    · simp [hN]
