/-! the line by weight -/
def wN (V : TV) (t : Nat) : Nat := ix (vT V t 1)
theorem wN_e {V : TV} {t : Nat} (ok : OkT (vT V t)) : vT V t 1 = nI (wN V t) ∧ 1 ≤ wN V t ∧ wN V t ≤ 99 := by
  obtain ⟨j, hj, e⟩ := rng_of (n := 99) 99 (by decide) (Int32.le_trans (by decide) ok.2.1.1) ok.2.1.2
  have h1 := ok.2.1.1
  rw [e, nI_ge_lit (n := 1) 1 (by decide) (by omega)] at h1
  unfold wN
  rw [e, ix_nI (by omega)]
  exact ⟨rfl, h1, hj⟩
def key (V : TV) (t : Nat) : Nat := 16 * wN V t + t
def isLine (V : TV) (n : Nat) (g : Nat → Nat) : Prop := (∀ k, k < n → ∀ l, l < k → key V (g l) < key V (g k)) ∧ ∀ x, (∃ k, k < n ∧ g k = x) ↔ (x < vN V ∧ pF V x = true)
theorem line_u {V : TV} {n : Nat} {f g : Nat → Nat} (hf : isLine V n f) (hg : isLine V n g) : ∀ k, k < n → f k = g k := by
  intro k
  induction k using Nat.strongRecOn with
  | ind k ih =>
    intro hk
    obtain ⟨f1, f2⟩ := hf
    obtain ⟨g1, g2⟩ := hg
    obtain ⟨l, hl, el⟩ := (g2 (f k)).mpr ((f2 (f k)).mp ⟨k, hk, rfl⟩)
    obtain ⟨j, hj, ej⟩ := (f2 (g k)).mpr ((g2 (g k)).mp ⟨k, hk, rfl⟩)
    rcases Nat.lt_trichotomy l k with h | h | h
    · have e := ih l h (by omega)
      have := f1 k hk l h
      rw [e, el] at this
      omega
    · subst h; exact el.symm
    · have a1 := g1 l hl k h
      rw [el] at a1
      rcases Nat.lt_trichotomy j k with z | z | z
      · have e := ih j z (by omega)
        have := g1 k hk j z
        rw [← e, ej] at this
        omega
      · subst z; exact ej
      · have a2 := f1 j hj k z
        rw [ej] at a2
        omega
/-- one thing set into its place -/
def insF (f : Nat → Nat) (i p : Nat) : Nat → Nat := fun k => if k < p then f k else if k = p then f i else if k ≤ i then f (k - 1) else f k
theorem ins_lo {f : Nat → Nat} {i p k : Nat} (h : k < p) : insF f i p k = f k := by unfold insF; rw [if_pos h]
theorem ins_eq {f : Nat → Nat} {i p : Nat} : insF f i p p = f i := by unfold insF; rw [if_neg (Nat.lt_irrefl _), if_pos rfl]
theorem ins_md {f : Nat → Nat} {i p k : Nat} (h : p < k) (h2 : k ≤ i) : insF f i p k = f (k - 1) := by unfold insF; rw [if_neg (by omega), if_neg (by omega), if_pos h2]
theorem ins_hi {f : Nat → Nat} {i p k : Nat} (h : p ≤ i) (h2 : i < k) : insF f i p k = f k := by unfold insF; rw [if_neg (by omega), if_neg (by omega), if_neg (by omega)]
theorem ins_sorted {V : TV} {f : Nat → Nat} {i p : Nat} (hp : p ≤ i) (hs : ∀ k, k < i → ∀ l, l < k → key V (f l) < key V (f k)) (h16 : f i < 16) (hn : ∀ k, k < i → f k < f i) (hlo : p = 0 ∨ wN V (f (p - 1)) ≤ wN V (f i)) (hhi : ∀ k, p ≤ k → k < i → wN V (f i) < wN V (f k)) : ∀ k, k < i + 1 → ∀ l, l < k → key V (insF f i p l) < key V (insF f i p k) := by
  intro k hk l hl
  rcases Nat.lt_trichotomy k p with h | h | h
  · rw [ins_lo h, ins_lo (by omega)]
    exact hs k (by omega) l hl
  · subst h
    rw [ins_eq, ins_lo hl]
    have a1 : wN V (f l) ≤ wN V (f i) := by
      rcases hlo with z | z
      · omega
      · by_cases e : l = k - 1
        · rw [e]; exact z
        · have b1 := hs (k - 1) (by omega) l (by omega)
          have b2 := hn (k - 1) (by omega)
          unfold key at b1
          omega
    have a2 := hn l (by omega)
    unfold key
    omega
  · rw [ins_md h (by omega)]
    rcases Nat.lt_trichotomy l p with y | y | y
    · rw [ins_lo y]
      exact hs (k - 1) (by omega) l (by omega)
    · subst y
      rw [ins_eq]
      have := hhi (k - 1) (by omega) (by omega)
      unfold key
      omega
    · rw [ins_md y (by omega)]
      exact hs (k - 1) (by omega) (l - 1) (by omega)
theorem ins_mem {f : Nat → Nat} {i p : Nat} (hp : p ≤ i) (x : Nat) : (∃ k, k < i + 1 ∧ insF f i p k = x) ↔ ((∃ k, k < i ∧ f k = x) ∨ f i = x) := by
  constructor
  · rintro ⟨k, hk, e⟩
    rcases Nat.lt_trichotomy k p with h | h | h
    · rw [ins_lo h] at e; exact Or.inl ⟨k, by omega, e⟩
    · subst h; rw [ins_eq] at e; exact Or.inr e
    · rw [ins_md h (by omega)] at e; exact Or.inl ⟨k - 1, by omega, e⟩
  · rintro (⟨k, hk, e⟩ | e)
    · by_cases h : k < p
      · exact ⟨k, by omega, by rw [ins_lo h]; exact e⟩
      · exact ⟨k + 1, by omega, by rw [ins_md (by omega) (by omega)]; exact e⟩
    · exact ⟨p, by omega, by rw [ins_eq]; exact e⟩
theorem sort_c {im : IM} {V : TV} (v : RC im 1 V) (ok : OkL V) : ∃ c : (Nat → Nat) × IM, f_X6_lineUpByWeight im = some (nI (cn (pF V) (vN V)), c.2) ∧ ((∀ a, a ≠ 65 → c.2 a = im a) ∧ (∀ k, k < cn (pF V) (vN V) → c.2 65 k = nI (c.1 k)) ∧ isLine V (cn (pF V) (vN V)) c.1) := by
  have h10 := ok.1
  obtain ⟨m0, e0, o0, q0⟩ := byNum_c v ok
  have hnN : cn (pF V) (vN V) ≤ vN V := cn_le
  have f0 : ∃ f : Nat → Nat, (∀ k, k < cn (pF V) (vN V) → m0 65 k = nI (f k) ∧ f k < vN V ∧ pF V (f k) = true ∧ cn (pF V) (f k) = k) := by
    refine ⟨fun k => ix (m0 65 k), fun k hk => ?_⟩
    obtain ⟨t, h1, h2, h3⟩ := cn_sur hk
    have e := q0 t h1 h2
    rw [h3] at e
    show m0 65 k = nI (ix (m0 65 k)) ∧ ix (m0 65 k) < vN V ∧ pF V (ix (m0 65 k)) = true ∧ cn (pF V) (ix (m0 65 k)) = k
    rw [e, ix_nI (by omega)]
    exact ⟨rfl, h1, h2, h3⟩
  obtain ⟨f0, hf0⟩ := f0
  have inc : ∀ k, k < cn (pF V) (vN V) → ∀ l, l < k → f0 l < f0 k := by
    intro k hk l hl
    obtain ⟨-, -, b3, b4⟩ := hf0 k hk
    obtain ⟨-, -, c3, c4⟩ := hf0 l (by omega)
    rcases Nat.lt_or_ge (f0 l) (f0 k) with z | z
    · exact z
    · have := cn_mono (p := pF V) z
      omega
  have mem0 : ∀ x, (∃ k, k < cn (pF V) (vN V) ∧ f0 k = x) ↔ (x < vN V ∧ pF V x = true) := by
    intro x
    constructor
    · rintro ⟨k, hk, rfl⟩
      exact ⟨(hf0 k hk).2.1, (hf0 k hk).2.2.1⟩
    · rintro ⟨h1, h2⟩
      have hk := cn_lt h1 h2
      refine ⟨cn (pF V) x, hk, ?_⟩
      have e1 := (hf0 _ hk).1
      rw [q0 x h1 h2] at e1
      exact (nI_u (by omega) (by have := (hf0 _ hk).2.1; omega) e1).symm
  unfold f_X6_lineUpByWeight
  rw [e0, Option.bind_some]
  show ∃ c : (Nat → Nat) × IM, f_X6_lineUpByWeight_l1 xF (nI (cn (pF V) (vN V))) 1 m0 = some (nI (cn (pF V) (vN V)), c.2) ∧ _
  by_cases n0 : cn (pF V) (vN V) = 0
  · refine ⟨(f0, m0), ?_, o0, fun k hk => (hf0 k hk).1, ⟨fun k hk => by rw [n0] at hk; exact absurd hk (Nat.not_lt_zero _), mem0⟩⟩
    show f_X6_lineUpByWeight_l1b _ (nI (cn (pF V) (vN V))) 1 m0 = _
    unfold f_X6_lineUpByWeight_l1b
    rw [n0, if_pos (by decide)]
  · have key1 : ∃ c : (Nat → Nat) × IM, f_X6_lineUpByWeight_l1 xF (nI (cn (pF V) (vN V))) 1 m0 = some (nI (cn (pF V) (vN V)), c.2) ∧ ((∀ a, a ≠ 65 → c.2 a = im a) ∧ (∀ k, k < cn (pF V) (vN V) → c.2 65 k = nI (c.1 k)) ∧ isLine V (cn (pF V) (vN V)) c.1) := by
      generalize hn : cn (pF V) (vN V) = n at *
      refine loopG (fun f m i => f_X6_lineUpByWeight_l1 f (nI n) i m) (fun c : (Nat → Nat) × IM => some (nI n, c.2)) 1 1 rfl n (by omega) (by omega) (fun i m => (∀ a, a ≠ 65 → m a = im a) ∧ ∃ g : Nat → Nat, (∀ k, k < n → m 65 k = nI (g k)) ∧ (∀ k, k < i → ∀ l, l < k → key V (g l) < key V (g k)) ∧ (∀ k, i ≤ k → k < n → g k = f0 k) ∧ ∀ x, (∃ k, k < i ∧ g k = x) ↔ (∃ k, k < i ∧ f0 k = x)) _ (fun f m hP => ?_) (fun f m i hi0 hi hP => ?_) m0 ⟨o0, f0, fun k hk => (hf0 k hk).1, fun k hk l hl => absurd hl (by omega), fun _ _ _ => rfl, fun _ => Iff.rfl⟩
      · obtain ⟨p1, g, p2, p3, p4, p5⟩ := hP
        refine ⟨(g, m), ?_, p1, p2, p3, fun x => (p5 x).trans (mem0 x)⟩
        show f_X6_lineUpByWeight_l1b _ (nI n) (nI n) m = _
        unfold f_X6_lineUpByWeight_l1b
        rw [if_pos (Int32.le_refl _)]
      · obtain ⟨p1, g, p2, p3, p4, p5⟩ := hP
        have gi : g i = f0 i := p4 i (Nat.le_refl _) hi
        have giN : g i < vN V := by rw [gi]; exact (hf0 i hi).2.1
        have glt : ∀ k, k < i → g k < g i ∧ g k < vN V := by
          intro k hk
          obtain ⟨l, h1, h2⟩ := (p5 (g k)).mp ⟨k, hk, rfl⟩
          rw [← h2, gi]
          exact ⟨inc i hi l h1, (hf0 l (by omega)).2.1⟩
        have wle : ∀ a b, a < vN V → b < vN V → (vT V a 1 ≤ vT V b 1 ↔ wN V a ≤ wN V b) := by
          intro a b h1 h2
          obtain ⟨a1, a2, a3⟩ := wN_e (ok.2.2.2.1 a h1)
          obtain ⟨b1, b2, b3⟩ := wN_e (ok.2.2.2.1 b h2)
          rw [a1, b1, nI_leI (by omega) (by omega)]
        have inner : ∃ c : Nat × IM, f_X6_lineUpByWeight_l2 (f_X6_lineUpByWeight_l1 f) xF (nI n) (nI i) (nI (g i)) (nI i) m = f_X6_lineUpByWeight_j3 (f_X6_lineUpByWeight_l1 f) (nI n) (nI i) (nI (g i)) (nI c.1) c.2 ∧ ((∀ a, a ≠ 65 → c.2 a = im a) ∧ c.1 ≤ i ∧ (∀ k, k < n → k ≠ c.1 → c.2 65 k = nI (if c.1 < k ∧ k ≤ i then g (k - 1) else g k)) ∧ (∀ k, c.1 ≤ k → k < i → wN V (g i) < wN V (g k)) ∧ (c.1 = 0 ∨ wN V (g (c.1 - 1)) ≤ wN V (g i))) := by
          refine loopD (fun h m p => f_X6_lineUpByWeight_l2 (f_X6_lineUpByWeight_l1 f) h (nI n) (nI i) (nI (g i)) p m) (fun c : Nat × IM => f_X6_lineUpByWeight_j3 (f_X6_lineUpByWeight_l1 f) (nI n) (nI i) (nI (g i)) (nI c.1) c.2) i (by omega) (fun p m => p ≤ i ∧ (∀ a, a ≠ 65 → m a = im a) ∧ (∀ k, k < n → k ≠ p → m 65 k = nI (if p < k ∧ k ≤ i then g (k - 1) else g k)) ∧ ∀ k, p ≤ k → k < i → wN V (g i) < wN V (g k)) _ (fun h m hP => ⟨(0, m), ?_, hP.2.1, Nat.zero_le _, hP.2.2.1, hP.2.2.2, Or.inl rfl⟩) (fun h m p hp hP => ?_) m ⟨Nat.le_refl _, p1, fun k hk hki => ?_, fun k h1 h2 => absurd h2 (by omega)⟩
          · show f_X6_lineUpByWeight_l2b _ _ (nI n) (nI i) (nI (g i)) (nI 0) m = _
            unfold f_X6_lineUpByWeight_l2b
            rw [if_pos (by decide)]
          · obtain ⟨r0, r1, r2, r3⟩ := hP
            have ep : m 65 p = nI (g p) := by
              rw [r2 p (by omega) (by omega), if_neg (by omega)]
            obtain ⟨gp1, gp2⟩ := glt p hp
            have a1 : m (6 + g p) 1 = vT V (g p) 1 := by rw [r1 _ (by omega)]; exact v.2.2.1 (g p) gp2 1 (by decide)
            have a2 : m (6 + g i) 1 = vT V (g i) 1 := by rw [r1 _ (by omega)]; exact v.2.2.1 (g i) giN 1 (by decide)
            have ei : f_X6_lineUpByWeight_l2 (f_X6_lineUpByWeight_l1 f) (h + 1) (nI n) (nI i) (nI (g i)) (nI (p + 1)) m = if vT V (g p) 1 ≤ vT V (g i) 1 then f_X6_lineUpByWeight_j3 (f_X6_lineUpByWeight_l1 f) (nI n) (nI i) (nI (g i)) (nI (p + 1)) m else f_X6_lineUpByWeight_l2 (f_X6_lineUpByWeight_l1 f) h (nI n) (nI i) (nI (g i)) (nI p) (up m 65 (p + 1) (nI (g p))) := by
              show f_X6_lineUpByWeight_l2b _ _ (nI n) (nI i) (nI (g i)) (nI (p + 1)) m = _
              unfold f_X6_lineUpByWeight_l2b
              rw [if_neg (nI_nle (by omega) (by omega)), nI_pred, if_pos (inb_nI (show p < 10 by omega) (by decide)), bnd_eq, ix_nI (show p < 2 ^ 31 by omega), ep, if_pos (inb_nI (show g p < 10 by omega) (by decide)), if_pos (inb_nI (show g i < 10 by omega) (by decide)), ix_nI (show g p < 2 ^ 31 by omega), ix_nI (show g i < 2 ^ 31 by omega), a1, a2, if_pos (inb_nI (show p < 10 by omega) (by decide)), if_pos (inb_nI (show p + 1 < 10 by omega) (by decide)), bnd_eq, bnd_eq, ix_nI (show p + 1 < 2 ^ 31 by omega), pk_m1]
            by_cases c : vT V (g p) 1 ≤ vT V (g i) 1
            · rw [if_pos c] at ei
              exact Or.inl ⟨(p + 1, m), ei, r1, r0, r2, r3, Or.inr ((wle _ _ gp2 giN).mp c)⟩
            · rw [if_neg c] at ei
              have c' : wN V (g i) < wN V (g p) := by
                rcases Nat.lt_or_ge (wN V (g i)) (wN V (g p)) with z | z
                · exact z
                · exact absurd ((wle _ _ gp2 giN).mpr z) c
              refine Or.inr ⟨up m 65 (p + 1) (nI (g p)), ei, by omega, fun a ha => by rw [up_row ha]; exact r1 a ha, fun k hk hkp => ?_, fun k h1 h2 => ?_⟩
              · by_cases e : k = p + 1
                · subst e
                  rw [up_same, if_pos ⟨by omega, r0⟩]
                  rfl
                · rw [up_ne e, r2 k hk e]
                  by_cases z : p + 1 < k ∧ k ≤ i
                  · rw [if_pos z, if_pos ⟨by omega, z.2⟩]
                  · rw [if_neg z, if_neg (fun y => z ⟨by omega, y.2⟩)]
              · by_cases e : k = p
                · subst e; exact c'
                · exact r3 k (by omega) h2
          · rw [p2 k hk, if_neg (by omega)]
        obtain ⟨⟨p, m'⟩, e1, r1, r2, r3, r4, r5⟩ := inner
        have e1 : f_X6_lineUpByWeight_l2 (f_X6_lineUpByWeight_l1 f) xF (nI n) (nI i) (nI (g i)) (nI i) m = f_X6_lineUpByWeight_j3 (f_X6_lineUpByWeight_l1 f) (nI n) (nI i) (nI (g i)) (nI p) m' := e1
        have r1 : ∀ a, a ≠ 65 → m' a = im a := r1
        have r2 : p ≤ i := r2
        have r3 : ∀ k, k < n → k ≠ p → m' 65 k = nI (if p < k ∧ k ≤ i then g (k - 1) else g k) := r3
        refine Or.inr ⟨up m' 65 p (nI (g i)), ?_, fun a ha => by rw [up_row ha]; exact r1 a ha, insF g i p, fun k hk => ?_, ins_sorted r2 p3 (by omega) (fun k hk => (glt k hk).1) r5 r4, fun k h1 h2 => ?_, fun x => ?_⟩
        · show f_X6_lineUpByWeight_l1b _ (nI n) (nI i) m = _
          unfold f_X6_lineUpByWeight_l1b
          rw [if_neg (nI_ge hi (by omega)), if_pos (inb_nI (show i < 10 by omega) (by decide)), bnd_eq, ix_nI (show i < 2 ^ 31 by omega), p2 i hi, e1]
          unfold f_X6_lineUpByWeight_j3
          rw [if_pos (inb_nI (show p < 10 by omega) (by decide)), bnd_eq, bnd_eq, ix_nI (show p < 2 ^ 31 by omega), nI_1]
        · by_cases e : k = p
          · subst e; rw [up_same, ins_eq]
          · rw [up_ne e, r3 k hk e]
            rcases Nat.lt_trichotomy k p with z | z | z
            · rw [if_neg (by omega), ins_lo z]
            · exact absurd z e
            · by_cases y : k ≤ i
              · rw [if_pos ⟨z, y⟩, ins_md z y]
              · rw [if_neg (fun w => y w.2), ins_hi r2 (by omega)]
        · rw [ins_hi r2 (by omega)]; exact p4 k (by omega) h2
        · rw [ins_mem r2 x, p5 x, gi]
          constructor
          · rintro (⟨k, h1, h2⟩ | h2)
            · exact ⟨k, by omega, h2⟩
            · exact ⟨i, by omega, h2⟩
          · rintro ⟨k, h1, h2⟩
            by_cases e : k = i
            · subst e; exact Or.inr h2
            · exact Or.inl ⟨k, by omega, h2⟩
    exact key1
