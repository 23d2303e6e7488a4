/-! the tape's tokens -/
def ty (b : Nat) : Nat := if 97 ≤ b ∧ b ≤ 122 then 1 else if 48 ≤ b ∧ b ≤ 57 then 2 else if b = 32 then 5 else if b = 59 ∨ b = 45 then 3 else 4
theorem ty_c : ∀ b, b < 256 → f_X1_typeOf (nI b) = nI (ty b) := by decide +kernel
theorem ty_5 {b : Nat} : ty b = 5 ↔ b = 32 := by
  unfold ty
  by_cases c1 : 97 ≤ b ∧ b ≤ 122
  · rw [if_pos c1]; omega
  · rw [if_neg c1]
    by_cases c2 : 48 ≤ b ∧ b ≤ 57
    · rw [if_pos c2]; omega
    · rw [if_neg c2]
      by_cases c3 : b = 32
      · rw [if_pos c3]; omega
      · rw [if_neg c3]
        by_cases c4 : b = 59 ∨ b = 45
        · rw [if_pos c4]; omega
        · rw [if_neg c4]; omega
theorem ty_1 {b : Nat} : ty b = 1 ↔ 97 ≤ b ∧ b ≤ 122 := by
  unfold ty
  by_cases c1 : 97 ≤ b ∧ b ≤ 122
  · rw [if_pos c1]; omega
  · rw [if_neg c1]
    by_cases c2 : 48 ≤ b ∧ b ≤ 57
    · rw [if_pos c2]; omega
    · rw [if_neg c2]
      by_cases c3 : b = 32
      · rw [if_pos c3]; omega
      · rw [if_neg c3]
        by_cases c4 : b = 59 ∨ b = 45
        · rw [if_pos c4]; omega
        · rw [if_neg c4]; omega
theorem ty_2 {b : Nat} : ty b = 2 ↔ 48 ≤ b ∧ b ≤ 57 := by
  unfold ty
  by_cases c1 : 97 ≤ b ∧ b ≤ 122
  · rw [if_pos c1]; omega
  · rw [if_neg c1]
    by_cases c2 : 48 ≤ b ∧ b ≤ 57
    · rw [if_pos c2]; omega
    · rw [if_neg c2]
      by_cases c3 : b = 32
      · rw [if_pos c3]; omega
      · rw [if_neg c3]
        by_cases c4 : b = 59 ∨ b = 45
        · rw [if_pos c4]; omega
        · rw [if_neg c4]; omega
theorem ty_lt (b : Nat) : ty b ≤ 5 ∧ 1 ≤ ty b := by
  unfold ty
  by_cases c1 : 97 ≤ b ∧ b ≤ 122
  · rw [if_pos c1]; omega
  · rw [if_neg c1]
    by_cases c2 : 48 ≤ b ∧ b ≤ 57
    · rw [if_pos c2]; omega
    · rw [if_neg c2]
      by_cases c3 : b = 32
      · rw [if_pos c3]; omega
      · rw [if_neg c3]
        by_cases c4 : b = 59 ∨ b = 45
        · rw [if_pos c4]; omega
        · rw [if_neg c4]; omega
def wn (b : Nat) : Prop := ty b = 1 ∨ ty b = 2
def tok (B : Nat → Nat) (q p f t : Nat) : Prop := p ≤ f ∧ f ≤ q ∧ (∀ k, p ≤ k → k < f → B k = 32) ∧ ((f = q ∧ t = q) ∨ (f < q ∧ ¬ B f = 32 ∧ f < t ∧ t ≤ q ∧ (∀ k, f < k → k < t → ty (B k) = ty (B f) ∧ wn (B f)) ∧ (t < q → wn (B f) → ¬ ty (B t) = ty (B f))))
theorem tok_f {B : Nat → Nat} {q p f t f' t' : Nat} (h : tok B q p f t) (g : tok B q p f' t') : ¬ f < f' := by
  intro z
  obtain ⟨h1, h2, h3, h4⟩ := h
  obtain ⟨g1, g2, g3, g4⟩ := g
  have e := g3 f h1 z
  rcases h4 with ⟨y, -⟩ | ⟨-, y, -⟩
  · omega
  · exact y e
theorem tok_t {B : Nat → Nat} {q p f t t' : Nat} (h : tok B q p f t) (g : tok B q p f t') : ¬ t < t' := by
  intro z
  obtain ⟨h1, h2, h3, h4⟩ := h
  obtain ⟨g1, g2, g3, g4⟩ := g
  rcases h4 with ⟨y1, y2⟩ | ⟨y1, y2, y3, y4, y5, y6⟩
  · rcases g4 with ⟨w1, w2⟩ | ⟨w1, -⟩
    · omega
    · omega
  · rcases g4 with ⟨w1, w2⟩ | ⟨w1, w2, w3, w4, w5, w6⟩
    · omega
    · obtain ⟨e1, e2⟩ := w5 t y3 z
      exact y6 (by omega) e2 e1
theorem tok_u {B : Nat → Nat} {q p f t f' t' : Nat} (h : tok B q p f t) (g : tok B q p f' t') : f = f' ∧ t = t' := by
  have e : f = f' := by
    have a := tok_f h g
    have b := tok_f g h
    omega
  subst e
  have a := tok_t h g
  have b := tok_t g h
  exact ⟨rfl, by omega⟩
def cv (B : Nat → Nat) (f : Nat) : Nat → Nat
  | 0 => 0
  | n + 1 => if cv B f n * 10 + B (f + n) - 48 < 1000 then cv B f n * 10 + B (f + n) - 48 else 1000
theorem cv_le {B : Nat → Nat} {f : Nat} : ∀ n, cv B f n ≤ 1000
  | 0 => by show 0 ≤ 1000; omega
  | n + 1 => by
    show (if cv B f n * 10 + B (f + n) - 48 < 1000 then cv B f n * 10 + B (f + n) - 48 else 1000) ≤ 1000
    by_cases c : cv B f n * 10 + B (f + n) - 48 < 1000
    · rw [if_pos c]; omega
    · rw [if_neg c]; omega
def pe (te : Nat → Nat) : Nat → Nat
  | 0 => 0
  | j + 1 => te j
theorem pe_cg {te te' : Nat → Nat} {n : Nat} (h : ∀ j, j < n → te j = te' j) : ∀ j, j ≤ n → pe te j = pe te' j
  | 0, _ => rfl
  | j + 1, hj => h j (by omega)
/-- what is read of the tape -/
def tape (im : IM) (B : Nat → Nat) (q : Nat) : Prop := q ≤ 120 ∧ (∀ k, B k < 256) ∧ ∀ k, k < q → im 67 k = nI (B k)
/-- the arrays' rows of token j -/
def arr (m : IM) (B : Nat → Nat) (tb te : Nat → Nat) (j : Nat) : Prop := m 68 j = nI (tb j) ∧ m 69 j = nI (te j) ∧ m 70 j = nI (ty (B (tb j))) ∧ (ty (B (tb j)) = 2 → m 71 j = nI (cv B (tb j) (te j - tb j)))
def sfr (im m : IM) : Prop := (∀ a, a ≠ 66 → ¬ (68 ≤ a ∧ a ≤ 71) → m a = im a) ∧ ∀ k, k ≠ 6 → m 66 k = im 66 k
/-- the last token, which may still grow -/
def otk (B : Nat → Nat) (i p f t : Nat) : Prop := p ≤ f ∧ f < t ∧ t ≤ i ∧ (∀ k, p ≤ k → k < f → B k = 32) ∧ ¬ B f = 32 ∧ (∀ k, f < k → k < t → ty (B k) = ty (B f) ∧ wn (B f)) ∧ ∀ k, t ≤ k → k < i → B k = 32
def spP (im : IM) (B : Nat → Nat) (q i n : Nat) (tb te : Nat → Nat) (m : IM) : Prop := m 66 6 = nI n ∧ n ≤ i ∧ sfr im m ∧ (∀ j, j < n → arr m B tb te j) ∧ (∀ j, j + 1 < n → tok B q (pe te j) (tb j) (te j) ∧ tb j < q) ∧ (n = 0 → ∀ k, k < i → B k = 32) ∧ (1 ≤ n → otk B i (pe te (n - 1)) (tb (n - 1)) (te (n - 1)))
def bfI (B : Nat → Nat) : Nat → Nat
  | 0 => 5
  | i + 1 => ty (B i)
theorem grow_c {m : IM} {j i : Nat} (hj : j < 121) (hi : i < 120) : f_X1_growToken (nI j) (nI i) m = some (if m 70 j = 2 then up (up m 69 j (nI (i + 1))) 71 j (jmin 1000 ((m 71 j * 10 + m 67 i) - 48)) else up m 69 j (nI (i + 1))) := by
  have ib := inb_nI hj (show 121 < 2 ^ 31 by decide)
  unfold f_X1_growToken
  rw [if_pos ib, bnd_eq, ix_nI (show j < 2 ^ 31 by omega), ix_nI (show i < 2 ^ 31 by omega), nI_1, if_pos ib, up_row (show (70 : Nat) ≠ 69 by decide), up_row (show (71 : Nat) ≠ 69 by decide), up_row (show (67 : Nat) ≠ 69 by decide)]
  simp only [if_pos ib, if_pos (inb_nI hi (show 120 < 2 ^ 31 by decide)), bnd_eq]
  by_cases c : m 70 j = 2
  · rw [if_pos c, if_pos c]
  · rw [if_neg c, if_neg c]
theorem begin_t {m : IM} {n : Nat} {p t : Int32} (h : m 66 6 = nI n) (hn : n ≤ 120) : f_X1_beginToken p t m = some (up (up (up (up (up m 68 n p) 69 n p) 70 n t) 71 n 0) 66 6 (nI (n + 1))) := by
  have ib := inb_nI (show n < 121 by omega) (show 121 < 2 ^ 31 by decide)
  unfold f_X1_beginToken
  rw [h, if_neg (by rw [nI_gt_lit (n := 120) 120 (by decide) (by omega)]; omega), if_pos ib, bnd_eq, ix_nI (show n < 2 ^ 31 by omega), up_row (show (66 : Nat) ≠ 68 by decide), h, if_pos ib, bnd_eq, ix_nI (show n < 2 ^ 31 by omega), up_row (show (66 : Nat) ≠ 69 by decide), up_row (show (66 : Nat) ≠ 68 by decide), h, if_pos ib, bnd_eq, ix_nI (show n < 2 ^ 31 by omega), up_row (show (66 : Nat) ≠ 70 by decide), up_row (show (66 : Nat) ≠ 69 by decide), up_row (show (66 : Nat) ≠ 68 by decide), h, if_pos ib, bnd_eq, ix_nI (show n < 2 ^ 31 by omega), bnd_eq, up_row (show (66 : Nat) ≠ 71 by decide), up_row (show (66 : Nat) ≠ 70 by decide), up_row (show (66 : Nat) ≠ 69 by decide), up_row (show (66 : Nat) ≠ 68 by decide), h, nI_1]
theorem cv_step {c b : Nat} (hc : c ≤ 1000) (h1 : 48 ≤ b) (h2 : b < 256) : jmin 1000 ((nI c * 10 + nI b) - 48) = nI (if c * 10 + b - 48 < 1000 then c * 10 + b - 48 else 1000) := by
  rw [show (10 : Int32) = nI 10 from rfl, pk_mul, nI_add, show (48 : Int32) = nI 48 from rfl, pk_sub (by omega)]
  unfold jmin
  by_cases c1 : c * 10 + b - 48 < 1000
  · rw [if_pos ((nI_lt_lit (n := 1000) 1000 (by decide) (by omega)).mpr c1), if_pos c1]
  · rw [if_neg (fun z => c1 ((nI_lt_lit (n := 1000) 1000 (by decide) (by omega)).mp z)), if_neg c1]
    rfl
/-- the last token is whole once another byte follows that isn't its own -/
theorem otk_tok {B : Nat → Nat} {q i p f t : Nat} (h : otk B i p f t) (hi : i ≤ q) (hs : t = i → i < q → wn (B f) → ¬ ty (B i) = ty (B f)) : tok B q p f t ∧ f < q := by
  obtain ⟨h1, h2, h3, h4, h5, h6, h7⟩ := h
  refine ⟨⟨h1, by omega, h4, Or.inr ⟨by omega, h5, h2, by omega, h6, fun z1 z2 => ?_⟩⟩, by omega⟩
  by_cases e : t = i
  · subst e; exact hs rfl z1 z2
  · have e5 := ty_5.mpr (h7 t (Nat.le_refl _) (by omega))
    rw [e5]
    rcases z2 with z | z
    · rw [z]; decide
    · rw [z]; decide
theorem split_c {im : IM} {B : Nat → Nat} {q : Nat} (hT : tape im B q) (hq : im 66 1 = nI q) : ∃ c : Nat × (Nat → Nat) × (Nat → Nat) × IM, f_X1_splitTape im = some c.2.2.2 ∧ (c.1 ≤ q ∧ c.2.2.2 66 6 = nI (c.1 + 1) ∧ sfr im c.2.2.2 ∧ (∀ j, j < c.1 → arr c.2.2.2 B c.2.1 c.2.2.1 j ∧ c.2.1 j < q) ∧ (∀ j, j ≤ c.1 → tok B q (pe c.2.2.1 j) (c.2.1 j) (c.2.2.1 j)) ∧ c.2.1 c.1 = q ∧ c.2.2.1 c.1 = q ∧ c.2.2.2 68 c.1 = nI q ∧ c.2.2.2 70 c.1 = 0) := by
  obtain ⟨q120, B256, tB⟩ := hT
  unfold f_X1_splitTape
  rw [bnd_eq]
  refine loopG (fun f (s : Int32 × IM) i => f_X1_splitTape_l1 f s.1 i s.2) (fun c : Nat × (Nat → Nat) × (Nat → Nat) × IM => some c.2.2.2) 0 0 rfl q (by omega) (by omega) (fun i s => s.1 = nI (bfI B i) ∧ ∃ n tb te, spP im B q i n tb te s.2) _ (fun f s hP => ?_) (fun f s i hi0 hi hP => Or.inr ?_) (5, up im 66 6 0) ⟨rfl, 0, fun _ => 0, fun _ => 0, (up_same : up im 66 6 0 66 6 = 0), Nat.le_refl _, ⟨fun a h1 h2 => up_row h1, fun k hk => (up_ne hk : up im 66 6 0 66 k = im 66 k)⟩, fun j hj => absurd hj (Nat.not_lt_zero _), fun j hj => absurd hj (Nat.not_lt_zero _), fun _ k hk => absurd hk (Nat.not_lt_zero _), fun z => absurd z (by omega)⟩
  · obtain ⟨-, n, tb, te, s1, s2, s3, s4, s5, s6, s7⟩ := hP
    have e66 : s.2 66 1 = nI q := by rw [s3.2 1 (by decide)]; exact hq
    refine ⟨(n, (fun j => if j = n then q else tb j), (fun j => if j = n then q else te j), up (up (up (up (up s.2 68 n (nI q)) 69 n (nI q)) 70 n 0) 71 n 0) 66 6 (nI (n + 1))), ?_, s2, (up_same : up (up (up (up (up s.2 68 n (nI q)) 69 n (nI q)) 70 n 0) 71 n 0) 66 6 (nI (n + 1)) 66 6 = nI (n + 1)), ⟨fun a h1 h2 => ?_, fun k hk => ?_⟩, fun j hj => ?_, fun j hj => ?_, if_pos rfl, if_pos rfl, ?_, ?_⟩
    · show f_X1_splitTape_l1b _ s.1 (nI q) s.2 = _
      unfold f_X1_splitTape_l1b
      rw [e66, if_pos (Int32.le_refl _), begin_t s1 (by omega), Option.bind_some]
    · show up (up (up (up (up s.2 68 n (nI q)) 69 n (nI q)) 70 n 0) 71 n 0) 66 6 (nI (n + 1)) a = im a
      rw [up_row h1, up_row (by omega), up_row (by omega), up_row (by omega), up_row (by omega)]
      exact s3.1 a h1 h2
    · show up (up (up (up (up s.2 68 n (nI q)) 69 n (nI q)) 70 n 0) 71 n 0) 66 6 (nI (n + 1)) 66 k = im 66 k
      rw [up_ne hk, up_row (by decide), up_row (by decide), up_row (by decide), up_row (by decide)]
      exact s3.2 k hk
    · have hj : j < n := hj
      obtain ⟨a1, a2, a3, a4⟩ := s4 j hj
      have et : ∀ g : Nat → Nat, (if j = n then q else g j) = g j := fun g => if_neg (by omega)
      refine ⟨⟨?_, ?_, ?_, fun z => ?_⟩, ?_⟩
      · show up (up (up (up (up s.2 68 n (nI q)) 69 n (nI q)) 70 n 0) 71 n 0) 66 6 (nI (n + 1)) 68 j = nI (if j = n then q else tb j)
        rw [et, up_row (by decide), up_row (by decide), up_row (by decide), up_row (by decide), up_ne (by omega)]; exact a1
      · show up (up (up (up (up s.2 68 n (nI q)) 69 n (nI q)) 70 n 0) 71 n 0) 66 6 (nI (n + 1)) 69 j = nI (if j = n then q else te j)
        rw [et, up_row (by decide), up_row (by decide), up_row (by decide), up_ne (by omega), up_row (by decide)]; exact a2
      · show up (up (up (up (up s.2 68 n (nI q)) 69 n (nI q)) 70 n 0) 71 n 0) 66 6 (nI (n + 1)) 70 j = nI (ty (B (if j = n then q else tb j)))
        rw [et, up_row (by decide), up_row (by decide), up_ne (by omega), up_row (by decide), up_row (by decide)]; exact a3
      · have z : ty (B (if j = n then q else tb j)) = 2 := z
        rw [et] at z
        show up (up (up (up (up s.2 68 n (nI q)) 69 n (nI q)) 70 n 0) 71 n 0) 66 6 (nI (n + 1)) 71 j = nI (cv B (if j = n then q else tb j) ((if j = n then q else te j) - (if j = n then q else tb j)))
        rw [et, et, up_row (by decide), up_ne (by omega), up_row (by decide), up_row (by decide), up_row (by decide)]; exact a4 z
      · show (if j = n then q else tb j) < q
        rw [et]
        by_cases c : j + 1 < n
        · exact (s5 j c).2
        · have e : j = n - 1 := by omega
          have o := s7 (by omega)
          rw [← e] at o
          exact (otk_tok o (Nat.le_refl _) (fun _ z => absurd z (by omega))).2
    · have hj : j ≤ n := hj
      show tok B q (pe (fun j => if j = n then q else te j) j) (if j = n then q else tb j) (if j = n then q else te j)
      have ep : pe (fun j => if j = n then q else te j) j = pe te j := pe_cg (n := n) (fun k hk => by show (if k = n then q else te k) = te k; rw [if_neg (by omega)]) j hj
      rw [ep]
      by_cases e : j = n
      · subst e
        rw [if_pos rfl, if_pos rfl]
        cases j with
        | zero => exact ⟨Nat.zero_le _, Nat.le_refl _, fun k _ hk => s6 rfl k hk, Or.inl ⟨rfl, rfl⟩⟩
        | succ j =>
          have o := s7 (by omega)
          exact ⟨o.2.2.1, Nat.le_refl _, fun k h1 h2 => o.2.2.2.2.2.2 k h1 h2, Or.inl ⟨rfl, rfl⟩⟩
      · rw [if_neg e, if_neg e]
        by_cases c : j + 1 < n
        · exact (s5 j c).1
        · have e : j = n - 1 := by omega
          have o := s7 (by omega)
          rw [← e] at o
          exact (otk_tok o (Nat.le_refl _) (fun _ z => absurd z (by omega))).1
    · show up (up (up (up (up s.2 68 n (nI q)) 69 n (nI q)) 70 n 0) 71 n 0) 66 6 (nI (n + 1)) 68 n = nI q
      rw [up_row (by decide), up_row (by decide), up_row (by decide), up_row (by decide), up_same]
    · show up (up (up (up (up s.2 68 n (nI q)) 69 n (nI q)) 70 n 0) 71 n 0) 66 6 (nI (n + 1)) 70 n = 0
      rw [up_row (by decide), up_row (by decide), up_same]
  · obtain ⟨hb, n, tb, te, s1, s2, s3, s4, s5, s6, s7⟩ := hP
    have e66 : s.2 66 1 = nI q := by rw [s3.2 1 (by decide)]; exact hq
    have e67 : s.2 67 i = nI (B i) := by rw [s3.1 67 (by decide) (by omega)]; exact tB i hi
    have hB := B256 i
    have tl := ty_lt (B i)
    -- the head of a step
    have hd : f_X1_splitTape_l1 (f + 1) s.1 (nI i) s.2 = if nI (ty (B i)) = nI (bfI B i) then (if nI (ty (B i)) = 1 then f_X1_splitTape_j6 (f_X1_splitTape_l1 f) (nI i) (nI (ty (B i))) s.2 else if nI (ty (B i)) = 2 then f_X1_splitTape_j6 (f_X1_splitTape_l1 f) (nI i) (nI (ty (B i))) s.2 else f_X1_splitTape_j2 (f_X1_splitTape_l1 f) (nI i) (nI (ty (B i))) s.2) else f_X1_splitTape_j2 (f_X1_splitTape_l1 f) (nI i) (nI (ty (B i))) s.2 := by
      show f_X1_splitTape_l1b _ s.1 (nI i) s.2 = _
      unfold f_X1_splitTape_l1b
      rw [e66, if_neg (nI_ge hi (by omega)), if_pos (inb_nI (show i < 120 by omega) (by decide)), ix_nI (by omega), e67, ty_c _ hB, bnd_eq, hb]
    have bl : bfI B i ≤ 5 := by
      cases i with
      | zero => exact Nat.le_refl _
      | succ i => exact (ty_lt _).1
    by_cases t5 : ty (B i) = 5
    · have n5 : (nI (ty (B i)) : Int32) = 5 := by rw [t5]; rfl
      have e0 : f_X1_splitTape_l1 (f + 1) s.1 (nI i) s.2 = f_X1_splitTape_l1 f (nI (bfI B (i + 1))) (nI (i + 1)) s.2 := by
        rw [hd]
        unfold f_X1_splitTape_j6 f_X1_splitTape_j2 f_X1_splitTape_j3 f_X1_splitTape_j4 f_X1_splitTape_j5
        rw [n5]
        simp only [bnd_eq, nI_1]
        show _ = f_X1_splitTape_l1 f (nI (ty (B i))) (nI (i + 1)) s.2
        rw [n5]
        by_cases z : (5 : Int32) = nI (bfI B i)
        · rw [if_pos z, if_neg (by decide), if_neg (by decide)]
          rw [if_pos trivial, if_pos trivial]
        · rw [if_neg z, if_pos trivial, if_pos trivial]
      refine ⟨(nI (bfI B (i + 1)), s.2), e0, rfl, n, tb, te, s1, by omega, s3, s4, s5, fun z k hk => ?_, fun z => ?_⟩
      · by_cases e : k = i
        · subst e; exact ty_5.mp t5
        · exact s6 z k (by omega)
      · obtain ⟨o1, o2, o3, o4, o5, o6, o7⟩ := s7 z
        refine ⟨o1, o2, by omega, o4, o5, o6, fun k h1 h2 => ?_⟩
        by_cases e : k = i
        · subst e; exact ty_5.mp t5
        · exact o7 k h1 (by omega)
    · have x5 : ¬ (nI (ty (B i)) : Int32) = 5 := by
        rw [nI_eq_lit (n := 5) 5 (by decide) (by omega)]; exact t5
      -- a byte of the last token before i
      have last : 1 ≤ n → te (n - 1) = i → 1 ≤ i ∧ bfI B i = ty (B (tb (n - 1))) := by
        intro z1 z2
        obtain ⟨o1, o2, o3, o4, o5, o6, o7⟩ := s7 z1
        obtain ⟨i', rfl⟩ : ∃ i', i = i' + 1 := ⟨i - 1, by omega⟩
        refine ⟨by omega, ?_⟩
        show ty (B i') = _
        by_cases e : i' = tb (n - 1)
        · rw [e]
        · exact (o6 i' (by omega) (by omega)).1
      by_cases gO : ty (B i) = bfI B i ∧ wn (B i)
      · obtain ⟨i', ei⟩ : ∃ i', i = i' + 1 := by
          cases i with
          | zero => exact absurd gO.1 t5
          | succ i' => exact ⟨i', rfl⟩
        have bi : bfI B i = ty (B i') := by rw [ei]; rfl
        have nb : ¬ B i' = 32 := fun z => t5 (by rw [gO.1, bi]; exact ty_5.mpr z)
        have n1 : 1 ≤ n := by
          rcases Nat.eq_zero_or_pos n with z | z
          · exact absurd (s6 z i' (by omega)) nb
          · exact z
        obtain ⟨o1, o2, o3, o4, o5, o6, o7⟩ := s7 n1
        have ti : te (n - 1) = i := by
          rcases Nat.lt_or_ge (te (n - 1)) i with z | z
          · exact absurd (o7 i' (by omega) (by omega)) nb
          · omega
        have tf : ty (B i) = ty (B (tb (n - 1))) := by rw [gO.1, (last n1 ti).2]
        obtain ⟨a1, a2, a3, a4⟩ := s4 (n - 1) (by omega)
        have e70 : (s.2 70 (n - 1) = 2) ↔ ty (B i) = 2 := by
          rw [a3, ← tf, nI_eq_lit (n := 2) 2 (by decide) (by omega)]
        have e0 : f_X1_splitTape_l1 (f + 1) s.1 (nI i) s.2 = f_X1_splitTape_l1 f (nI (bfI B (i + 1))) (nI (i + 1)) (if s.2 70 (n - 1) = 2 then up (up s.2 69 (n - 1) (nI (i + 1))) 71 (n - 1) (jmin 1000 ((s.2 71 (n - 1) * 10 + s.2 67 i) - 48)) else up s.2 69 (n - 1) (nI (i + 1))) := by
          have j6 : f_X1_splitTape_j6 (f_X1_splitTape_l1 f) (nI i) (nI (ty (B i))) s.2 = f_X1_splitTape_l1 f (nI (bfI B (i + 1))) (nI (i + 1)) (if s.2 70 (n - 1) = 2 then up (up s.2 69 (n - 1) (nI (i + 1))) 71 (n - 1) (jmin 1000 ((s.2 71 (n - 1) * 10 + s.2 67 i) - 48)) else up s.2 69 (n - 1) (nI (i + 1))) := by
            unfold f_X1_splitTape_j6 f_X1_splitTape_j3 f_X1_splitTape_j4 f_X1_splitTape_j5
            have en : nI n - 1 = nI (n - 1) := by rw [show (1 : Int32) = nI 1 from rfl, pk_sub n1]
            rw [if_neg x5, if_neg i10, if_neg x5, s1, if_neg (nI_nle (by omega) (by omega)), en, grow_c (by omega) (by omega), Option.bind_some, bnd_eq, nI_1]
            rfl
          rw [hd, if_pos (by rw [gO.1]), j6]
          rcases gO.2 with z | z
          · rw [z, if_pos (by decide)]
          · rw [z, if_neg (by decide), if_pos (by decide)]
        have rows : ∀ a, a ≠ 69 → a ≠ 71 → (if s.2 70 (n - 1) = 2 then up (up s.2 69 (n - 1) (nI (i + 1))) 71 (n - 1) (jmin 1000 ((s.2 71 (n - 1) * 10 + s.2 67 i) - 48)) else up s.2 69 (n - 1) (nI (i + 1))) a = s.2 a := by
          intro a h1 h2
          by_cases c : s.2 70 (n - 1) = 2
          · rw [if_pos c, up_row h2, up_row h1]
          · rw [if_neg c, up_row h1]
        have r69 : (if s.2 70 (n - 1) = 2 then up (up s.2 69 (n - 1) (nI (i + 1))) 71 (n - 1) (jmin 1000 ((s.2 71 (n - 1) * 10 + s.2 67 i) - 48)) else up s.2 69 (n - 1) (nI (i + 1))) 69 = up s.2 69 (n - 1) (nI (i + 1)) 69 := by
          by_cases c : s.2 70 (n - 1) = 2
          · rw [if_pos c, up_row (by decide)]
          · rw [if_neg c]
        have r71 : (if s.2 70 (n - 1) = 2 then up (up s.2 69 (n - 1) (nI (i + 1))) 71 (n - 1) (jmin 1000 ((s.2 71 (n - 1) * 10 + s.2 67 i) - 48)) else up s.2 69 (n - 1) (nI (i + 1))) 71 = if s.2 70 (n - 1) = 2 then up s.2 71 (n - 1) (jmin 1000 ((s.2 71 (n - 1) * 10 + s.2 67 i) - 48)) 71 else s.2 71 := by
          by_cases c : s.2 70 (n - 1) = 2
          · rw [if_pos c, if_pos c]
            funext k
            by_cases e : k = n - 1
            · subst e; rw [up_same, up_same]
            · rw [up_ne e, up_ne e, up_row (by decide)]
          · rw [if_neg c, if_neg c, up_row (by decide)]
        generalize (if s.2 70 (n - 1) = 2 then up (up s.2 69 (n - 1) (nI (i + 1))) 71 (n - 1) (jmin 1000 ((s.2 71 (n - 1) * 10 + s.2 67 i) - 48)) else up s.2 69 (n - 1) (nI (i + 1))) = m' at e0 rows r69 r71
        refine ⟨(nI (bfI B (i + 1)), m'), e0, rfl, n, tb, fun j => if j = n - 1 then i + 1 else te j, ?_⟩
        have et : ∀ j, j ≠ n - 1 → (if j = n - 1 then i + 1 else te j) = te j := fun j h => if_neg h
        have ep : ∀ j, j ≤ n - 1 → pe (fun j => if j = n - 1 then i + 1 else te j) j = pe te j := pe_cg (fun k hk => et k (by omega))
        refine ⟨by show m' 66 6 = nI n; rw [rows 66 (by decide) (by decide)]; exact s1, by omega, ⟨fun a h1 h2 => by show m' a = im a; rw [rows a (by omega) (by omega)]; exact s3.1 a h1 h2, fun k hk => by show m' 66 k = im 66 k; rw [rows 66 (by decide) (by decide)]; exact s3.2 k hk⟩, fun j hj => ?_, fun j hj => ?_, fun z => absurd z (by omega), fun _ => ?_⟩
        · obtain ⟨b1, b2, b3, b4⟩ := s4 j hj
          show m' 68 j = nI (tb j) ∧ m' 69 j = nI (if j = n - 1 then i + 1 else te j) ∧ m' 70 j = nI (ty (B (tb j))) ∧ (ty (B (tb j)) = 2 → m' 71 j = nI (cv B (tb j) ((if j = n - 1 then i + 1 else te j) - tb j)))
          rw [rows 68 (by decide) (by decide), rows 70 (by decide) (by decide), r69, r71]
          by_cases e : j = n - 1
          · subst e
            refine ⟨b1, by rw [up_same, if_pos rfl], b3, fun z => ?_⟩
            have t2 : ty (B i) = 2 := by rw [tf]; exact z
            have hd2 := ty_2.mp t2
            rw [if_pos (e70.mpr t2), up_same, if_pos rfl, b4 z, e67, cv_step (cv_le _) hd2.1 hB, ti]
            have ek : i + 1 - tb (n - 1) = (i - tb (n - 1)) + 1 := by omega
            rw [ek]
            show _ = nI (if cv B (tb (n - 1)) (i - tb (n - 1)) * 10 + B (tb (n - 1) + (i - tb (n - 1))) - 48 < 1000 then cv B (tb (n - 1)) (i - tb (n - 1)) * 10 + B (tb (n - 1) + (i - tb (n - 1))) - 48 else 1000)
            rw [show tb (n - 1) + (i - tb (n - 1)) = i by omega]
          · rw [up_ne e, et j e]
            refine ⟨b1, b2, b3, fun z => ?_⟩
            by_cases c : s.2 70 (n - 1) = 2
            · rw [if_pos c, up_ne e]; exact b4 z
            · rw [if_neg c]; exact b4 z
        · show tok B q (pe (fun j => if j = n - 1 then i + 1 else te j) j) (tb j) (if j = n - 1 then i + 1 else te j) ∧ tb j < q
          rw [ep j (by omega), et j (by omega)]
          exact s5 j hj
        · show otk B (i + 1) (pe (fun j => if j = n - 1 then i + 1 else te j) (n - 1)) (tb (n - 1)) (if n - 1 = n - 1 then i + 1 else te (n - 1))
          rw [ep (n - 1) (Nat.le_refl _), if_pos rfl]
          refine ⟨o1, by omega, Nat.le_refl _, o4, o5, fun k h1 h2 => ?_, fun k h1 h2 => absurd h2 (by omega)⟩
          by_cases e : k = i
          · subst e
            refine ⟨tf, ?_⟩
            unfold wn
            rw [← tf]
            exact gO.2
          · exact o6 k h1 (by omega)
      · have m1d : f_X1_beginToken (nI i) (nI (ty (B i))) s.2 = some (up (up (up (up (up s.2 68 n (nI i)) 69 n (nI i)) 70 n (nI (ty (B i)))) 71 n 0) 66 6 (nI (n + 1))) := begin_t s1 (by omega)
        generalize hm1 : up (up (up (up (up s.2 68 n (nI i)) 69 n (nI i)) 70 n (nI (ty (B i)))) 71 n 0) 66 6 (nI (n + 1)) = m1 at m1d
        have q66 : m1 66 6 = nI (n + 1) := by rw [← hm1, up_same]
        have q70 : m1 70 n = nI (ty (B i)) := by rw [← hm1, up_row (by decide), up_row (by decide), up_same]
        have q71 : m1 71 n = 0 := by rw [← hm1, up_row (by decide), up_same]
        have q67 : m1 67 i = nI (B i) := by rw [← hm1, up_row (by decide), up_row (by decide), up_row (by decide), up_row (by decide), up_row (by decide)]; exact e67
        have e0 : f_X1_splitTape_l1 (f + 1) s.1 (nI i) s.2 = f_X1_splitTape_l1 f (nI (bfI B (i + 1))) (nI (i + 1)) (if m1 70 n = 2 then up (up m1 69 n (nI (i + 1))) 71 n (jmin 1000 ((m1 71 n * 10 + m1 67 i) - 48)) else up m1 69 n (nI (i + 1))) := by
          have j2 : f_X1_splitTape_j2 (f_X1_splitTape_l1 f) (nI i) (nI (ty (B i))) s.2 = f_X1_splitTape_l1 f (nI (bfI B (i + 1))) (nI (i + 1)) (if m1 70 n = 2 then up (up m1 69 n (nI (i + 1))) 71 n (jmin 1000 ((m1 71 n * 10 + m1 67 i) - 48)) else up m1 69 n (nI (i + 1))) := by
            unfold f_X1_splitTape_j2 f_X1_splitTape_j3 f_X1_splitTape_j4 f_X1_splitTape_j5
            rw [if_neg x5, if_pos rfl, m1d, Option.bind_some, if_neg x5, q66, if_neg (nI_nle (by omega) (by omega)), nI_pred, grow_c (by omega) (by omega), Option.bind_some, bnd_eq, nI_1]
            rfl
          rw [hd]
          by_cases z : nI (ty (B i)) = nI (bfI B i)
          · have ze := nI_u (by omega) (by omega) z
            rw [if_pos z, if_neg (fun y => gO ⟨ze, Or.inl ((nI_eq_lit (n := 1) 1 (by decide) (by omega)).mp y)⟩), if_neg (fun y => gO ⟨ze, Or.inr ((nI_eq_lit (n := 2) 2 (by decide) (by omega)).mp y)⟩), j2]
          · rw [if_neg z, j2]
        have e2 : (m1 70 n = 2) ↔ ty (B i) = 2 := by rw [q70, nI_eq_lit (n := 2) 2 (by decide) (by omega)]
        have rows : ∀ a, a ≠ 69 → a ≠ 71 → (if m1 70 n = 2 then up (up m1 69 n (nI (i + 1))) 71 n (jmin 1000 ((m1 71 n * 10 + m1 67 i) - 48)) else up m1 69 n (nI (i + 1))) a = m1 a := by
          intro a h1 h2
          by_cases c : m1 70 n = 2
          · rw [if_pos c, up_row h2, up_row h1]
          · rw [if_neg c, up_row h1]
        have r69 : (if m1 70 n = 2 then up (up m1 69 n (nI (i + 1))) 71 n (jmin 1000 ((m1 71 n * 10 + m1 67 i) - 48)) else up m1 69 n (nI (i + 1))) 69 = up m1 69 n (nI (i + 1)) 69 := by
          by_cases c : m1 70 n = 2
          · rw [if_pos c, up_row (by decide)]
          · rw [if_neg c]
        have r71 : (if m1 70 n = 2 then up (up m1 69 n (nI (i + 1))) 71 n (jmin 1000 ((m1 71 n * 10 + m1 67 i) - 48)) else up m1 69 n (nI (i + 1))) 71 = if m1 70 n = 2 then up m1 71 n (jmin 1000 ((m1 71 n * 10 + m1 67 i) - 48)) 71 else m1 71 := by
          by_cases c : m1 70 n = 2
          · rw [if_pos c, if_pos c]
            funext k
            by_cases e : k = n
            · subst e; rw [up_same, up_same]
            · rw [up_ne e, up_ne e, up_row (by decide)]
          · rw [if_neg c, if_neg c, up_row (by decide)]
        generalize (if m1 70 n = 2 then up (up m1 69 n (nI (i + 1))) 71 n (jmin 1000 ((m1 71 n * 10 + m1 67 i) - 48)) else up m1 69 n (nI (i + 1))) = m' at e0 rows r69 r71
        refine ⟨(nI (bfI B (i + 1)), m'), e0, rfl, n + 1, fun j => if j = n then i else tb j, fun j => if j = n then i + 1 else te j, ?_⟩
        have et : ∀ j, j ≠ n → ∀ (x : Nat) (g : Nat → Nat), (if j = n then x else g j) = g j := fun j h x g => if_neg h
        have ep : ∀ j, j ≤ n → pe (fun j => if j = n then i + 1 else te j) j = pe te j := pe_cg (fun k hk => et k (by omega) _ _)
        have m1o : ∀ a, a ≠ 66 → ¬ (68 ≤ a ∧ a ≤ 71) → m1 a = s.2 a := fun a h1 h2 => by rw [← hm1, up_row h1, up_row (by omega), up_row (by omega), up_row (by omega), up_row (by omega)]
        refine ⟨by show m' 66 6 = nI (n + 1); rw [rows 66 (by decide) (by decide)]; exact q66, by omega, ⟨fun a h1 h2 => by show m' a = im a; rw [rows a (by omega) (by omega), m1o a h1 h2]; exact s3.1 a h1 h2, fun k hk => ?_⟩, fun j hj => ?_, fun j hj => ?_, fun z => absurd z (by omega), fun _ => ?_⟩
        · show m' 66 k = im 66 k
          rw [rows 66 (by decide) (by decide), ← hm1, up_ne hk, up_row (by decide), up_row (by decide), up_row (by decide), up_row (by decide)]
          exact s3.2 k hk
        · show m' 68 j = nI (if j = n then i else tb j) ∧ m' 69 j = nI (if j = n then i + 1 else te j) ∧ m' 70 j = nI (ty (B (if j = n then i else tb j))) ∧ (ty (B (if j = n then i else tb j)) = 2 → m' 71 j = nI (cv B (if j = n then i else tb j) ((if j = n then i + 1 else te j) - (if j = n then i else tb j))))
          rw [rows 68 (by decide) (by decide), rows 70 (by decide) (by decide), r69, r71]
          by_cases e : j = n
          · subst e
            rw [if_pos rfl, if_pos rfl, up_same, q70]
            refine ⟨?_, rfl, rfl, fun z => ?_⟩
            · rw [← hm1, up_row (by decide), up_row (by decide), up_row (by decide), up_row (by decide), up_same]
            · have hd2 := ty_2.mp z
              have cs := cv_step (c := 0) (by omega) hd2.1 hB
              rw [if_pos (by rw [z]; rfl), up_same, q71, q67, show i + 1 - i = 0 + 1 by omega]
              exact cs
          · obtain ⟨b1, b2, b3, b4⟩ := s4 j (by omega)
            rw [et j e, et j e, up_ne e]
            refine ⟨?_, ?_, ?_, fun z => ?_⟩
            · rw [← hm1, up_row (by decide), up_row (by decide), up_row (by decide), up_row (by decide), up_ne e]; exact b1
            · rw [← hm1, up_row (by decide), up_row (by decide), up_row (by decide), up_ne e, up_row (by decide)]; exact b2
            · rw [← hm1, up_row (by decide), up_row (by decide), up_ne e, up_row (by decide), up_row (by decide)]; exact b3
            · have e71 : m1 71 j = s.2 71 j := by rw [← hm1, up_row (by decide), up_ne e, up_row (by decide), up_row (by decide), up_row (by decide)]
              by_cases c : m1 70 n = 2
              · rw [if_pos c, up_ne e, e71]; exact b4 z
              · rw [if_neg c, e71]; exact b4 z
        · show tok B q (pe (fun j => if j = n then i + 1 else te j) j) (if j = n then i else tb j) (if j = n then i + 1 else te j) ∧ (if j = n then i else tb j) < q
          rw [ep j (by omega), et j (by omega), et j (by omega)]
          by_cases c : j + 1 < n
          · exact s5 j c
          · have ej : j = n - 1 := by omega
            have o := s7 (by omega)
            rw [← ej] at o
            refine otk_tok o (by omega) (fun z1 z2 z3 z4 => ?_)
            have l := last (by omega) (by rw [← ej]; exact z1)
            rw [← ej] at l
            refine gO ⟨by rw [z4, l.2], ?_⟩
            unfold wn
            rw [z4]
            exact z3
        · show otk B (i + 1) (pe (fun j => if j = n then i + 1 else te j) (n + 1 - 1)) (if n + 1 - 1 = n then i else tb (n + 1 - 1)) (if n + 1 - 1 = n then i + 1 else te (n + 1 - 1))
          rw [show n + 1 - 1 = n by omega, ep n (Nat.le_refl _), if_pos rfl, if_pos rfl]
          have hbl : pe te n ≤ i ∧ ∀ k, pe te n ≤ k → k < i → B k = 32 := by
            cases n with
            | zero => exact ⟨Nat.zero_le _, fun k _ hk => s6 rfl k hk⟩
            | succ n =>
              have o := s7 (by omega)
              exact ⟨o.2.2.1, fun k h1 h2 => o.2.2.2.2.2.2 k h1 h2⟩
          exact ⟨hbl.1, by omega, Nat.le_refl _, hbl.2, fun z => t5 (ty_5.mpr z), fun k h1 h2 => absurd h2 (by omega), fun k h1 h2 => absurd h2 (by omega)⟩
