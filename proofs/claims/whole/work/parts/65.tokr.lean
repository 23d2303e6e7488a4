/-! the reference's tokens -/
def rst (m : IM) (X : TK) (j : Nat) : Prop := j ≤ kJ X ∧ m 82 17 = nI (kb X j) ∧ m 82 18 = nI (ke X j) ∧ m 82 20 = 0 ∧ m 82 16 = nI (kq X) ∧ ∀ k, k < kq X → m 89 k = nI (kB X k)
/-- once it is wrong, it stays at token j -/
def rwr (m : IM) (X : TK) (j : Nat) : Prop := j ≤ kJ X ∧ m 82 17 = nI (kb X j) ∧ m 82 18 = nI (ke X j) ∧ m 82 20 = 1 ∧ m 82 16 = nI (kq X) ∧ ∀ k, k < kq X → m 89 k = nI (kB X k)
def vfr (m m' : IM) : Prop := (∀ a, a ≠ 82 → m' a = m a) ∧ ∀ k, (k < 17 ∨ 20 < k) → m' 82 k = m 82 k
theorem vfr_refl {m : IM} : vfr m m := ⟨fun _ _ => rfl, fun _ _ => rfl⟩
theorem vfr_trans {a b c : IM} (h : vfr a b) (g : vfr b c) : vfr a c := ⟨fun x h1 => (g.1 x h1).trans (h.1 x h1), fun k hk => (g.2 k hk).trans (h.2 k hk)⟩
theorem vfr_82 {m : IM} {k : Nat} {x : Int32} (hk : 17 ≤ k ∧ k ≤ 20) : vfr m (up m 82 k x) := ⟨fun a h1 => up_row h1, fun i hi => up_ne (by omega)⟩
theorem let_c : ∀ b, b < 256 → f_X7_isLetter (nI b) = if ty b = 1 then 1 else 0 := by decide +kernel
theorem dig_c : ∀ b, b < 256 → f_X7_isDigit (nI b) = if ty b = 2 then 1 else 0 := by decide +kernel
theorem let_m : f_X7_isLetter (-1) = 0 := by decide +kernel
theorem dig_m : f_X7_isDigit (-1) = 0 := by decide +kernel
theorem byte_r {m : IM} {X : TK} {k : Nat} (hX : tks X) (h16 : m 82 16 = nI (kq X)) (hB : ∀ k, k < kq X → m 89 k = nI (kB X k)) (hk : k ≤ kq X) : f_X7_byteAt (nI k) m = some (if k < kq X then nI (kB X k) else -1) := by
  have q1 := hX.1
  unfold f_X7_byteAt
  rw [h16]
  by_cases c : k < kq X
  · rw [if_neg (nI_ge c (by omega)), if_pos (inb_nI (show k < 120 by omega) (by decide)), ix_nI (by omega), hB k c, if_pos c]
  · rw [if_pos (nI_le (by omega) (by omega)), if_neg c]
def tkR (m m' : IM) (f t : Nat) : Prop := (∀ a, a ≠ 82 → m' a = m a) ∧ (∀ k, k ≠ 17 → k ≠ 18 → m' 82 k = m 82 k) ∧ m' 82 17 = nI f ∧ m' 82 18 = nI t
theorem ext_r {m : IM} {X : TK} {p f t : Nat} {x1 x2 : Int32} (hX : tks X) (h16 : m 82 16 = nI (kq X)) (hB : ∀ k, k < kq X → m 89 k = nI (kB X k)) (hf : f < kq X) (ht : tok (kB X) (kq X) p f t) (h17 : m 82 17 = nI f) (hx1 : x1 = if ty (kB X f) = 1 then 1 else 0) (hx2 : x2 = if ty (kB X f) = 2 then 1 else 0) : ∃ m', f_X7_token_l3 xF x1 x2 (up m 82 18 (nI (f + 1))) = some m' ∧ tkR m m' f t := by
  have q1 := hX.1
  obtain ⟨t1, t2, t3, t4⟩ := ht
  rcases t4 with ⟨z, -⟩ | ⟨-, t5, t6, t7, t8, t9⟩
  · omega
  · refine loopM (fun g (a : Nat × IM) => f_X7_token_l3 g x1 x2 a.2) some (fun a => f < a.1 ∧ a.1 ≤ t ∧ tkR m a.2 f a.1) (fun a => t - a.1) _ (fun g a hP => ?_) xF (f + 1, up m 82 18 (nI (f + 1))) (by show t - (f + 1) < xF; unfold xF; omega) ⟨by show f < f + 1; omega, by show f + 1 ≤ t; omega, fun a h1 => up_row h1, fun k h1 h2 => (up_ne h2 : up m 82 18 (nI (f + 1)) 82 k = m 82 k), (up_ne (by decide) : up m 82 18 (nI (f + 1)) 82 17 = m 82 17).trans h17, (up_same : up m 82 18 (nI (f + 1)) 82 18 = nI (f + 1))⟩
    obtain ⟨k, m1⟩ := a
    obtain ⟨k1, k2, k3, k4, k5, k6⟩ := hP
    have k1 : f < k := k1
    have k2 : k ≤ t := k2
    have k3 : ∀ a, a ≠ 82 → m1 a = m a := k3
    have k4 : ∀ k, k ≠ 17 → k ≠ 18 → m1 82 k = m 82 k := k4
    have k5 : m1 82 17 = nI f := k5
    have k6 : m1 82 18 = nI k := k6
    have eb : f_X7_byteAt (m1 82 18) m1 = some (if k < kq X then nI (kB X k) else -1) := by
      rw [k6]
      exact byte_r hX (by rw [k4 16 (by decide) (by decide)]; exact h16) (fun i hi => by rw [k3 89 (by decide)]; exact hB i hi) (by omega)
    have b256 := hX.2.2.1 k
    have j5 : f_X7_token_j5 (f_X7_token_l3 g) x1 x2 m1 = f_X7_token_l3 g x1 x2 (up m1 82 18 (nI (k + 1))) := by
      unfold f_X7_token_j5
      rw [bnd_eq, k6, nI_1]
    have fin : f_X7_token_l3 (g + 1) x1 x2 m1 = some m1 → k = t → (∃ c, f_X7_token_l3 (g + 1) x1 x2 m1 = some c ∧ tkR m c f t) ∨ ∃ a' : Nat × IM, f_X7_token_l3 (g + 1) x1 x2 m1 = f_X7_token_l3 g x1 x2 a'.2 ∧ (f < a'.1 ∧ a'.1 ≤ t ∧ tkR m a'.2 f a'.1) ∧ t - a'.1 < t - k := by
      intro e ek
      subst ek
      exact Or.inl ⟨m1, e, k3, k4, k5, k6⟩
    have stp : f_X7_token_l3 (g + 1) x1 x2 m1 = f_X7_token_l3 g x1 x2 (up m1 82 18 (nI (k + 1))) → k < t → (∃ c, f_X7_token_l3 (g + 1) x1 x2 m1 = some c ∧ tkR m c f t) ∨ ∃ a' : Nat × IM, f_X7_token_l3 (g + 1) x1 x2 m1 = f_X7_token_l3 g x1 x2 a'.2 ∧ (f < a'.1 ∧ a'.1 ≤ t ∧ tkR m a'.2 f a'.1) ∧ t - a'.1 < t - k := by
      intro e ek
      refine Or.inr ⟨(k + 1, up m1 82 18 (nI (k + 1))), e, ⟨by show f < k + 1; omega, by show k + 1 ≤ t; omega, fun a h1 => (up_row h1).trans (k3 a h1), fun i h1 h2 => (up_ne h2 : up m1 82 18 (nI (k + 1)) 82 i = m1 82 i).trans (k4 i h1 h2), (up_ne (by decide) : up m1 82 18 (nI (k + 1)) 82 17 = m1 82 17).trans k5, (up_same : up m1 82 18 (nI (k + 1)) 82 18 = nI (k + 1))⟩, by show t - (k + 1) < t - k; omega⟩
    show (∃ c, f_X7_token_l3 (g + 1) x1 x2 m1 = some c ∧ tkR m c f t) ∨ ∃ a' : Nat × IM, f_X7_token_l3 (g + 1) x1 x2 m1 = f_X7_token_l3 g x1 x2 a'.2 ∧ (f < a'.1 ∧ a'.1 ≤ t ∧ tkR m a'.2 f a'.1) ∧ t - a'.1 < t - k
    have un : f_X7_token_l3 (g + 1) x1 x2 m1 = f_X7_token_l3b (f_X7_token_l3 g) x1 x2 m1 := rfl
    by_cases ty1 : ty (kB X f) = 1
    · have y1 : x1 = 1 := by rw [hx1, if_pos ty1]
      have y2 : x2 = 0 := by rw [hx2, if_neg (by omega)]
      by_cases ek : k < t
      · refine stp ?_ ek
        have e8 := t8 k k1 ek
        rw [un]
        unfold f_X7_token_l3b
        rw [if_neg (by rw [y1]; decide), eb, Option.bind_some, if_pos (show k < kq X by omega), let_c _ b256, if_pos (show ty (kB X k) = 1 by rw [e8.1]; exact ty1), if_neg i10, j5]
      · refine fin ?_ (by omega)
        rw [un]
        unfold f_X7_token_l3b f_X7_token_j4
        rw [if_neg (by rw [y1]; decide), eb, Option.bind_some]
        have l0 : f_X7_isLetter (if k < kq X then nI (kB X k) else -1) = 0 := by
          by_cases c : k < kq X
          · have e9 := t9 (by omega) (Or.inl ty1)
            rw [if_pos c, let_c _ b256, if_neg (fun z => e9 (by rw [show t = k by omega, z, ty1]))]
          · rw [if_neg c, let_m]
        rw [l0, if_pos rfl, if_pos y2]
    · have y1 : x1 = 0 := by rw [hx1, if_neg ty1]
      by_cases ty2 : ty (kB X f) = 2
      · have y2 : x2 = 1 := by rw [hx2, if_pos ty2]
        by_cases ek : k < t
        · refine stp ?_ ek
          have e8 := t8 k k1 ek
          rw [un]
          unfold f_X7_token_l3b f_X7_token_j4
          rw [if_pos y1, if_neg (by rw [y2]; decide), eb, Option.bind_some, if_pos (show k < kq X by omega), dig_c _ b256, if_pos (show ty (kB X k) = 2 by rw [e8.1]; exact ty2), if_neg i10, j5]
        · refine fin ?_ (by omega)
          rw [un]
          unfold f_X7_token_l3b f_X7_token_j4
          rw [if_pos y1, if_neg (by rw [y2]; decide), eb, Option.bind_some]
          have l0 : f_X7_isDigit (if k < kq X then nI (kB X k) else -1) = 0 := by
            by_cases c : k < kq X
            · have e9 := t9 (by omega) (Or.inr ty2)
              rw [if_pos c, dig_c _ b256, if_neg (fun z => e9 (by rw [show t = k by omega, z, ty2]))]
            · rw [if_neg c, dig_m]
          rw [l0, if_pos rfl]
      · have y2 : x2 = 0 := by rw [hx2, if_neg ty2]
        have ek : k = t := by
          rcases Nat.lt_or_ge k t with z | z
          · rcases (t8 k k1 z).2 with w | w
            · exact absurd w ty1
            · exact absurd w ty2
          · omega
        refine fin ?_ ek
        rw [un]
        unfold f_X7_token_l3b f_X7_token_j4
        rw [if_pos y1, if_pos y2]
theorem token_r {m : IM} {X : TK} {p f t : Nat} (hX : tks X) (h16 : m 82 16 = nI (kq X)) (hB : ∀ k, k < kq X → m 89 k = nI (kB X k)) (hp : m 82 18 = nI p) (ht : tok (kB X) (kq X) p f t) : ∃ m', f_X7_token m = some m' ∧ tkR m m' f t := by
  have q1 := hX.1
  obtain ⟨t1, t2, t3, t4⟩ := id ht
  unfold f_X7_token
  rw [bnd_eq, hp]
  refine loopM (fun g (a : Nat × IM) => f_X7_token_l1 g a.2) some (fun a => p ≤ a.1 ∧ a.1 ≤ f ∧ (∀ x, x ≠ 82 → a.2 x = m x) ∧ (∀ k, k ≠ 17 → a.2 82 k = m 82 k) ∧ a.2 82 17 = nI a.1) (fun a => f - a.1) _ (fun g a hP => ?_) xF (p, up m 82 17 (nI p)) (by show f - p < xF; unfold xF; omega) ⟨Nat.le_refl _, t1, fun x h1 => up_row h1, fun k h1 => (up_ne h1 : up m 82 17 (nI p) 82 k = m 82 k), (up_same : up m 82 17 (nI p) 82 17 = nI p)⟩
  obtain ⟨k, m1⟩ := a
  obtain ⟨k1, k2, k3, k4, k5⟩ := hP
  have k1 : p ≤ k := k1
  have k2 : k ≤ f := k2
  have k3 : ∀ a, a ≠ 82 → m1 a = m a := k3
  have k4 : ∀ i, i ≠ 17 → m1 82 i = m 82 i := k4
  have k5 : m1 82 17 = nI k := k5
  have g16 : m1 82 16 = nI (kq X) := by rw [k4 16 (by decide)]; exact h16
  have gB : ∀ i, i < kq X → m1 89 i = nI (kB X i) := fun i hi => by rw [k3 89 (by decide)]; exact hB i hi
  have eb : f_X7_byteAt (m1 82 17) m1 = some (if k < kq X then nI (kB X k) else -1) := by
    rw [k5]; exact byte_r hX g16 gB (by omega)
  have b256 := hX.2.2.1 k
  have un : f_X7_token_l1 (g + 1) m1 = f_X7_token_l1b (f_X7_token_l1 g) m1 := rfl
  show (∃ c, f_X7_token_l1 (g + 1) m1 = some c ∧ tkR m c f t) ∨ ∃ a' : Nat × IM, f_X7_token_l1 (g + 1) m1 = f_X7_token_l1 g a'.2 ∧ (p ≤ a'.1 ∧ a'.1 ≤ f ∧ (∀ x, x ≠ 82 → a'.2 x = m x) ∧ (∀ k, k ≠ 17 → a'.2 82 k = m 82 k) ∧ a'.2 82 17 = nI a'.1) ∧ f - a'.1 < f - k
  by_cases ek : k < f
  · refine Or.inr ⟨(k + 1, up m1 82 17 (nI (k + 1))), ?_, ⟨by show p ≤ k + 1; omega, by show k + 1 ≤ f; omega, fun a h1 => (up_row h1).trans (k3 a h1), fun i h1 => (up_ne h1 : up m1 82 17 (nI (k + 1)) 82 i = m1 82 i).trans (k4 i h1), (up_same : up m1 82 17 (nI (k + 1)) 82 17 = nI (k + 1))⟩, by show f - (k + 1) < f - k; omega⟩
    rw [un]
    unfold f_X7_token_l1b
    rw [eb, Option.bind_some, if_pos (by rw [if_pos (show k < kq X by omega), t3 k k1 ek]; rfl), bnd_eq, k5, nI_1]
  · have ef : k = f := by omega
    subst ef
    left
    by_cases c : k < kq X
    · have n32 : ¬ kB X k = 32 := by
        rcases t4 with ⟨z, -⟩ | ⟨-, z, -⟩
        · omega
        · exact z
      obtain ⟨m', e', h1, h2, h3, h4⟩ := ext_r (m := m1) hX g16 gB c ht k5 rfl rfl
      refine ⟨m', ?_, fun a ha => (h1 a ha).trans (k3 a ha), fun i i1 i2 => (h2 i i1 i2).trans (k4 i i1), h3, h4⟩
      rw [un]
      unfold f_X7_token_l1b
      rw [eb, Option.bind_some, if_pos c, if_neg (fun z => n32 ((nI_eq_lit (n := 32) 32 (by decide) (by omega)).mp z)), Option.bind_some, bnd_eq, Option.bind_some, bnd_eq, g16, k5, if_neg (nI_ge c (by omega)), let_c _ b256, dig_c _ b256]
      unfold f_X7_token_j2
      rw [bnd_eq, nI_1, e']
    · have eq : k = kq X := by omega
      have et : t = kq X := by
        rcases t4 with ⟨-, z⟩ | ⟨z, -⟩
        · exact z
        · omega
      refine ⟨up m1 82 18 (nI k), ?_, fun a ha => (up_row ha).trans (k3 a ha), fun i i1 i2 => (up_ne i2).trans (k4 i i1), (up_ne (by decide)).trans k5, by rw [et, eq]; exact up_same⟩
      rw [un]
      unfold f_X7_token_l1b
      rw [eb, Option.bind_some, if_neg c, if_neg (by decide), Option.bind_some, bnd_eq, Option.bind_some, bnd_eq, g16, k5, if_pos (nI_le (by omega) (by omega)), let_m, dig_m]
      unfold f_X7_token_j2
      rw [bnd_eq]
      show f_X7_token_l3b _ 0 0 _ = _
      unfold f_X7_token_l3b f_X7_token_j4
      rw [if_pos rfl, if_pos rfl]
theorem tok_go {X : TK} {j : Nat} (hX : tks X) (hj : j ≤ kJ X) : tok (kB X) (kq X) (ke X j) (kb X (go X j)) (ke X (go X j)) := by
  obtain ⟨h1, h2, h3, h4, h5, h6, h7⟩ := hX
  unfold go
  by_cases c : j < kJ X
  · rw [if_pos c]
    exact h5 (j + 1) (by omega)
  · have e : j = kJ X := by omega
    rw [if_neg c, e, h6, h7]
    exact ⟨Nat.le_refl _, Nat.le_refl _, fun k g1 g2 => absurd g2 (by omega), Or.inl ⟨rfl, rfl⟩⟩
theorem needs_1 {m : IM} {X : TK} {j : Nat} (hX : tks X) (h : rst m X j) : ∃ m', f_X7_needs 1 m = some m' ∧ (rst m' X (go X j) ∧ vfr m m' ∧ m' 82 19 = m 82 19) := by
  obtain ⟨h1, h2, h3, h4, h5, h6⟩ := h
  obtain ⟨m', e, o1, o2, o3, o4⟩ := token_r (m := up m 82 20 0) hX (by rw [up_ne (by decide)]; exact h5) (fun k hk => by rw [up_row (by decide)]; exact h6 k hk) (by rw [up_ne (by decide)]; exact h3) (tok_go hX h1)
  refine ⟨m', ?_, ⟨go_le h1, o3, o4, by rw [o2 20 (by decide) (by decide), up_same], by rw [o2 16 (by decide) (by decide), up_ne (by decide)]; exact h5, fun k hk => by rw [o1 89 (by decide), up_row (by decide)]; exact h6 k hk⟩, ⟨fun a ha => by rw [o1 a ha, up_row ha], fun k hk => by rw [o2 k (by omega) (by omega), up_ne (by omega)]⟩, by rw [o2 19 (by decide) (by decide), up_ne (by decide)]⟩
  unfold f_X7_needs f_X7_needs_j2
  rw [if_pos h4, if_neg i10, if_pos (by decide), bnd_eq, up_same, if_pos rfl, e, Option.bind_some]
theorem needs_0 {m : IM} {X : TK} {j : Nat} (h : rst m X j) : f_X7_needs 0 m = some (up m 82 20 1) ∧ rwr (up m 82 20 1) X j := by
  obtain ⟨h1, h2, h3, h4, h5, h6⟩ := h
  refine ⟨?_, h1, by rw [up_ne (by decide)]; exact h2, by rw [up_ne (by decide)]; exact h3, up_same, by rw [up_ne (by decide)]; exact h5, fun k hk => by rw [up_row (by decide)]; exact h6 k hk⟩
  unfold f_X7_needs f_X7_needs_j1 f_X7_needs_j2
  rw [if_pos h4, if_pos rfl, if_pos (by decide), bnd_eq, up_same, if_neg i10]
theorem needs_w {m : IM} {X : TK} {j : Nat} (h : rwr m X j) (a : Int32) : f_X7_needs a m = some m := by
  unfold f_X7_needs f_X7_needs_j1 f_X7_needs_j2
  rw [if_neg (by rw [h.2.2.2.1]; decide), if_pos (by decide), bnd_eq, up_same, if_neg i10, ← h.2.2.2.1, up_id]
/-! words by their codes -/
def M55 : Nat := 36028797018963967
def cdg (x : Nat → Nat) : Nat → Nat
  | 0 => 0
  | n + 1 => if cdg x n ≤ M55 then 32 * cdg x n + x n else cdg x n
theorem cdg_le {x : Nat → Nat} : ∀ {n : Nat}, (∀ i, i < n → x i ≤ 26) → cdg x n ≤ 32 * M55 + 26
  | 0, _ => by show 0 ≤ _; omega
  | n + 1, h => by
    have ih := cdg_le (x := x) (n := n) (fun i hi => h i (by omega))
    have := h n (by omega)
    show (if cdg x n ≤ M55 then 32 * cdg x n + x n else cdg x n) ≤ _
    by_cases c : cdg x n ≤ M55
    · rw [if_pos c]; omega
    · rw [if_neg c]; exact ih
theorem cdg_u {x y : Nat → Nat} : ∀ {n m : Nat}, (∀ i, i < n → 1 ≤ x i ∧ x i ≤ 26) → (∀ i, i < m → 1 ≤ y i ∧ y i ≤ 26) → cdg y m ≤ M55 → cdg x n = cdg y m → n = m ∧ ∀ i, i < n → x i = y i
  | 0, 0, _, _, _, _ => ⟨rfl, fun i hi => absurd hi (Nat.not_lt_zero _)⟩
  | 0, m + 1, _, hy, hM, e => by
    have h1 := hy m (by omega)
    have e : 0 = (if cdg y m ≤ M55 then 32 * cdg y m + y m else cdg y m) := e
    by_cases c : cdg y m ≤ M55
    · rw [if_pos c] at e; omega
    · rw [if_neg c] at e; unfold M55 at c; omega
  | n + 1, 0, hx, _, _, e => by
    have h1 := hx n (by omega)
    have e : (if cdg x n ≤ M55 then 32 * cdg x n + x n else cdg x n) = 0 := e
    by_cases c : cdg x n ≤ M55
    · rw [if_pos c] at e; omega
    · rw [if_neg c] at e; unfold M55 at c; omega
  | n + 1, m + 1, hx, hy, hM, e => by
    have h1 := hx n (by omega)
    have h2 := hy m (by omega)
    have hM : (if cdg y m ≤ M55 then 32 * cdg y m + y m else cdg y m) ≤ M55 := hM
    have e : (if cdg x n ≤ M55 then 32 * cdg x n + x n else cdg x n) = (if cdg y m ≤ M55 then 32 * cdg y m + y m else cdg y m) := e
    have cy : cdg y m ≤ M55 := by
      rcases Nat.lt_or_ge M55 (cdg y m) with z | z
      · rw [if_neg (by omega)] at hM; exact hM
      · exact z
    rw [if_pos cy] at hM e
    have cx : cdg x n ≤ M55 := by
      rcases Nat.lt_or_ge M55 (cdg x n) with z | z
      · rw [if_neg (by omega)] at e; omega
      · exact z
    rw [if_pos cx] at e
    obtain ⟨r1, r2⟩ := cdg_u (n := n) (m := m) (fun i hi => hx i (by omega)) (fun i hi => hy i (by omega)) cy (by omega)
    subst r1
    refine ⟨rfl, fun i hi => ?_⟩
    by_cases z : i = n
    · subst z; omega
    · exact r2 i (by omega)
def kC : List Nat := [198028, 631476, 89, 655, 777297172, 19378579, 398382, 20594117, 624068, 20596791, 71108, 231045, 21243335, 109221477, 150189, 605291, 66949, 599495, 2552]
def kwN (a i : Nat) : Nat := ix ((xBYT.getD a []).getD i 0) - 96
theorem kC_c : ∀ a, a < 19 → cdg (kwN a) (xLEN.getD a 0) = kC.getD a 0 ∧ 1 ≤ kC.getD a 0 ∧ kC.getD a 0 ≤ 777297172 ∧ ∀ i, i < xLEN.getD a 0 → 1 ≤ kwN a i ∧ kwN a i ≤ 26 ∧ (xBYT.getD a []).getD i 0 = nI (kwN a i + 96) := by decide +kernel
theorem word_r {m : IM} {X : TK} {j : Nat} (hX : tks X) (h : rst m X j) : ∃ w : Int64, f_X7_word m = some w ∧ ∀ a, a < 19 → (lg_cmp w (lN (kC.getD a 0)) = 0 ↔ wB X a j = true) := by
  obtain ⟨h1, h2, h3, h4, h5, h6⟩ := h
  have q1 := hX.1
  have hbe : kb X j ≤ ke X j ∧ ke X j ≤ kq X := by
    by_cases c : j < kJ X
    · have := tok_ft hX c; omega
    · have e : j = kJ X := by omega
      rw [e, hX.2.2.2.2.2.1, hX.2.2.2.2.2.2]; omega
  unfold f_X7_word
  rw [bnd_eq, h2]
  have key1 : ∃ x : Int64, f_X7_word_l1 m xF 0 (nI (kb X j)) = ((f_X7_byteAt (m 82 17) m).bind fun r2 => if (f_X7_isLetter r2) = 0 then f_X7_word_j2 m else some x) ∧ (j < kJ X → ty (kB X (kb X j)) = 1 → x = lN (cdg (fun i => kB X (kb X j + i) - 96) (ke X j - kb X j))) := by
    refine loopG (fun f (x : Int64) i => f_X7_word_l1 m f x i) (fun x : Int64 => (f_X7_byteAt (m 82 17) m).bind fun r2 => if (f_X7_isLetter r2) = 0 then f_X7_word_j2 m else some x) (kb X j) (nI (kb X j)) rfl (ke X j) (by omega) hbe.1 (fun i x => j < kJ X → ty (kB X (kb X j)) = 1 → x = lN (cdg (fun i => kB X (kb X j + i) - 96) (i - kb X j))) _ (fun f x hP => ⟨x, ?_, hP⟩) (fun f x i hi0 hi hP => ?_) 0 (fun _ _ => by rw [Nat.sub_self]; rfl)
    · show f_X7_word_l1b m _ x (nI (ke X j)) = _
      unfold f_X7_word_l1b
      rw [h3, if_pos (Int32.le_refl _), if_pos h4]
    · right
      have un : f_X7_word_l1 m (f + 1) x (nI i) = f_X7_word_l1b m (f_X7_word_l1 m f) x (nI i) := rfl
      have ib := inb_nI (show i < 120 by omega) (show 120 < 2 ^ 31 by decide)
      have ix' : ix (nI i) = i := ix_nI (by omega)
      have e89 := h6 i (by omega)
      by_cases c : lg_cmp x 36028797018963967 ≤ 0
      · refine ⟨(32 * x) + ((m 89 i - 96).toInt64), ?_, fun z1 z2 => ?_⟩
        · rw [un]
          unfold f_X7_word_l1b f_X7_word_j3
          rw [h3, if_neg (nI_ge hi (by omega)), if_pos c, if_pos ib, ix', bnd_eq, nI_1]
        · have hx := hP z1 z2
          have hl : ∀ k, kb X j ≤ k → k < ke X j → 97 ≤ kB X k ∧ kB X k ≤ 122 := by
            intro k g1 g2
            by_cases e : k = kb X j
            · rw [e]; exact ty_1.mp z2
            · have ht := hX.2.2.2.2.1 j h1
              obtain ⟨t1, t2, t3, t4⟩ := ht
              rcases t4 with ⟨z, -⟩ | ⟨-, -, -, -, t8, -⟩
              · have := hX.2.2.2.1 j z1; omega
              · have := (t8 k (by omega) g2).1
                rw [z2] at this
                exact ty_1.mp this
          have hb := hl i (by omega) hi
          have cb := cdg_le (x := fun i => kB X (kb X j + i) - 96) (n := i - kb X j) (fun k hk => by have := hl (kb X j + k) (by omega) (by omega); show kB X (kb X j + k) - 96 ≤ 26; omega)
          have cm : cdg (fun i => kB X (kb X j + i) - 96) (i - kb X j) ≤ M55 := by
            rw [hx, lg_cmp_le, show (36028797018963967 : Int64) = lN M55 from rfl, pk_lLE (by unfold M55 at cb; omega) (by unfold M55; omega)] at c
            exact c
          rw [show i + 1 - kb X j = (i - kb X j) + 1 by omega]
          show _ = lN (if cdg (fun i => kB X (kb X j + i) - 96) (i - kb X j) ≤ M55 then 32 * cdg (fun i => kB X (kb X j + i) - 96) (i - kb X j) + (kB X (kb X j + (i - kb X j)) - 96) else cdg (fun i => kB X (kb X j + i) - 96) (i - kb X j))
          rw [if_pos cm, show kb X j + (i - kb X j) = i by omega, hx, e89, show (96 : Int32) = nI 96 from rfl, pk_sub (by omega), nI_l (by omega), show (32 : Int64) = lN 32 from rfl, lN_mul, lN_add]
      · refine ⟨x, ?_, fun z1 z2 => ?_⟩
        · rw [un]
          unfold f_X7_word_l1b f_X7_word_j3
          rw [h3, if_neg (nI_ge hi (by omega)), if_neg c, bnd_eq, nI_1]
        · have hx := hP z1 z2
          have hl : ∀ k, kb X j ≤ k → k < ke X j → 97 ≤ kB X k ∧ kB X k ≤ 122 := by
            intro k g1 g2
            by_cases e : k = kb X j
            · rw [e]; exact ty_1.mp z2
            · have ht := hX.2.2.2.2.1 j h1
              obtain ⟨t1, t2, t3, t4⟩ := ht
              rcases t4 with ⟨z, -⟩ | ⟨-, -, -, -, t8, -⟩
              · have := hX.2.2.2.1 j z1; omega
              · have := (t8 k (by omega) g2).1
                rw [z2] at this
                exact ty_1.mp this
          have cb := cdg_le (x := fun i => kB X (kb X j + i) - 96) (n := i - kb X j) (fun k hk => by have := hl (kb X j + k) (by omega) (by omega); show kB X (kb X j + k) - 96 ≤ 26; omega)
          have cm : ¬ cdg (fun i => kB X (kb X j + i) - 96) (i - kb X j) ≤ M55 := by
            intro z
            apply c
            rw [hx, lg_cmp_le, show (36028797018963967 : Int64) = lN M55 from rfl, pk_lLE (by unfold M55 at cb; omega) (by unfold M55; omega)]
            exact z
          rw [show i + 1 - kb X j = (i - kb X j) + 1 by omega]
          show _ = lN (if cdg (fun i => kB X (kb X j + i) - 96) (i - kb X j) ≤ M55 then 32 * cdg (fun i => kB X (kb X j + i) - 96) (i - kb X j) + (kB X (kb X j + (i - kb X j)) - 96) else cdg (fun i => kB X (kb X j + i) - 96) (i - kb X j))
          rw [if_neg cm]
          exact hx
  obtain ⟨x, ex, hx⟩ := key1
  rw [ex, h2, byte_r hX h5 h6 (by omega), Option.bind_some]
  have zero : ∀ a, a < 19 → ¬ lg_cmp 0 (lN (kC.getD a 0)) = 0 := by
    intro a ha z
    rw [lg_cmp_eq, show (0 : Int64) = lN 0 from rfl, pk_lEQ (by omega) (by have := kC_c a ha; omega)] at z
    have := kC_c a ha
    omega
  by_cases c : j < kJ X ∧ ty (kB X (kb X j)) = 1
  · have kq' := hX.2.2.2.1 j c.1
    rw [if_pos kq', let_c _ (hX.2.2.1 _), if_pos c.2, if_neg i10]
    refine ⟨x, rfl, fun a ha => ?_⟩
    obtain ⟨a1, a2, a3, a4⟩ := kC_c a ha
    have hl : ∀ k, k < ke X j - kb X j → 1 ≤ kB X (kb X j + k) - 96 ∧ kB X (kb X j + k) - 96 ≤ 26 ∧ 97 ≤ kB X (kb X j + k) := by
      intro k g2
      by_cases e : k = 0
      · have := ty_1.mp c.2
        rw [e, Nat.add_zero]; omega
      · have ht := hX.2.2.2.2.1 j h1
        obtain ⟨t1, t2, t3, t4⟩ := ht
        rcases t4 with ⟨z, -⟩ | ⟨-, -, -, -, t8, -⟩
        · omega
        · have := (t8 (kb X j + k) (by omega) (by omega)).1
          rw [c.2] at this
          have := ty_1.mp this
          omega
    have cb := cdg_le (x := fun i => kB X (kb X j + i) - 96) (n := ke X j - kb X j) (fun k hk => (hl k hk).2.1)
    rw [lg_cmp_eq, hx c.1 c.2, pk_lEQ (by unfold M55 at cb; omega) (by omega), wB_iff]
    constructor
    · intro z
      obtain ⟨r1, r2⟩ := cdg_u (fun i hi => ⟨(hl i hi).1, (hl i hi).2.1⟩) (fun i hi => ⟨(a4 i hi).1, (a4 i hi).2.1⟩) (by rw [a1]; unfold M55; omega) (z.trans a1.symm)
      refine ⟨c.1, c.2, r1, fun i hi => ?_⟩
      have e1 : kB X (kb X j + i) - 96 = kwN a i := r2 i (by omega)
      have := hl i (by omega)
      rw [(a4 i hi).2.2, ← e1]
      congr 1
      omega
    · rintro ⟨-, -, z3, z4⟩
      rw [z3, ← a1]
      have e : ∀ n, n ≤ xLEN.getD a 0 → cdg (fun i => kB X (kb X j + i) - 96) n = cdg (kwN a) n := by
        intro n
        induction n with
        | zero => exact fun _ => rfl
        | succ n ih =>
          intro hn
          show (if cdg (fun i => kB X (kb X j + i) - 96) n ≤ M55 then 32 * cdg (fun i => kB X (kb X j + i) - 96) n + (kB X (kb X j + n) - 96) else cdg (fun i => kB X (kb X j + i) - 96) n) = (if cdg (kwN a) n ≤ M55 then 32 * cdg (kwN a) n + kwN a n else cdg (kwN a) n)
          have e2 : kB X (kb X j + n) - 96 = kwN a n := by
            have y := z4 n (by omega)
            rw [(a4 n (by omega)).2.2] at y
            have := a4 n (by omega)
            have := hX.2.2.1 (kb X j + n)
            have := nI_u (by omega) (by omega) y
            omega
          rw [ih (by omega), e2]
      exact e _ (Nat.le_refl _)
  · have l0 : f_X7_isLetter (if kb X j < kq X then nI (kB X (kb X j)) else -1) = 0 := by
      by_cases z : kb X j < kq X
      · rw [if_pos z, let_c _ (hX.2.2.1 _)]
        have : ¬ ty (kB X (kb X j)) = 1 := by
          intro y
          have : j < kJ X := by
            rcases Nat.lt_or_ge j (kJ X) with w | w
            · exact w
            · have e : j = kJ X := by omega
              rw [e, hX.2.2.2.2.2.1] at z; omega
          exact c ⟨this, y⟩
        rw [if_neg this]
      · rw [if_neg z, let_m]
    rw [l0, if_pos rfl]
    exact ⟨0, rfl, fun a ha => ⟨fun z => absurd z (zero a ha), fun z => absurd ⟨(wB_iff.mp z).1, (wB_iff.mp z).2.1⟩ c⟩⟩
