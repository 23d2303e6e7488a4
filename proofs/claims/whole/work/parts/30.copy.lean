/-! loops by an invariant; copies of a town -/
theorem loopE {α β : Type} (L : Nat → α → Int32 → Option β) (N : Nat) (P : Nat → α → Prop) (Q : β → Prop) (h0 : ∀ f a, P N a → ∃ b, L (f + 1) a (nI N) = some b ∧ Q b) (hs : ∀ f a i, i < N → P i a → (∃ b, L (f + 1) a (nI i) = some b ∧ Q b) ∨ ∃ a', L (f + 1) a (nI i) = L f a' (nI (i + 1)) ∧ P (i + 1) a') : ∀ (d f : Nat) (a : α) (i : Nat), i + d = N → d < f → P i a → ∃ b, L f a (nI i) = some b ∧ Q b := by
  intro d
  induction d with
  | zero =>
    intro f a i h1 h2 hP
    obtain ⟨f, rfl⟩ : ∃ g, f = g + 1 := ⟨f - 1, by omega⟩
    have : i = N := by omega
    subst this
    exact h0 f a hP
  | succ d ih =>
    intro f a i h1 h2 hP
    obtain ⟨f, rfl⟩ : ∃ g, f = g + 1 := ⟨f - 1, by omega⟩
    rcases hs f a i (by omega) hP with h | ⟨a', e, hP'⟩
    · exact h
    · rw [e]
      exact ih f a' (i + 1) (by omega) (by omega) hP'
theorem loopI {α β : Type} (L : Nat → α → Int32 → Option β) (k : Nat) (K : Int32) (hK : K = nI k) (N : Nat) (hN : N < 5000) (hk : k ≤ N) (P : Nat → α → Prop) (Q : β → Prop) (h0 : ∀ f a, P N a → ∃ b, L (f + 1) a (nI N) = some b ∧ Q b) (hs : ∀ f a i, k ≤ i → i < N → P i a → ∃ a', L (f + 1) a (nI i) = L f a' (nI (i + 1)) ∧ P (i + 1) a') (a : α) (hP : P k a) : ∃ b, L xF a K = some b ∧ Q b := by
  subst hK
  refine loopE L N (fun i a => k ≤ i ∧ P i a) Q (fun f a h => h0 f a h.2) (fun f a i hi h => ?_) (N - k) xF a k (by omega) (by unfold xF; omega) ⟨Nat.le_refl _, hP⟩
  obtain ⟨a', e, h'⟩ := hs f a i h.1 hi h.2
  exact Or.inr ⟨a', e, by omega, h'⟩
theorem loopX {α β : Type} (L : Nat → α → Int32 → Option β) (k : Nat) (K : Int32) (hK : K = nI k) (N : Nat) (hN : N < 5000) (hk : k ≤ N) (P : Nat → α → Prop) (Q : β → Prop) (h0 : ∀ f a, P N a → ∃ b, L (f + 1) a (nI N) = some b ∧ Q b) (hs : ∀ f a i, k ≤ i → i < N → P i a → (∃ b, L (f + 1) a (nI i) = some b ∧ Q b) ∨ ∃ a', L (f + 1) a (nI i) = L f a' (nI (i + 1)) ∧ P (i + 1) a') (a : α) (hP : P k a) : ∃ b, L xF a K = some b ∧ Q b := by
  subst hK
  refine loopE L N (fun i a => k ≤ i ∧ P i a) Q (fun f a h => h0 f a h.2) (fun f a i hi h => ?_) (N - k) xF a k (by omega) (by unfold xF; omega) ⟨Nat.le_refl _, hP⟩
  rcases hs f a i h.1 hi h.2 with q | ⟨a', e, h'⟩
  · exact Or.inl q
  · exact Or.inr ⟨a', e, by omega, h'⟩
theorem bec4_row {im : IM} {A B a : Nat} (ha : a ≠ A) : f_X4_become A B im a = im a := by
  unfold f_X4_become
  simp only [bnd_eq, up_row ha]
theorem bec4_w {im : IM} {A B w : Nat} (h : B ≠ A) (hw : w < 8) : f_X4_become A B im A w = im B w := by
  unfold f_X4_become
  simp only [bnd_eq, up_row h]
  have h8 : w = 0 ∨ w = 1 ∨ w = 2 ∨ w = 3 ∨ w = 4 ∨ w = 5 ∨ w = 6 ∨ w = 7 := by omega
  rcases h8 with rfl | rfl | rfl | rfl | rfl | rfl | rfl | rfl <;> simp [up]
theorem become_c {im : IM} {T S : Nat} {V : TV} (hd : T + 15 ≤ S ∨ S + 15 ≤ T) (v : RC im S V) (hn : vN V ≤ 10) : ∃ m, f_X5_become T S im = some m ∧ (RC m T V ∧ ∀ a, ¬ (T ≤ a ∧ a < T + 15) → m a = im a) := by
  obtain ⟨h1, h2, h3, h4, h5, h6, h7, h8, h9⟩ := v
  have c31 : cpk 0 0 31 31 31 = true := by decide
  have c10 : cpk 0 0 10 10 10 = true := by decide
  have i31 : ix 31 = 31 := by decide
  have i0 : ix 0 = 0 := by decide
  have i10 : ix 10 = 10 := by decide
  unfold f_X5_become
  rw [if_pos c31, bnd_eq, if_pos c31, bnd_eq, if_pos c10, bnd_eq, i31, i0, i10]
  refine loopI (fun f m i => f_X5_become_l1 T S f i m) 0 0 rfl (vN V) (by omega) (by omega) (fun i m => (∀ a, ¬ (T ≤ a ∧ a < T + 15) → m a = im a) ∧ (∀ c, c < 31 → m (T + 1) c = vF V c) ∧ (∀ c, c < 31 → m (T + 2) c = vG V c) ∧ (∀ k, k < 10 → m (T + 4) k = vS V k) ∧ ∀ t, t < i → ∀ w, w < 8 → m (T + 5 + t) w = vT V t w) _ (fun f m hP => ?_) (fun f m i hi0 hi hP => ?_) _ ?_
  · obtain ⟨p0, p1, p2, p3, p4⟩ := hP
    have e5 : m S = im S := p0 S (by omega)
    have hST : S ≠ T := by omega
    have hr : ∀ a, a ≠ T → up (up (up (up (up m T 4 (m S 4)) T 5 (m S 5)) T 6 (m S 6)) T 7 (m S 7)) T 8 (m S 8) a = m a := fun a ha => by rw [up_row ha, up_row ha, up_row ha, up_row ha, up_row ha]
    refine ⟨up (up (up (up (up m T 4 (m S 4)) T 5 (m S 5)) T 6 (m S 6)) T 7 (m S 7)) T 8 (m S 8), ?_, ⟨fun c hc => by rw [hr _ (by omega)]; exact p1 c hc, fun c hc => by rw [hr _ (by omega)]; exact p2 c hc, fun t ht w hw => by rw [hr _ (by omega)]; exact p4 t ht w hw, fun k hk => by rw [hr _ (by omega)]; exact p3 k hk, ?_, ?_, ?_, ?_, ?_⟩, fun a ha => by rw [hr _ (by omega)]; exact p0 a ha⟩
    · show f_X5_become_l1b T S _ (nI (vN V)) m = _
      unfold f_X5_become_l1b
      rw [if_pos (by rw [e5, h5]; exact Int32.le_refl _)]
      simp only [bnd_eq, up_row hST]
    · rw [up_ne (by decide), up_ne (by decide), up_ne (by decide), up_ne (by decide), up_same, e5, h5]
    · rw [up_ne (by decide), up_ne (by decide), up_ne (by decide), up_same, e5, h6]
    · rw [up_ne (by decide), up_ne (by decide), up_same, e5, h7]
    · rw [up_ne (by decide), up_same, e5, h8]
    · rw [up_same, e5, h9]
  · obtain ⟨p0, p1, p2, p3, p4⟩ := hP
    have e5 : m S = im S := p0 S (by omega)
    have ib := inb_nI (show i < 10 by omega) (show 10 < 2 ^ 31 by decide)
    have hne : S + 5 + i ≠ T + 5 + i := by omega
    refine ⟨f_X4_become (T + 5 + i) (S + 5 + i) m, ?_, fun a ha => ?_, fun c hc => ?_, fun c hc => ?_, fun k hk => ?_, fun t ht w hw => ?_⟩
    · show f_X5_become_l1b T S _ (nI i) m = _
      unfold f_X5_become_l1b
      rw [e5, h5, if_neg (nI_ge hi (by omega)), if_pos ib, if_pos ib, ix_nI (by omega), bnd_eq, bnd_eq, nI_1]
    · rw [bec4_row (by omega)]; exact p0 a ha
    · rw [bec4_row (by omega)]; exact p1 c hc
    · rw [bec4_row (by omega)]; exact p2 c hc
    · rw [bec4_row (by omega)]; exact p3 k hk
    · by_cases e : t = i
      · subst e
        rw [bec4_w hne hw, p0 _ (by omega)]
        exact h3 t hi w hw
      · rw [bec4_row (by omega)]
        exact p4 t (by omega) w hw
  · refine ⟨fun a ha => ?_, fun c hc => ?_, fun c hc => ?_, fun k hk => ?_, fun t ht => absurd ht (Nat.not_lt_zero _)⟩
    · rw [upA_row (by omega), upA_row (by omega), upA_row (by omega)]
    · rw [upA_row (by omega), upA_row (by omega), upA_same, pk_cpy_in (by omega) (by omega)]
      rw [show 0 + (c - 0) = c by omega]
      exact h1 c hc
    · rw [upA_row (by omega), upA_same, pk_cpy_in (by omega) (by omega), upA_row (by omega)]
      rw [show 0 + (c - 0) = c by omega]
      exact h2 c hc
    · rw [upA_same, pk_cpy_in (by omega) (by omega), upA_row (by omega), upA_row (by omega)]
      rw [show 0 + (k - 0) = k by omega]
      exact h4 k hk
/-! copies of the reference's row -/
def cpR (im m : IM) (D S : Nat) (n : Nat) : Prop := (∀ a, a ≠ D → m a = im a) ∧ ∀ k, k < n → m D k = im S k
theorem cpR_up {im m : IM} {D S i : Nat} (hSD : S ≠ D) (h : cpR im m D S i) : cpR im (up m D i (m S i)) D S (i + 1) := by
  refine ⟨fun a ha => by rw [up_row ha]; exact h.1 a ha, fun k hk => ?_⟩
  by_cases e : k = i
  · subst e; rw [up_same, h.1 S hSD]
  · rw [up_ne e]; exact h.2 k (by omega)
theorem cpR_0 {im : IM} {D S : Nat} : cpR im im D S 0 := ⟨fun _ _ => rfl, fun k hk => absurd hk (Nat.not_lt_zero _)⟩
theorem RR.cp {im m : IM} {D S : Nat} {V : TV} (h : RR im S V) (hn : vN V ≤ 10) (hc : cpR im m D S 167) : RR m D V := by
  obtain ⟨h1, h2, h3, h4, h5, h6, h7, h8, h9⟩ := h
  have r : ∀ k, k < 167 → m D k = im S k := hc.2
  exact ⟨fun c hk => by rw [r _ (by omega)]; exact h1 c hk, fun c hk => by rw [r _ (by omega)]; exact h2 c hk, fun t ht w hw => by rw [r _ (by omega)]; exact h3 t ht w hw, fun k hk => by rw [r _ (by omega)]; exact h4 k hk, by rw [r _ (by omega)]; exact h5, by rw [r _ (by omega)]; exact h6, by rw [r _ (by omega)]; exact h7, by rw [r _ (by omega)]; exact h8, by rw [r _ (by omega)]; exact h9⟩
theorem n167 {i : Nat} (hi : i < 167) : ¬ (167 : Int32) ≤ nI i := by rw [nI_ge_lit (n := 167) 167 (by decide) (by omega)]; omega
theorem puts_r (im : IM) : ∃ m, f_X7_puts im = some m ∧ cpR im m 85 83 167 := by
  unfold f_X7_puts
  refine loopI (fun f m i => f_X7_puts_l1 f i m) 0 0 rfl 167 (by omega) (by omega) (fun i m => cpR im m 85 83 i) _ (fun f m hP => ⟨m, ?_, hP⟩) (fun f m i hi0 hi hP => ⟨_, ?_, cpR_up (by decide) hP⟩) _ cpR_0
  · show f_X7_puts_l1b _ (nI 167) m = _
    unfold f_X7_puts_l1b
    rw [if_pos (by decide)]
  · show f_X7_puts_l1b _ (nI i) m = _
    unfold f_X7_puts_l1b
    rw [if_neg (n167 hi), if_pos (inb_nI hi (by decide)), if_pos (inb_nI hi (by decide)), ix_nI (by omega), bnd_eq, bnd_eq, nI_1]
theorem putsBack_r (im : IM) : ∃ m, f_X7_putsBack im = some m ∧ cpR im m 83 85 167 := by
  unfold f_X7_putsBack
  refine loopI (fun f m i => f_X7_putsBack_l1 f i m) 0 0 rfl 167 (by omega) (by omega) (fun i m => cpR im m 83 85 i) _ (fun f m hP => ⟨m, ?_, hP⟩) (fun f m i hi0 hi hP => ⟨_, ?_, cpR_up (by decide) hP⟩) _ cpR_0
  · show f_X7_putsBack_l1b _ (nI 167) m = _
    unfold f_X7_putsBack_l1b
    rw [if_pos (by decide)]
  · show f_X7_putsBack_l1b _ (nI i) m = _
    unfold f_X7_putsBack_l1b
    rw [if_neg (n167 hi), if_pos (inb_nI hi (by decide)), if_pos (inb_nI hi (by decide)), ix_nI (by omega), bnd_eq, bnd_eq, nI_1]
theorem lp_image : LP_image Inv := by
  intro im hI
  obtain ⟨⟨V, v1, v2, v3⟩, hK, -⟩ := id hI
  obtain ⟨m, e1, r1, o1⟩ := become_c (im := im) (T := 16) (S := 1) (by omega) v1 v3.1
  have e2 : ∀ x : IM, ∃ b, f_X7_image x = some b ∧ ∃ m, b = (1, up m 82 4 1) ∧ cpR x m 84 83 167 := by
    intro x
    unfold f_X7_image
    refine loopI (fun f m i => f_X7_image_l1 f i m) 0 0 rfl 167 (by omega) (by omega) (fun i m => cpR x m 84 83 i) _ (fun f m hP => ⟨_, ?_, m, rfl, hP⟩) (fun f m i hi0 hi hP => ⟨_, ?_, cpR_up (by decide) hP⟩) _ cpR_0
    · show f_X7_image_l1b _ (nI 167) m = _
      unfold f_X7_image_l1b
      rw [if_pos (by decide), bnd_eq]
    · show f_X7_image_l1b _ (nI i) m = _
      unfold f_X7_image_l1b
      rw [if_neg (n167 hi), if_pos (inb_nI hi (by decide)), if_pos (inb_nI hi (by decide)), ix_nI (by omega), bnd_eq, bnd_eq, nI_1]
  obtain ⟨b, e3, m3, rfl, c3⟩ := e2 (up m 0 2 1)
  refine ⟨1, up m 0 2 1, up m3 82 4 1, ?_, e3, ?_⟩
  · unfold f_X6_image
    rw [e1]
    simp only [Option.bind_some, bnd_eq]
  · have o : ∀ a, a ≠ 0 → ¬ (16 ≤ a ∧ a ≤ 30) → a ≠ 82 → a ≠ 84 → up m3 82 4 1 a = im a := fun a h1 h2 h3 h4 => by
      rw [up_row h3, c3.1 a h4, up_row h1]; exact o1 a (by omega)
    refine hI.kept o (by rw [up_ne (by decide), c3.1 82 (by decide), up_row (by decide), o1 82 (by omega)]) (Or.inr ⟨?_, ?_, V, ?_, ?_, v3⟩)
    · rw [up_row (by decide), c3.1 0 (by decide), up_same]
    · rw [up_same]
    · exact r1.cg (fun a h1 h2 => by rw [up_row (by omega), c3.1 a (by omega), up_row (by omega)]) v3.1
    · refine RR.cg (im := m3) (RR.cp (im := up m 0 2 1) (S := 83) ?_ v3.1 c3) (up_row (by decide))
      exact v2.cg (by rw [up_row (by decide), o1 83 (by omega)])
theorem lp_undo : LP_undo Inv := by
  intro im hI
  obtain ⟨-, hK, -⟩ := id hI
  rcases hK with ⟨k1, k2⟩ | ⟨k1, k2, V, v1, v2, v3⟩
  · refine bref4 hI ?_ (fun m hm => ?_)
    · unfold f_X6_undo
      rw [if_pos k1, refuse_4, Option.bind_some]
    · unfold f_X7_undo
      rw [if_pos (by rw [hm, up_row (by decide)]; exact k2), finds_4, Option.bind_some]
  · obtain ⟨m, e1, r1, o1⟩ := become_c (im := im) (T := 1) (S := 16) (by omega) v1 v3.1
    have e2 : ∀ x : IM, ∃ b, f_X7_undo_l1 xF 0 x = some b ∧ ∃ m : IM, b = (m 83 0, m) ∧ cpR x m 83 84 167 := by
      intro x
      refine loopI (fun f m i => f_X7_undo_l1 f i m) 0 0 rfl 167 (by omega) (by omega) (fun i m => cpR x m 83 84 i) _ (fun f m hP => ⟨_, ?_, m, rfl, hP⟩) (fun f m i hi0 hi hP => ⟨_, ?_, cpR_up (by decide) hP⟩) _ cpR_0
      · show f_X7_undo_l1b _ (nI 167) m = _
        unfold f_X7_undo_l1b
        rw [if_pos (by decide)]
      · show f_X7_undo_l1b _ (nI i) m = _
        unfold f_X7_undo_l1b
        rw [if_neg (n167 hi), if_pos (inb_nI hi (by decide)), if_pos (inb_nI hi (by decide)), ix_nI (by omega), bnd_eq, bnd_eq, nI_1]
    obtain ⟨b, e3, m3, rfl, c3⟩ := e2 m
    have rr : RR m3 83 V := RR.cp (im := m) (S := 84) (v2.cg (o1 84 (by omega))) v3.1 c3
    refine ⟨vM V, m, m3, ?_, ?_, ?_⟩
    · unfold f_X6_undo
      rw [if_neg (by rw [k1]; exact i10), e1]
      simp only [Option.bind_some]
      rw [r1.2.2.2.2.2.2.2.1]
    · unfold f_X7_undo
      rw [if_neg (by rw [o1 82 (by omega), k2]; exact i10), e3, rr.2.2.2.2.2.2.2.1]
    · exact hI.town (fun a h3 h4 => by rw [c3.1 a h4]; exact o1 a (by omega)) ⟨V, r1.cg (fun a h1 h2 => c3.1 a (by omega)) v3.1, rr, v3⟩
