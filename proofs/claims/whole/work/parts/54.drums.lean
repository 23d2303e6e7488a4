/-! drums -/
theorem rem_p : ∀ p, p < 1024 → ∀ t, t < 10 → p.testBit t = true → nI p ^^^ nI (2 ^ t) = nI (p - 2 ^ t) ∧ nI p &&& (nI (2 ^ t) ^^^ (-1)) = nI (p - 2 ^ t) ∧ 2 ^ t ≤ p := by decide +kernel
theorem has_p : ∀ p, p < 1024 → 1 ≤ p → ∃ t, t < 10 ∧ p.testBit t = true := by decide +kernel
def subS (S p : Nat) : Prop := (nI p &&& (nI S ^^^ (-1))) = 0
theorem sub_rem {S p t : Nat} (hp : p < 1024) (ht : t < 10) (h : subS S p) (hb : p.testBit t = true) : subS S (p - 2 ^ t) := by
  unfold subS at h ⊢
  rw [← (rem_p p hp t ht hb).2.1, Int32.and_assoc, Int32.and_comm (nI (2 ^ t) ^^^ (-1)), ← Int32.and_assoc, h, Int32.zero_and]
theorem sub_bit {S p t : Nat} (hp : p < 1024) (hS : S < 1024) (ht : t < 10) (h : subS S p) (hb : p.testBit t = true) : S.testBit t = true := by
  have e : bt (nI p &&& (nI S ^^^ (-1))) t = bt 0 t := by rw [h]
  rw [b_and, b_xor, b_m1 t (by omega), b_0, bt_nI (by omega), bt_nI (by omega), hb] at e
  cases z : S.testBit t with
  | true => rfl
  | false => rw [z] at e; exact absurd e (by decide)
def st (most h w : Nat) : Nat := if h % 1000 + w ≤ most then h + w else (h / 1000 + 1) * 1000 + w
theorem st_hi {most h w q : Nat} (hm : most ≤ 999) (hw : w ≤ 99) (hh : h ≤ 1000 * q + 999) : st most h w ≤ 1000 * (q + 1) + 999 := by
  unfold st
  by_cases c : h % 1000 + w ≤ most
  · rw [if_pos c]; omega
  · rw [if_neg c]; omega
theorem st_lo {most h w : Nat} (hh : 1000 ≤ h) : 1000 ≤ st most h w := by
  unfold st
  by_cases c : h % 1000 + w ≤ most
  · rw [if_pos c]; omega
  · rw [if_neg c]; omega
theorem st_0 {most w : Nat} (hw : w ≤ most) : st most 1000 w = 1000 + w := by
  unfold st
  rw [if_pos (by omega)]
def sv (V : TV) (most : Nat) (D : Nat → Nat) (p t : Nat) : Nat := st most (D (p - 2 ^ t)) (wN V t)
def isM (V : TV) (most : Nat) (D : Nat → Nat) (p n b : Nat) : Prop := (∃ t, t < n ∧ p.testBit t = true ∧ b = sv V most D p t) ∧ ∀ t, t < n → p.testBit t = true → b ≤ sv V most D p t
def isD (V : TV) (S most : Nat) (D : Nat → Nat) (i : Nat) : Prop := D 0 = 1000 ∧ ∀ p, 1 ≤ p → p < i → p ≤ S → subS S p → isM V most D p (vN V) (D p)
theorem isM_cg {V : TV} {most p n b : Nat} {D D' : Nat → Nat} (h : isM V most D p n b) (hp : p < 1024) (hn : n ≤ 10) (e : ∀ q, q < p → D q = D' q) : isM V most D' p n b := by
  have es : ∀ t, t < n → p.testBit t = true → sv V most D p t = sv V most D' p t := by
    intro t ht hb
    have := (rem_p p hp t (by omega) hb).2.2
    have := Nat.two_pow_pos t
    unfold sv
    rw [e (p - 2 ^ t) (by omega)]
  obtain ⟨⟨t, h1, h2, h3⟩, h4⟩ := h
  exact ⟨⟨t, h1, h2, by rw [← es t h1 h2]; exact h3⟩, fun u hu hb => by rw [← es u hu hb]; exact h4 u hu hb⟩
theorem D_lo {V : TV} {S most i : Nat} {D : Nat → Nat} (h : isD V S most D i) (hS : S < 1024) (hN : vN V ≤ 10) : ∀ p, p < i → p ≤ S → subS S p → 1000 ≤ D p := by
  intro p
  induction p using Nat.strongRecOn with
  | ind p ih =>
    intro h1 h2 h3
    by_cases z : p = 0
    · rw [z, h.1]; exact Nat.le_refl _
    · obtain ⟨⟨t, ht, hb, e⟩, -⟩ := h.2 p (by omega) h1 h2 h3
      have hr := rem_p p (by omega) t (by omega) hb
      have := Nat.two_pow_pos t
      rw [e]
      exact st_lo (ih (p - 2 ^ t) (by omega) (by omega) (by omega) (sub_rem (by omega) (by omega) h3 hb))
theorem D_hi {V : TV} {S most i : Nat} {D : Nat → Nat} (h : isD V S most D i) (hS : S < 1024) (ok : OkL V) (hm : most ≤ 999) : ∀ k, k ≤ vN V → ∀ p, p < 2 ^ k → p < i → p ≤ S → subS S p → D p ≤ 1000 * (k + 1) + 999
  | 0, _, p, hp, _, _, _ => by
    have : p = 0 := by simp at hp; exact hp
    rw [this, h.1]
    omega
  | k + 1, hk, p, hp, h1, h2, h3 => by
    have h10 := ok.1
    by_cases c : p < 2 ^ k
    · have := D_hi h hS ok hm k (by omega) p c h1 h2 h3
      omega
    · have hp2 : p < 2 ^ k * 2 := by rw [← Nat.pow_succ]; exact hp
      have hpos := Nat.two_pow_pos k
      have hb : p.testBit k = true := by
        have e := Nat.testBit_two_pow_add_eq (p - 2 ^ k) k
        rw [show 2 ^ k + (p - 2 ^ k) = p by omega, Nat.testBit_lt_two_pow (show p - 2 ^ k < 2 ^ k by omega)] at e
        exact e
      have g := (h.2 p (by omega) h1 h2 h3).2 k (by omega) hb
      have ih := D_hi h hS ok hm k (by omega) (p - 2 ^ k) (by omega) (by omega) (by omega) (sub_rem (by omega) (by omega) h3 hb)
      exact Nat.le_trans g (st_hi hm (wN_e (ok.2.2.2.1 k (by omega))).2.2 ih)
def bit_n (p : Nat) : Nat := p % 2 + p / 2 % 2 + p / 4 % 2 + p / 8 % 2 + p / 16 % 2 + p / 32 % 2 + p / 64 % 2 + p / 128 % 2 + p / 256 % 2 + p / 512 % 2
theorem bit_n_p : ∀ p, p < 1024 → ∀ t, t < 10 → p.testBit t = true → bit_n (p - 2 ^ t) + 1 = bit_n p := by decide +kernel
theorem bit_n_hi (p : Nat) : bit_n p ≤ 10 := by unfold bit_n; omega
theorem sv_bn {V : TV} {S most p t : Nat} {D : Nat → Nat} (ok : OkL V) (hm : most ≤ 999) (hw : ∀ t, t < vN V → S.testBit t = true → wN V t ≤ most) (hS : S < 1024) (h0 : D 0 = 1000) (ht : t < vN V) (hb : p.testBit t = true) (hp : p ≤ S) (hs : subS S p) (ih : 1 ≤ p - 2 ^ t → D (p - 2 ^ t) ≤ 1000 * bit_n (p - 2 ^ t) + 999) : sv V most D p t ≤ 1000 * bit_n p + 999 := by
  have h10 := ok.1
  have w3 := (wN_e (ok.2.2.2.1 t ht)).2.2
  have wm := hw t ht (sub_bit (by omega) hS (by omega) hs hb)
  have e := bit_n_p p (by omega) t (by omega) hb
  rw [← e]
  unfold sv
  by_cases z : p - 2 ^ t = 0
  · rw [z, h0, st_0 wm]
    omega
  · exact st_hi hm w3 (ih (by omega))
theorem D_bn {V : TV} {S most i : Nat} {D : Nat → Nat} (h : isD V S most D i) (hS : S < 1024) (ok : OkL V) (hm : most ≤ 999) (hw : ∀ t, t < vN V → S.testBit t = true → wN V t ≤ most) : ∀ p, 1 ≤ p → p < i → p ≤ S → subS S p → D p ≤ 1000 * bit_n p + 999 := by
  intro p
  induction p using Nat.strongRecOn with
  | ind p ih =>
    intro h0 h1 h2 h3
    have h10 := ok.1
    obtain ⟨⟨t, ht, hb, e⟩, -⟩ := h.2 p h0 h1 h2 h3
    have hr := rem_p p (by omega) t (by omega) hb
    have := Nat.two_pow_pos t
    rw [e]
    exact sv_bn ok hm hw hS h.1 ht hb h2 h3 (fun z => ih (p - 2 ^ t) (by omega) z (by omega) (by omega) (sub_rem (by omega) (by omega) h3 hb))
theorem D_u {V : TV} {S most i : Nat} {D D' : Nat → Nat} (h : isD V S most D i) (h' : isD V S most D' i) (hS : S < 1024) (hN : vN V ≤ 10) : ∀ p, p < i → p ≤ S → subS S p → D p = D' p := by
  intro p
  induction p using Nat.strongRecOn with
  | ind p ih =>
    intro h1 h2 h3
    by_cases z : p = 0
    · rw [z, h.1, h'.1]
    · have es : ∀ t, t < vN V → p.testBit t = true → sv V most D p t = sv V most D' p t := by
        intro t ht hb
        have hr := rem_p p (by omega) t (by omega) hb
        have := Nat.two_pow_pos t
        unfold sv
        rw [ih (p - 2 ^ t) (by omega) (by omega) (by omega) (sub_rem (by omega) (by omega) h3 hb)]
      obtain ⟨⟨t, a1, a2, a3⟩, a4⟩ := h.2 p (by omega) h1 h2 h3
      obtain ⟨⟨u, b1, b2, b3⟩, b4⟩ := h'.2 p (by omega) h1 h2 h3
      have c1 := a4 u b1 b2
      have c2 := b4 t a1 a2
      rw [es u b1 b2] at c1
      rw [← es t a1 a2] at c2
      omega
theorem k1000 : (1000 : Int32) = nI 1000 := rfl
theorem aft_rem {h w : Nat} (hh : h < 2 ^ 31) : jrem (nI h) 1000 + nI w = nI (h % 1000 + w) := by
  unfold jrem
  rw [k1000, pk_rem hh (by omega) (by omega), nI_add]
theorem aft_new {h w : Nat} (hh : h < 2 ^ 31) : ((nI h / 1000 + 1) * 1000) + nI w = nI ((h / 1000 + 1) * 1000 + w) := by
  rw [k1000, pk_div hh (by omega) (by omega), nI_1, pk_mul, nI_add]
theorem aft_new2 {h w : Nat} (hh : h < 2 ^ 31) : ((nI h / 1000) * 1000 + 1000) + nI w = nI ((h / 1000 + 1) * 1000 + w) := by
  rw [k1000, pk_div hh (by omega) (by omega), pk_mul, nI_add, nI_add, show h / 1000 * 1000 + 1000 = (h / 1000 + 1) * 1000 by omega]
theorem few_c {m : IM} {V : TV} {S most p : Nat} {D : Nat → Nat} (v : RC m 1 V) (ok : OkL V) (hD : isD V S most D p) (hS : S < 2 ^ vN V) (hm : most ≤ 999) (hw : ∀ t, t < vN V → S.testBit t = true → wN V t ≤ most) (h1 : 1 ≤ p) (hp : p ≤ S) (hs : subS S p) (hr : ∀ q, q < p → q ≤ S → subS S q → m 64 q = nI (D q)) : ∃ b : Nat, f_X0_fewestFor 1 (nI p) (nI most) m = some (nI b) ∧ isM V most D p (vN V) b := by
  have h10 := ok.1
  have h2p := p2_10 (vN V) (by omega)
  unfold f_X0_fewestFor
  refine loopG (fun f x i => f_X0_fewestFor_l1 1 (nI p) (nI most) m f x i) (fun b : Nat => some (nI b)) 0 0 rfl (vN V) (by omega) (by omega) (fun i x => (x = 11000 ∧ ∀ u, u < i → ¬ p.testBit u = true) ∨ ∃ b, x = nI b ∧ b ≤ 99999 ∧ isM V most D p i b) _ (fun f x hP => ?_) (fun f x i hi0 hi hP => Or.inr ?_) 11000 (Or.inl ⟨rfl, fun u hu => absurd hu (Nat.not_lt_zero _)⟩)
  · rcases hP with ⟨-, z⟩ | ⟨b, rfl, -, hb⟩
    · obtain ⟨t, t1, t2⟩ := has_p p (by omega) h1
      have t3 := (rem_p p (by omega) t t1 t2).2.2
      have : t < vN V := by
        rcases Nat.lt_or_ge t (vN V) with y | y
        · exact y
        · have := Nat.pow_le_pow_right (show 0 < 2 by omega) y
          omega
      exact absurd t2 (z t this)
    · refine ⟨b, ?_, hb⟩
      show f_X0_fewestFor_l1b 1 (nI p) (nI most) m _ (nI b) (nI (vN V)) = _
      unfold f_X0_fewestFor_l1b
      rw [v.2.2.2.2.1, if_pos (Int32.le_refl _)]
  · by_cases c : p.testBit i = true
    · obtain ⟨r1, r2, r3⟩ := rem_p p (by omega) i (by omega) c
      have hpos := Nat.two_pow_pos i
      have hsr := sub_rem (by omega) (by omega) hs c
      have lo := D_lo hD (by omega) h10 (p - 2 ^ i) (by omega) (by omega) hsr
      have hi' := D_hi hD (by omega) ok hm (vN V) (Nat.le_refl _) (p - 2 ^ i) (by omega) (by omega) (by omega) hsr
      obtain ⟨w1, -, w3⟩ := wN_e (ok.2.2.2.1 i hi)
      have vb : sv V most D p i ≤ 10999 := by
        have := sv_bn ok hm hw (by omega) hD.1 hi c hp hs (fun z => D_bn hD (by omega) ok hm hw (p - 2 ^ i) z (by omega) (by omega) hsr)
        have := bit_n_hi p
        omega
      have e0 : f_X0_fewestFor_l1 1 (nI p) (nI most) m (f + 1) x (nI i) = f_X0_fewestFor_l1 1 (nI p) (nI most) m f (jmin x (nI (sv V most D p i))) (nI (i + 1)) := by
        show f_X0_fewestFor_l1b 1 (nI p) (nI most) m _ x (nI i) = _
        unfold f_X0_fewestFor_l1b f_X0_fewestFor_j3 f_X0_fewestFor_j4 f_X0_fewestFor_j2
        rw [v.2.2.2.2.1, if_neg (nI_ge hi (by omega)), has_c (by omega), bt_nI (by omega), if_pos c, if_neg i10, shl_p i (by omega), r1, if_pos (inb_nI (show p - 2 ^ i < 1024 by omega) (by decide)), bnd_eq, ix_nI (show p - 2 ^ i < 2 ^ 31 by omega), hr (p - 2 ^ i) (by omega) (by omega) hsr, if_pos (inb_nI (show i < 10 by omega) (by decide)), bnd_eq, ix_nI (show i < 2 ^ 31 by omega), v.2.2.1 i hi 1 (by decide), w1, aft_rem (by omega), aft_new (by omega), nI_add]
        simp only [bnd_eq, nI_1]
        unfold sv st
        by_cases z : D (p - 2 ^ i) % 1000 + wN V i ≤ most
        · rw [if_neg (nI_nlt z (by omega)), if_neg i10, if_pos z]
        · rw [if_pos (nI_lt (by omega) (by omega)), if_pos trivial, if_neg z]
      refine ⟨_, e0, Or.inr ?_⟩
      rcases hP with ⟨rfl, z⟩ | ⟨b, rfl, hb9, ⟨u, u1, u2, u3⟩, hb⟩
      · refine ⟨sv V most D p i, ?_, by omega, ⟨i, by omega, c, rfl⟩, fun t ht hb => ?_⟩
        · unfold jmin
          rw [if_pos ((nI_lt_lit (n := 11000) 11000 (by decide) (by omega)).mpr (by omega))]
        · by_cases e : t = i
          · subst e; exact Nat.le_refl _
          · exact absurd hb (z t (by omega))
      · unfold jmin
        by_cases z : sv V most D p i < b
        · rw [if_pos (nI_lt z (by omega))]
          refine ⟨sv V most D p i, rfl, by omega, ⟨i, by omega, c, rfl⟩, fun t ht hb' => ?_⟩
          by_cases e : t = i
          · subst e; exact Nat.le_refl _
          · have := hb t (by omega) hb'
            omega
        · rw [if_neg (nI_nlt (by omega) (by omega))]
          refine ⟨b, rfl, hb9, ⟨u, by omega, u2, u3⟩, fun t ht hb' => ?_⟩
          by_cases e : t = i
          · subst e; omega
          · exact hb t (by omega) hb'
    · refine ⟨x, ?_, ?_⟩
      · show f_X0_fewestFor_l1b 1 (nI p) (nI most) m _ x (nI i) = _
        unfold f_X0_fewestFor_l1b f_X0_fewestFor_j2
        rw [v.2.2.2.2.1, if_neg (nI_ge hi (by omega)), has_c (by omega), bt_nI (by omega), if_neg c, if_pos rfl, bnd_eq, nI_1]
      · rcases hP with ⟨e, z⟩ | ⟨b, e, hb9, ⟨u, u1, u2, u3⟩, hb⟩
        · refine Or.inl ⟨e, fun u hu hb => ?_⟩
          by_cases y : u = i
          · subst y; exact c hb
          · exact z u (by omega) hb
        · refine Or.inr ⟨b, e, hb9, ⟨u, by omega, u2, u3⟩, fun t ht hb' => ?_⟩
          by_cases y : t = i
          · subst y; exact absurd hb' c
          · exact hb t (by omega) hb'
theorem isD_up {V : TV} {S most i b : Nat} {D : Nat → Nat} (hD : isD V S most D i) (h1 : 1 ≤ i) (hi : i < 1024) (hN : vN V ≤ 10) (hM : isM V most D i (vN V) b) : isD V S most (fun p => if p = i then b else D p) (i + 1) := by
  refine ⟨?_, fun p p1 p2 p3 p4 => ?_⟩
  · show (if 0 = i then b else D 0) = 1000
    rw [if_neg (by omega)]; exact hD.1
  · show isM V most (fun p => if p = i then b else D p) p (vN V) (if p = i then b else D p)
    by_cases e : p = i
    · subst e
      rw [if_pos rfl]
      refine isM_cg hM hi hN (fun q hq => ?_)
      show D q = if q = p then b else D q
      rw [if_neg (by omega)]
    · rw [if_neg e]
      refine isM_cg (hD.2 p p1 (by omega) p3 p4) (by omega) hN (fun q hq => ?_)
      show D q = if q = i then b else D q
      rw [if_neg (by omega)]
theorem isD_skip {V : TV} {S most i : Nat} {D : Nat → Nat} (hD : isD V S most D i) (hn : ¬ subS S i) : isD V S most D (i + 1) := by
  refine ⟨hD.1, fun p p1 p2 p3 p4 => ?_⟩
  by_cases e : p = i
  · subst e; exact absurd p4 hn
  · exact hD.2 p p1 (by omega) p3 p4
theorem drums_c {im : IM} {V : TV} {S most : Nat} (v : RC im 1 V) (ok : OkL V) (h1 : 1 ≤ S) (hS : S < 2 ^ vN V) (hm : most ≤ 999) (hw : ∀ t, t < vN V → S.testBit t = true → wN V t ≤ most) : ∃ c : (Nat → Nat) × IM, f_X0_fewestDrums 1 (nI S) (nI most) im = some (nI (c.1 S) / 1000, c.2) ∧ ((∀ a, a ≠ 64 → c.2 a = im a) ∧ isD V S most c.1 (S + 1)) := by
  have h10 := ok.1
  have h2p := p2_10 (vN V) (by omega)
  have sS : subS S S := by
    obtain ⟨b, -, -, -, -, z⟩ := low_S S (by omega) h1
    exact z
  unfold f_X0_fewestDrums
  rw [bnd_eq]
  refine loopG (fun f m i => f_X0_fewestDrums_l1 1 (nI S) (nI most) f i m) (fun c : (Nat → Nat) × IM => some (nI (c.1 S) / 1000, c.2)) 1 1 rfl (S + 1) (by omega) (by omega) (fun i m => (∀ a, a ≠ 64 → m a = im a) ∧ ∃ D, isD V S most D i ∧ ∀ p, p < i → p ≤ S → subS S p → m 64 p = nI (D p)) _ (fun f m hP => ?_) (fun f m i hi0 hi hP => Or.inr ?_) (up im 64 0 1000) ⟨fun a ha => up_row ha, fun _ => 1000, ⟨rfl, fun p p1 p2 => absurd p2 (by omega)⟩, fun p hp _ _ => ?_⟩
  · obtain ⟨p1, D, p2, p3⟩ := hP
    refine ⟨(D, m), ?_, p1, p2⟩
    show f_X0_fewestDrums_l1b 1 (nI S) (nI most) _ (nI (S + 1)) m = _
    unfold f_X0_fewestDrums_l1b f_X0_fewestDrums_j2
    rw [if_pos (nI_lt (by omega) (by omega)), if_pos (inb_nI (show S < 1024 by omega) (by decide)), ix_nI (by omega), p3 S (by omega) (Nat.le_refl _) sS]
  · obtain ⟨p1, D, p2, p3⟩ := hP
    have n1 : ¬ nI S < nI i := nI_nlt (by omega) (by omega)
    have n2 : ¬ (1024 : Int32) ≤ nI i := by rw [nI_ge_lit (n := 1024) 1024 (by decide) (by omega)]; omega
    by_cases c : subS S i
    · obtain ⟨b, eb, hb⟩ := few_c (v.cg (fun a g1 g2 => p1 a (by omega)) h10) ok p2 hS hm hw hi0 (by omega) c p3
      refine ⟨up m 64 i (nI b), ?_, fun a ha => by rw [up_row ha]; exact p1 a ha, _, isD_up p2 hi0 (by omega) h10 hb, fun p q1 q2 q3 => ?_⟩
      · show f_X0_fewestDrums_l1b 1 (nI S) (nI most) _ (nI i) m = _
        unfold f_X0_fewestDrums_l1b f_X0_fewestDrums_j3
        rw [if_neg n1, if_neg n2, if_pos (show (nI i &&& (nI S ^^^ (-1))) = 0 from c), eb, Option.bind_some, if_pos (inb_nI (show i < 1024 by omega) (by decide)), ix_nI (by omega), bnd_eq, bnd_eq, nI_1]
      · show up m 64 i (nI b) 64 p = nI (if p = i then b else D p)
        by_cases e : p = i
        · subst e; rw [up_same, if_pos rfl]
        · rw [up_ne e, if_neg e]; exact p3 p (by omega) q2 q3
    · refine ⟨m, ?_, p1, D, isD_skip p2 c, fun p q1 q2 q3 => ?_⟩
      · show f_X0_fewestDrums_l1b 1 (nI S) (nI most) _ (nI i) m = _
        unfold f_X0_fewestDrums_l1b f_X0_fewestDrums_j3
        rw [if_neg n1, if_neg n2, if_neg (show ¬ (nI i &&& (nI S ^^^ (-1))) = 0 from c), bnd_eq, nI_1]
      · by_cases e : p = i
        · subst e; exact absurd q3 c
        · exact p3 p (by omega) q2 q3
  · have : p = 0 := by omega
    subst this
    rw [up_same]
    rfl
/-! the reference's drums -/
theorem few_r {m : IM} {V : TV} {S most p : Nat} {D : Nat → Nat} {k3 : Int32 → IM → Option (Int32 × IM)} (v : RR m 83 V) (ok : OkL V) (hD : isD V S most D p) (hS : S < 2 ^ vN V) (hm : most ≤ 999) (hw : ∀ t, t < vN V → S.testBit t = true → wN V t ≤ most) (h1 : 1 ≤ p) (hp : p ≤ S) (hs : subS S p) (h0 : m 87 0 = 0) (hpp : m 87 p = 99999) (hr : ∀ q, 1 ≤ q → q < p → q ≤ S → subS S q → m 87 q = nI (D q)) : ∃ c : Nat × IM, f_X7_drums_l4 (nI S) (nI most) k3 xF (nI p) 0 m = k3 (nI (p + 1)) c.2 ∧ (isM V most D p (vN V) c.1 ∧ (∀ a, a ≠ 87 → c.2 a = m a) ∧ (∀ q, q ≠ p → c.2 87 q = m 87 q) ∧ c.2 87 p = nI c.1) := by
  have h10 := ok.1
  have h2p := p2_10 (vN V) (by omega)
  have ipb := inb_nI (show p < 1024 by omega) (show 1024 < 2 ^ 31 by decide)
  have ipx : ix (nI p) = p := ix_nI (by omega)
  refine loopG (fun f x i => f_X7_drums_l4 (nI S) (nI most) k3 f (nI p) i x) (fun c : Nat × IM => k3 (nI (p + 1)) c.2) 0 0 rfl (vN V) (by omega) (by omega) (fun i x => (∀ a, a ≠ 87 → x a = m a) ∧ (∀ q, q ≠ p → x 87 q = m 87 q) ∧ ((x 87 p = 99999 ∧ ∀ u, u < i → ¬ p.testBit u = true) ∨ ∃ b, x 87 p = nI b ∧ b ≤ 99999 ∧ isM V most D p i b)) _ (fun f x hP => ?_) (fun f x i hi0 hi hP => Or.inr ?_) m ⟨fun _ _ => rfl, fun _ _ => rfl, Or.inl ⟨hpp, fun u hu => absurd hu (Nat.not_lt_zero _)⟩⟩
  · obtain ⟨o1, o2, hP⟩ := hP
    rcases hP with ⟨-, z⟩ | ⟨b, e, -, hb⟩
    · obtain ⟨t, t1, t2⟩ := has_p p (by omega) h1
      have t3 := (rem_p p (by omega) t t1 t2).2.2
      have : t < vN V := by
        rcases Nat.lt_or_ge t (vN V) with y | y
        · exact y
        · have := Nat.pow_le_pow_right (show 0 < 2 by omega) y
          omega
      exact absurd t2 (z t this)
    · refine ⟨(b, x), ?_, hb, o1, o2, e⟩
      show f_X7_drums_l4b (nI S) (nI most) k3 _ (nI p) (nI (vN V)) x = k3 (nI (p + 1)) x
      unfold f_X7_drums_l4b f_X7_drums_j5
      rw [o1 83 (by decide), v.2.2.2.2.1, if_pos (Int32.le_refl _), bnd_eq, nI_1]
  · obtain ⟨o1, o2, hP⟩ := hP
    have vx : RR x 83 V := v.cg (o1 83 (by decide))
    by_cases c : p.testBit i = true
    · obtain ⟨r1, r2, r3⟩ := rem_p p (by omega) i (by omega) c
      have hpos := Nat.two_pow_pos i
      have hsr := sub_rem (by omega) (by omega) hs c
      have lo := D_lo hD (by omega) h10 (p - 2 ^ i) (by omega) (by omega) hsr
      have hi' := D_hi hD (by omega) ok hm (vN V) (Nat.le_refl _) (p - 2 ^ i) (by omega) (by omega) (by omega) hsr
      obtain ⟨w1, -, w3⟩ := wN_e (ok.2.2.2.1 i hi)
      have wm := hw i hi (sub_bit (by omega) (by omega) (by omega) hs c)
      have vb : sv V most D p i ≤ 99998 := by
        have := st_hi (w := wN V i) hm w3 hi'
        unfold sv
        omega
      have e9 : f_X7_drums_l4 (nI S) (nI most) k3 (f + 1) (nI p) (nI i) x = f_X7_drums_j9 (nI S) (nI most) k3 (f_X7_drums_l4 (nI S) (nI most) k3 f) (nI p) (nI i) (nI (sv V most D p i)) x := by
        show f_X7_drums_l4b (nI S) (nI most) k3 _ (nI p) (nI i) x = _
        unfold f_X7_drums_l4b f_X7_drums_j7 f_X7_drums_j8
        rw [vx.2.2.2.2.1, if_neg (nI_ge hi (by omega)), if_pos (show (nI p &&& (nI S ^^^ (-1))) = 0 from hs), has_r (by omega), bt_nI (by omega), if_pos c, if_neg i10, shl_p i (by omega), r2, if_pos (inb_nI (show p - 2 ^ i < 1024 by omega) (by decide)), bnd_eq, ix_nI (show p - 2 ^ i < 2 ^ 31 by omega), o2 (p - 2 ^ i) (by omega), its_w (w := 1) 1 rfl (by omega) (by decide), Option.bind_some, vx.2.2.1 i hi 1 (by decide), w1]
        by_cases z : p - 2 ^ i = 0
        · have e1 : sv V most D p i = 1000 + wN V i := by
            unfold sv
            rw [z, hD.1, st_0 wm]
          rw [z, h0, if_pos (by decide), if_pos rfl, e1, show (0 : Int32) / 1000 * 1000 + 1000 = nI 1000 by decide, nI_add]
        · rw [hr (p - 2 ^ i) (by omega) (by omega) (by omega) hsr, if_neg (by rw [nI_lt_lit (n := 1000) 1000 (by decide) (by omega)]; omega), aft_rem (by omega), aft_new2 (by omega), nI_add, if_pos rfl, if_neg i10]
          unfold sv st
          by_cases y : D (p - 2 ^ i) % 1000 + wN V i ≤ most
          · rw [if_neg (nI_nlt y (by omega)), if_pos y]
          · rw [if_pos (nI_lt (by omega) (by omega)), if_neg y]
      have e0 : ∀ y : Int32, y = (if x 87 p ≤ nI (sv V most D p i) then x 87 p else nI (sv V most D p i)) → f_X7_drums_l4 (nI S) (nI most) k3 (f + 1) (nI p) (nI i) x = f_X7_drums_l4 (nI S) (nI most) k3 f (nI p) (nI (i + 1)) (up x 87 p y) := by
        intro y hy
        rw [e9, hy]
        unfold f_X7_drums_j9 f_X7_drums_j10 f_X7_drums_j6
        rw [if_pos ipb, ipx]
        simp only [bnd_eq, nI_1, if_pos ipb]
        by_cases z : x 87 p ≤ nI (sv V most D p i)
        · rw [if_pos z, if_pos z]
        · rw [if_neg z, if_neg z]
      rcases hP with ⟨hx, z⟩ | ⟨b, hx, hb9, ⟨u, u1, u2, u3⟩, hb⟩
      · refine ⟨up x 87 p (nI (sv V most D p i)), e0 _ ?_, fun a ha => by rw [up_row ha]; exact o1 a ha, fun q hq => by rw [up_ne hq]; exact o2 q hq, Or.inr ⟨sv V most D p i, up_same, by omega, ⟨i, by omega, c, rfl⟩, fun t ht hb => ?_⟩⟩
        · rw [hx, if_neg (by rw [nI_ge_lit (n := 99999) 99999 (by decide) (by omega)]; omega)]
        · by_cases e : t = i
          · subst e; exact Nat.le_refl _
          · exact absurd hb (z t (by omega))
      · by_cases z : b ≤ sv V most D p i
        · refine ⟨up x 87 p (nI b), e0 _ ?_, fun a ha => by rw [up_row ha]; exact o1 a ha, fun q hq => by rw [up_ne hq]; exact o2 q hq, Or.inr ⟨b, up_same, hb9, ⟨u, by omega, u2, u3⟩, fun t ht hb' => ?_⟩⟩
          · rw [hx, if_pos (nI_le z (by omega))]
          · by_cases e : t = i
            · subst e; exact z
            · exact hb t (by omega) hb'
        · refine ⟨up x 87 p (nI (sv V most D p i)), e0 _ ?_, fun a ha => by rw [up_row ha]; exact o1 a ha, fun q hq => by rw [up_ne hq]; exact o2 q hq, Or.inr ⟨sv V most D p i, up_same, by omega, ⟨i, by omega, c, rfl⟩, fun t ht hb' => ?_⟩⟩
          · rw [hx, if_neg (nI_ge (by omega) (by omega))]
          · by_cases e : t = i
            · subst e; exact Nat.le_refl _
            · have := hb t (by omega) hb'
              omega
    · refine ⟨x, ?_, o1, o2, ?_⟩
      · show f_X7_drums_l4b (nI S) (nI most) k3 _ (nI p) (nI i) x = _
        unfold f_X7_drums_l4b f_X7_drums_j6
        rw [vx.2.2.2.2.1, if_neg (nI_ge hi (by omega)), if_pos (show (nI p &&& (nI S ^^^ (-1))) = 0 from hs), has_r (by omega), bt_nI (by omega), if_neg c, if_pos rfl, bnd_eq, nI_1]
      · rcases hP with ⟨e, z⟩ | ⟨b, e, hb9, ⟨u, u1, u2, u3⟩, hb⟩
        · refine Or.inl ⟨e, fun u hu hb => ?_⟩
          by_cases y : u = i
          · subst y; exact c hb
          · exact z u (by omega) hb
        · refine Or.inr ⟨b, e, hb9, ⟨u, by omega, u2, u3⟩, fun t ht hb' => ?_⟩
          by_cases y : t = i
          · subst y; exact absurd hb' c
          · exact hb t (by omega) hb'
theorem drums_r {im : IM} {V : TV} {S most : Nat} (v : RR im 83 V) (ok : OkL V) (h1 : 1 ≤ S) (hS : S < 2 ^ vN V) (hm : most ≤ 999) (hw : ∀ t, t < vN V → S.testBit t = true → wN V t ≤ most) : ∃ c : (Nat → Nat) × IM, f_X7_drums_l3 (nI S) (nI most) xF 1 (up im 87 0 0) = some (nI (c.1 S) / 1000, c.2) ∧ ((∀ a, a ≠ 87 → c.2 a = im a) ∧ isD V S most c.1 (S + 1)) := by
  have h10 := ok.1
  have h2p := p2_10 (vN V) (by omega)
  have hN0 : 0 < vN V := by
    rcases Nat.eq_zero_or_pos (vN V) with z | z
    · rw [z] at hS; omega
    · exact z
  have sS : subS S S := by
    obtain ⟨b, -, -, -, -, z⟩ := low_S S (by omega) h1
    exact z
  refine loopG (fun f m i => f_X7_drums_l3 (nI S) (nI most) f i m) (fun c : (Nat → Nat) × IM => some (nI (c.1 S) / 1000, c.2)) 1 1 rfl (S + 1) (by omega) (by omega) (fun i m => (∀ a, a ≠ 87 → m a = im a) ∧ ∃ D, isD V S most D i ∧ m 87 0 = 0 ∧ ∀ p, 1 ≤ p → p < i → p ≤ S → subS S p → m 87 p = nI (D p)) _ (fun f m hP => ?_) (fun f m i hi0 hi hP => Or.inr ?_) (up im 87 0 0) ⟨fun a ha => up_row ha, fun _ => 1000, ⟨rfl, fun p p1 p2 => absurd p2 (by omega)⟩, up_same, fun p q1 q2 => absurd q2 (by omega)⟩
  · obtain ⟨p1, D, p2, p0, p3⟩ := hP
    refine ⟨(D, m), ?_, p1, p2⟩
    show f_X7_drums_l3b (nI S) (nI most) _ (nI (S + 1)) m = _
    unfold f_X7_drums_l3b
    rw [if_pos (nI_lt (by omega) (by omega)), if_pos (inb_nI (show S < 1024 by omega) (by decide)), ix_nI (by omega), p3 S h1 (by omega) (Nat.le_refl _) sS]
  · obtain ⟨p1, D, p2, p0, p3⟩ := hP
    have n1 : ¬ nI S < nI i := nI_nlt (by omega) (by omega)
    have e3 : f_X7_drums_l3 (nI S) (nI most) (f + 1) (nI i) m = f_X7_drums_l4 (nI S) (nI most) (f_X7_drums_l3 (nI S) (nI most) f) xF (nI i) 0 (up m 87 i 99999) := by
      show f_X7_drums_l3b (nI S) (nI most) _ (nI i) m = _
      unfold f_X7_drums_l3b
      rw [if_neg n1, if_pos (inb_nI (show i < 1024 by omega) (by decide)), ix_nI (by omega), bnd_eq]
    have vx : RR (up m 87 i 99999) 83 V := v.cg (by rw [up_row (by decide), p1 83 (by decide)])
    by_cases c : subS S i
    · obtain ⟨⟨b, m'⟩, e, hb, o1, o2, ob⟩ := few_r (k3 := f_X7_drums_l3 (nI S) (nI most) f) vx ok p2 hS hm hw hi0 (by omega) c (by rw [up_ne (by omega)]; exact p0) up_same (fun q q1 q2 q3 q4 => by rw [up_ne (by omega)]; exact p3 q q1 q2 q3 q4)
      have o1 : ∀ a, a ≠ 87 → m' a = up m 87 i 99999 a := o1
      have o2 : ∀ q, q ≠ i → m' 87 q = up m 87 i 99999 87 q := o2
      have ob : m' 87 i = nI b := ob
      refine ⟨m', e3.trans e, fun a ha => by rw [o1 a ha, up_row ha]; exact p1 a ha, _, isD_up p2 hi0 (by omega) h10 hb, ?_, fun p q0 q1 q2 q3 => ?_⟩
      · rw [o2 0 (by omega), up_ne (by omega)]; exact p0
      · show m' 87 p = nI (if p = i then b else D p)
        by_cases e : p = i
        · subst e; rw [if_pos rfl]; exact ob
        · rw [if_neg e, o2 p e, up_ne e]; exact p3 p q0 (by omega) q2 q3
    · refine ⟨up m 87 i 99999, ?_, fun a ha => by rw [up_row ha]; exact p1 a ha, D, isD_skip p2 c, by rw [up_ne (by omega)]; exact p0, fun p q0 q1 q2 q3 => ?_⟩
      · rw [e3]
        show f_X7_drums_l4b (nI S) (nI most) _ _ (nI i) 0 (up m 87 i 99999) = _
        unfold f_X7_drums_l4b f_X7_drums_j5
        rw [vx.2.2.2.2.1, if_neg (nI_nle hN0 (by omega)), if_neg (show ¬ (nI i &&& (nI S ^^^ (-1))) = 0 from c), bnd_eq, nI_1]
      · by_cases e : p = i
        · subst e; exact absurd q3 c
        · rw [up_ne e]; exact p3 p q0 (by omega) q2 q3
/-! is each thing light enough? -/
theorem heavy_c {im : IM} {V : TV} {S : Nat} (v : RC im 1 V) (ok : OkL V) (hS : S < 2 ^ 31) : ∃ h : Nat, f_X5_heaviest 1 (nI S) im = some (nI h) ∧ (h ≤ 99 ∧ (∀ u, u < vN V → S.testBit u = true → wN V u ≤ h) ∧ (h = 0 ∨ ∃ u, u < vN V ∧ S.testBit u = true ∧ wN V u = h)) := by
  have h10 := ok.1
  unfold f_X5_heaviest
  refine loopG (fun f x i => f_X5_heaviest_l1 1 (nI S) im f x i) (fun h : Nat => some (nI h)) 0 0 rfl (vN V) (by omega) (by omega) (fun i x => ∃ h : Nat, x = nI h ∧ h ≤ 99 ∧ (∀ u, u < i → S.testBit u = true → wN V u ≤ h) ∧ (h = 0 ∨ ∃ u, u < i ∧ S.testBit u = true ∧ wN V u = h)) _ (fun f x hP => ?_) (fun f x i hi0 hi hP => Or.inr ?_) 0 ⟨0, rfl, by omega, fun u hu => absurd hu (Nat.not_lt_zero _), Or.inl rfl⟩
  · obtain ⟨h, rfl, hh⟩ := hP
    refine ⟨h, ?_, hh⟩
    show f_X5_heaviest_l1b 1 (nI S) im _ (nI h) (nI (vN V)) = _
    unfold f_X5_heaviest_l1b
    rw [v.2.2.2.2.1, if_pos (Int32.le_refl _)]
  · obtain ⟨h, rfl, h1, h2, h3⟩ := hP
    obtain ⟨w1, -, w3⟩ := wN_e (ok.2.2.2.1 i hi)
    by_cases c : S.testBit i = true
    · have e0 : f_X5_heaviest_l1 1 (nI S) im (f + 1) (nI h) (nI i) = f_X5_heaviest_l1 1 (nI S) im f (jmax (nI h) (nI (wN V i))) (nI (i + 1)) := by
        show f_X5_heaviest_l1b 1 (nI S) im _ (nI h) (nI i) = _
        unfold f_X5_heaviest_l1b f_X5_heaviest_j2
        rw [v.2.2.2.2.1, if_neg (nI_ge hi (by omega)), has_c (by omega), bt_nI (by omega), if_pos c, if_neg i10, if_pos (inb_nI (show i < 10 by omega) (by decide)), ix_nI (by omega), v.2.2.1 i hi 1 (by decide), w1, bnd_eq, bnd_eq, nI_1]
      refine ⟨_, e0, ?_⟩
      unfold jmax
      by_cases z : h < wN V i
      · rw [if_pos (nI_lt z (by omega))]
        refine ⟨wN V i, rfl, w3, fun u hu hb => ?_, Or.inr ⟨i, by omega, c, rfl⟩⟩
        by_cases e : u = i
        · subst e; exact Nat.le_refl _
        · have := h2 u (by omega) hb
          omega
      · rw [if_neg (nI_nlt (by omega) (by omega))]
        refine ⟨h, rfl, h1, fun u hu hb => ?_, ?_⟩
        · by_cases e : u = i
          · subst e; omega
          · exact h2 u (by omega) hb
        · rcases h3 with h3 | ⟨u, u1, u2⟩
          · exact Or.inl h3
          · exact Or.inr ⟨u, by omega, u2⟩
    · refine ⟨nI h, ?_, h, rfl, h1, fun u hu hb => ?_, ?_⟩
      · show f_X5_heaviest_l1b 1 (nI S) im _ (nI h) (nI i) = _
        unfold f_X5_heaviest_l1b f_X5_heaviest_j2
        rw [v.2.2.2.2.1, if_neg (nI_ge hi (by omega)), has_c (by omega), bt_nI (by omega), if_neg c, if_pos rfl, bnd_eq, nI_1]
      · by_cases e : u = i
        · subst e; exact absurd hb c
        · exact h2 u (by omega) hb
      · rcases h3 with h3 | ⟨u, u1, u2⟩
        · exact Or.inl h3
        · exact Or.inr ⟨u, by omega, u2⟩
theorem light_r {im : IM} {V : TV} {S most : Nat} (v : RR im 83 V) (ok : OkL V) (hS : S < 2 ^ 31) (hm : most ≤ 999) : ∃ x : Int32, f_X7_drums_l2 (nI S) (nI most) xF 1 0 im = (if x = 0 then (f_X7_finds (-1000004) im).bind fun r9 => some (r9.1, r9.2) else bnd (up im 87 0 0) fun m2 => f_X7_drums_l3 (nI S) (nI most) xF 1 m2) ∧ ((x = 1 ∧ ∀ u, u < vN V → S.testBit u = true → wN V u ≤ most) ∨ (x = 0 ∧ ∃ u, u < vN V ∧ S.testBit u = true ∧ most < wN V u)) := by
  have h10 := ok.1
  refine loopG (fun f x i => f_X7_drums_l2 (nI S) (nI most) f x i im) (fun x : Int32 => if x = 0 then (f_X7_finds (-1000004) im).bind fun r9 => some (r9.1, r9.2) else bnd (up im 87 0 0) fun m2 => f_X7_drums_l3 (nI S) (nI most) xF 1 m2) 0 0 rfl (vN V) (by omega) (by omega) (fun i x => (x = 1 ∧ ∀ u, u < i → S.testBit u = true → wN V u ≤ most) ∨ (x = 0 ∧ ∃ u, u < i ∧ S.testBit u = true ∧ most < wN V u)) _ (fun f x hP => ⟨x, ?_, hP⟩) (fun f x i hi0 hi hP => Or.inr ?_) 1 (Or.inl ⟨rfl, fun u hu => absurd hu (Nat.not_lt_zero _)⟩)
  · show f_X7_drums_l2b (nI S) (nI most) _ x (nI (vN V)) im = _
    unfold f_X7_drums_l2b
    rw [v.2.2.2.2.1, if_pos (Int32.le_refl _)]
  · obtain ⟨w1, -, w3⟩ := wN_e (ok.2.2.2.1 i hi)
    rcases hP with ⟨rfl, h⟩ | ⟨rfl, u, u1, u2⟩
    · by_cases c : S.testBit i = true ∧ most < wN V i
      · refine ⟨0, ?_, Or.inr ⟨rfl, i, by omega, c⟩⟩
        show f_X7_drums_l2b (nI S) (nI most) _ 1 (nI i) im = _
        unfold f_X7_drums_l2b f_X7_drums_j11 f_X7_drums_j12
        rw [v.2.2.2.2.1, if_neg (nI_ge hi (by omega)), if_neg i10, has_r (by omega), bt_nI (by omega), if_pos c.1, if_neg i10, its_w (w := 1) 1 rfl (by omega) (by decide), Option.bind_some, v.2.2.1 i hi 1 (by decide), w1, if_pos (nI_lt c.2 (by omega)), bnd_eq, nI_1]
      · refine ⟨1, ?_, Or.inl ⟨rfl, fun u hu hb => ?_⟩⟩
        · show f_X7_drums_l2b (nI S) (nI most) _ 1 (nI i) im = _
          unfold f_X7_drums_l2b f_X7_drums_j13 f_X7_drums_j12
          rw [v.2.2.2.2.1, if_neg (nI_ge hi (by omega)), if_neg i10, has_r (by omega), bt_nI (by omega), its_w (w := 1) 1 rfl (by omega) (by decide), Option.bind_some, v.2.2.1 i hi 1 (by decide), w1, bnd_eq, nI_1]
          by_cases z : S.testBit i = true
          · rw [if_pos z, if_neg i10, if_neg (nI_nlt (Nat.le_of_not_lt (fun y => c ⟨z, y⟩)) (by omega))]
          · rw [if_neg z, if_pos rfl]
        · by_cases e : u = i
          · subst e
            rcases Nat.lt_or_ge most (wN V u) with z | z
            · exact absurd ⟨hb, z⟩ c
            · exact z
          · exact h u (by omega) hb
    · refine ⟨0, ?_, Or.inr ⟨rfl, u, by omega, u2⟩⟩
      show f_X7_drums_l2b (nI S) (nI most) _ 0 (nI i) im = _
      unfold f_X7_drums_l2b f_X7_drums_j11 f_X7_drums_j12
      rw [v.2.2.2.2.1, if_neg (nI_ge hi (by omega)), if_pos rfl, bnd_eq, nI_1]
theorem lp_drums : LP_drums Inv := by
  intro im hI a1 a2
  obtain ⟨⟨V, v1, v2, v3⟩, -⟩ := id hI
  have h10 := v3.1
  have ok := v3.l
  have h2p := p2_10 (vN V) (by omega)
  by_cases hs : ∃ S, 1 ≤ S ∧ S < 2 ^ vN V ∧ a1 = nI S
  · obtain ⟨S, h1, h2, rfl⟩ := hs
    by_cases hn : wi a2 1 999
    · obtain ⟨most, hm, rfl⟩ := rng_of (n := 999) 999 (by decide) (Int32.le_trans (by decide) hn.1) hn.2
      obtain ⟨h, eh, k1, k2, k3⟩ := heavy_c (S := S) v1 ok (by omega)
      have eC : f_X6_drums (nI S) (nI most) im = if nI h ≤ nI most then (f_X0_fewestDrums 1 (nI S) (nI most) im).bind fun r3 => some (r3.1, r3.2) else (f_X6_refuse (-1000004) im).bind fun r4 => some (r4.1, r4.2) := by
        unfold f_X6_drums
        rw [set_1 v1 h10 h1 h2, if_neg i10, within_1 hn, if_neg i10, eh, Option.bind_some]
      have eR : ∀ m : IM, m 83 = im 83 → f_X7_drums (nI S) (nI most) m = f_X7_drums_l2 (nI S) (nI most) xF 1 0 m := by
        intro m hm
        unfold f_X7_drums
        rw [set7_1 (v2.cg hm) h10 h1 h2, if_neg i10, in_1_999, within_1 hn, if_neg i10]
      by_cases c : h ≤ most
      · have hw : ∀ t, t < vN V → S.testBit t = true → wN V t ≤ most := fun t ht hb => Nat.le_trans (k2 t ht hb) c
        obtain ⟨⟨D, m⟩, e, o, hD⟩ := drums_c v1 ok h1 h2 hm hw
        have e : f_X0_fewestDrums 1 (nI S) (nI most) im = some (nI (D S) / 1000, m) := e
        have o : ∀ a, a ≠ 64 → m a = im a := o
        have hD : isD V S most D (S + 1) := hD
        have v2m : RR m 83 V := v2.cg (o 83 (by decide))
        obtain ⟨x, ex, hx⟩ := light_r (S := S) v2m ok (by omega) hm
        obtain ⟨⟨D', m2⟩, e2, o2, hD'⟩ := drums_r v2m ok h1 h2 hm hw
        have e2 : f_X7_drums_l3 (nI S) (nI most) xF 1 (up m 87 0 0) = some (nI (D' S) / 1000, m2) := e2
        have o2 : ∀ a, a ≠ 87 → m2 a = m a := o2
        have hD' : isD V S most D' (S + 1) := hD'
        have sS : subS S S := by
          obtain ⟨b, -, -, -, -, z⟩ := low_S S (by omega) h1
          exact z
        have eD : D S = D' S := D_u hD hD' (by omega) h10 S (by omega) (Nat.le_refl _) sS
        have x1 : x = 1 := by
          rcases hx with z | ⟨-, u, u1, u2, u3⟩
          · exact z.1
          · have := hw u u1 u2
            omega
        refine ⟨nI (D S) / 1000, m, m2, ?_, ?_, hI.agr ((o64_agr o).trans ⟨fun a g1 g2 g3 g4 => o2 a (fun z => g1 (by unfold scr; omega)), by rw [o2 0 (by decide)], by rw [o2 66 (by decide)], by rw [o2 82 (by decide)], by rw [o2 82 (by decide)]⟩)⟩
        · rw [eC, if_pos (nI_le c (by omega)), e, Option.bind_some]
        · rw [eR m (o 83 (by decide)), ex, x1, if_neg i10, bnd_eq, e2, eD]
      · have ex2 : ∃ u, u < vN V ∧ S.testBit u = true ∧ most < wN V u := by
          rcases k3 with z | ⟨u, u1, u2, u3⟩
          · omega
          · exact ⟨u, u1, u2, by omega⟩
        refine bref4 hI ?_ (fun m hmm => ?_)
        · rw [eC, if_neg (nI_ge (by omega) (by omega)), refuse_4, Option.bind_some]
        · have h83 : m 83 = im 83 := by rw [hmm, up_row (by decide)]
          obtain ⟨x, ex, hx⟩ := light_r (S := S) (v2.cg h83) ok (by omega) hm
          have x0 : x = 0 := by
            rcases hx with ⟨-, z⟩ | z
            · obtain ⟨u, u1, u2, u3⟩ := ex2
              have := z u u1 u2
              omega
            · exact z.1
          rw [eR m h83, ex, x0, if_pos rfl, finds_4, Option.bind_some]
    · refine bref1 hI ?_ (fun m hm => ?_)
      · unfold f_X6_drums f_X6_drums_j1
        rw [set_1 v1 h10 h1 h2, if_neg i10, within_0 hn, if_pos rfl, refuse_1, Option.bind_some]
      · unfold f_X7_drums f_X7_drums_j1
        rw [set7_1 (v2.cg (by rw [hm, up_row (by decide)])) h10 h1 h2, if_neg i10, in_1_999, within_0 hn, if_pos rfl, finds_1, Option.bind_some]
  · refine bref1 hI ?_ (fun m hm => ?_)
    · unfold f_X6_drums f_X6_drums_j1
      rw [set_0 v1 h10 hs, if_pos rfl, refuse_1, Option.bind_some]
    · unfold f_X7_drums f_X7_drums_j1
      rw [set7_0 (v2.cg (by rw [hm, up_row (by decide)])) h10 hs, if_pos rfl, finds_1, Option.bind_some]
