/-! two things alone on the lane -/
def clrRow (V : TV) (a b : Nat) (st : Int32) (t : Nat) : Nat → Int32 := if t = a ∨ t = b then vT V t else pl (vT V t) 6 st
def cW (V : TV) (a b : Nat) (st : Int32) (i : Nat) : RW := fun s => if s < i then clrRow V a b st s else vT V s
def clrV (V : TV) (a b : Nat) (st : Int32) : TV := setW V (cW V a b st (vN V))
theorem cW_0 {V : TV} {a b : Nat} {st : Int32} : setW V (cW V a b st 0) = V := by
  have : cW V a b st 0 = vT V := by
    funext s
    unfold cW
    rw [if_neg (Nat.not_lt_zero _)]
  rw [this]
  rfl
theorem cW_s {V : TV} {a b : Nat} {st : Int32} {i : Nat} : setR (setW V (cW V a b st i)) i (clrRow V a b st i) = setW V (cW V a b st (i + 1)) := by
  have : (fun s => if s = i then clrRow V a b st i else cW V a b st i s) = cW V a b st (i + 1) := by
    funext s
    unfold cW
    by_cases e : s = i
    · subst e
      rw [if_pos rfl, if_pos (by omega)]
    · rw [if_neg e]
      by_cases c : s < i
      · rw [if_pos c, if_pos (by omega)]
      · rw [if_neg c, if_neg (by omega)]
  rw [← this]
  rfl
theorem cW_i {V : TV} {a b : Nat} {st : Int32} {i : Nat} : vT (setW V (cW V a b st i)) i = vT V i := by
  show cW V a b st i i = _
  unfold cW
  rw [if_neg (Nat.lt_irrefl _)]
theorem cW_k {V : TV} {a b : Nat} {st : Int32} {i : Nat} (h : i = a ∨ i = b) : setW V (cW V a b st (i + 1)) = setW V (cW V a b st i) := by
  have : cW V a b st (i + 1) = cW V a b st i := by
    funext s
    unfold cW
    by_cases e : s = i
    · subst e
      rw [if_pos (by omega), if_neg (Nat.lt_irrefl _)]
      unfold clrRow
      rw [if_pos h]
    · by_cases c : s < i
      · rw [if_pos c, if_pos (by omega)]
      · rw [if_neg c, if_neg (by omega)]
  rw [this]
theorem clear_c {im : IM} {V : TV} {a b : Nat} (v : RC im 31 V) (h10 : vN V ≤ 10) (ha : a < vN V) (hb : b < vN V) : ∃ m, f_X5_clearAllBut 31 ((jshl 1 (nI a)) ||| (jshl 1 (nI b))) im = some m ∧ (RC m 31 (clrV V a b 2) ∧ ∀ x, ¬ (31 ≤ x ∧ x < 31 + 15) → m x = im x) := by
  unfold f_X5_clearAllBut
  refine loopG (fun f m i => f_X5_clearAllBut_l1 31 ((jshl 1 (nI a)) ||| (jshl 1 (nI b))) f i m) some 0 0 rfl (vN V) (by omega) (by omega) (fun i m => RC m 31 (setW V (cW V a b 2 i)) ∧ ∀ x, ¬ (31 ≤ x ∧ x < 31 + 15) → m x = im x) _ (fun f m hP => ⟨m, ?_, hP⟩) (fun f m i hi0 hi hP => Or.inr ?_) im ⟨by rw [cW_0]; exact v, fun _ _ => rfl⟩
  · show f_X5_clearAllBut_l1b 31 _ _ (nI (vN V)) m = _
    unfold f_X5_clearAllBut_l1b
    rw [show m 31 4 = nI (vN V) from hP.1.2.2.2.2.1, if_pos (Int32.le_refl _)]
  · have hb' : bt ((jshl 1 (nI a)) ||| (jshl 1 (nI b))) i = (decide (i = a) || decide (i = b)) := by
      rw [b_or, b_bit (by omega) (by omega), b_bit (by omega) (by omega)]
    by_cases c : i = a ∨ i = b
    · refine ⟨m, ?_, by rw [cW_k c]; exact hP.1, hP.2⟩
      show f_X5_clearAllBut_l1b 31 _ _ (nI i) m = _
      unfold f_X5_clearAllBut_l1b f_X5_clearAllBut_j2
      rw [show m 31 4 = nI (vN V) from hP.1.2.2.2.2.1, if_neg (nI_ge hi (by omega)), has_c (by omega), hb', if_pos (show (decide (i = a) || decide (i = b)) = true by rw [Bool.or_eq_true, decide_eq_true_iff, decide_eq_true_iff]; exact c), if_neg i10, bnd_eq, nI_1]
    · refine ⟨up m (36 + i) 6 2, ?_, ?_, fun x hx => by rw [up_row (by omega)]; exact hP.2 x hx⟩
      · show f_X5_clearAllBut_l1b 31 _ _ (nI i) m = _
        unfold f_X5_clearAllBut_l1b f_X5_clearAllBut_j2
        rw [show m 31 4 = nI (vN V) from hP.1.2.2.2.2.1, if_neg (nI_ge hi (by omega)), has_c (by omega), hb', if_neg (show ¬ (decide (i = a) || decide (i = b)) = true by rw [Bool.or_eq_true, decide_eq_true_iff, decide_eq_true_iff]; exact c), if_pos rfl, if_pos (inb_nI (show i < 10 by omega) (by decide)), ix_nI (by omega), bnd_eq, bnd_eq, nI_1]
      · rw [← cW_s]
        refine RC_row hP.1 h10 _ (fun w hw => ?_) (fun x h1 h2 h3 => up_row (by omega))
        show up m (36 + i) 6 2 (36 + i) w = clrRow V a b 2 i w
        unfold clrRow
        rw [if_neg c]
        by_cases e : w = 6
        · subst e; rw [up_same, pl_same]
        · rw [up_ne e, pl_ne e]
          have := hP.1.2.2.1 i hi w hw
          rw [cW_i] at this
          exact this
theorem clrV_ok {V : TV} {a b : Nat} {st : Int32} (ok : OkL V) (hs : wi st 0 3) (h1 : ¬ st = 1) : OkL (clrV V a b st) := by
  obtain ⟨h10, h2, h3, h4, h5⟩ := ok
  refine ⟨h10, h2, h3, fun t ht => ?_, h5⟩
  have ht : t < vN V := ht
  show OkT (cW V a b st (vN V) t)
  unfold cW clrRow
  rw [if_pos ht]
  by_cases c : t = a ∨ t = b
  · rw [if_pos c]; exact h4 t ht
  · rw [if_neg c]
    have o := h4 t ht
    exact ⟨o.1, o.2.1, o.2.2.1, o.2.2.2.1, o.2.2.2.2.1, o.2.2.2.2.2.1, hs, fun z => absurd z h1⟩
theorem clrV_T {V : TV} {a b t : Nat} {st : Int32} (ht : t < vN V) : vT (clrV V a b st) t = clrRow V a b st t := by
  show cW V a b st (vN V) t = _
  unfold cW
  rw [if_pos ht]
/-- two towns that differ only in things that aren't on the lane -/
def Sim (a b : Nat) (V W : TV) : Prop := (vF V = vF W ∧ vG V = vG W ∧ vN V = vN W ∧ vA V = vA W ∧ vB V = vB W ∧ vM V = vM W) ∧ (a < vN V ∧ b < vN V) ∧ (∀ t, (t = a ∨ t = b) → vT V t = vT W t) ∧ ∀ t, t < vN V → ¬ (t = a ∨ t = b) → ¬ pStd (vT V t 6) = true ∧ ¬ pStd (vT W t 6) = true
theorem nstd_1 {x : Int32} (h : ¬ pStd x = true) : ¬ x = 1 := fun e => h (by rw [e]; decide)
theorem Sim.roll {a b : Nat} {V W : TV} (h : Sim a b V W) : (∀ t, (t = a ∨ t = b) → rollW V t = rollW W t) ∧ ∀ t, t < vN V → ¬ (t = a ∨ t = b) → rollW V t = vT V t ∧ rollW W t = vT W t := by
  obtain ⟨⟨e1, e2, e3, e4, e5, e6⟩, -, h3, h4⟩ := h
  refine ⟨fun t ht => ?_, fun t ht hn => ?_⟩
  · unfold rollW
    rw [h3 t ht, e1, e2, e4, e5, e6]
  · obtain ⟨g1, g2⟩ := h4 t ht hn
    unfold rollW
    rw [if_neg (nstd_1 g1), if_neg (nstd_1 g2)]
    exact ⟨rfl, rfl⟩
theorem Sim.bg {a b : Nat} {V W : TV} (h : Sim a b V W) {t : Nat} (ht : t < vN V) : bgV V t = bgV W t := by
  unfold bgV
  by_cases c : t = a ∨ t = b
  · rw [h.2.2.1 t c]
  · obtain ⟨g1, g2⟩ := h.2.2.2 t ht c
    rw [decide_eq_false (nstd_1 g1), decide_eq_false (nstd_1 g2)]
theorem Sim.on {a b : Nat} {V W : TV} (h : Sim a b V W) {t : Nat} (ht : t < vN V) (c : Int32) : onW (rollW V) c t = onW (rollW W) c t := by
  unfold onW
  by_cases q : t = a ∨ t = b
  · rw [h.roll.1 t q]
  · obtain ⟨e1, e2⟩ := h.roll.2 t ht q
    obtain ⟨g1, g2⟩ := h.2.2.2 t ht q
    rw [e1, e2, Bool.not_eq_true _ |>.mp g1, Bool.not_eq_true _ |>.mp g2, Bool.and_false, Bool.and_false]
theorem Sim.mc {a b : Nat} {V W : TV} (h : Sim a b V W) {c : Int32} : mcell (rollW V) (bgV V) (vN V) (vN V) c ↔ mcell (rollW W) (bgV W) (vN W) (vN W) c := by
  unfold mcell
  rw [← h.1.2.2.1, cn_cg (fun t ht => h.on ht c)]
  constructor
  · rintro ⟨h1, h2, h3, u, h4, h5, h6⟩
    exact ⟨h1, h2, h3, u, h4, by rw [← h.on h4]; exact h5, by rw [← h.bg h4]; exact h6⟩
  · rintro ⟨h1, h2, h3, u, h4, h5, h6⟩
    exact ⟨h1, h2, h3, u, h4, by rw [h.on h4]; exact h5, by rw [h.bg h4]; exact h6⟩
theorem Sim.q {a b : Nat} {V W : TV} (h : Sim a b V W) {t : Nat} (ht : t < vN V) : qm (rollW V) (bgV V) (vN V) (vN V) t = qm (rollW W) (bgV W) (vN W) (vN W) t := by
  rw [Bool.eq_iff_iff, qm_iff, qm_iff, h.mc]
  by_cases q : t = a ∨ t = b
  · rw [h.roll.1 t q]
  · obtain ⟨e1, e2⟩ := h.roll.2 t ht q
    obtain ⟨g1, g2⟩ := h.2.2.2 t ht q
    rw [e1, e2]
    exact ⟨fun z => absurd z.1 g1, fun z => absurd z.1 g2⟩
theorem Sim.met {a b : Nat} {V W : TV} (h : Sim a b V W) : minMet V = minMet W := by
  show cn (qm (rollW V) (bgV V) (vN V) (vN V)) (vN V) = cn (qm (rollW W) (bgV W) (vN W) (vN W)) (vN W)
  rw [cn_cg (fun t ht => h.q ht), h.1.2.2.1]
theorem Sim.min {a b : Nat} {V W : TV} (h : Sim a b V W) : Sim a b (minV V) (minV W) := by
  obtain ⟨⟨e1, e2, e3, e4, e5, e6⟩, ⟨ha, hb⟩, h3, h4⟩ := id h
  refine ⟨⟨e1, e2, e3, e4, e5, ?_⟩, ⟨ha, hb⟩, fun t ht => ?_, fun t ht hn => ?_⟩
  · show vM V + 1 = vM W + 1
    rw [e6]
  · show metW V t = metW W t
    have htN : t < vN V := by rcases ht with z | z <;> rw [z] <;> assumption
    unfold metW stW
    rw [h.q htN, h.roll.1 t ht]
  · have ht : t < vN V := ht
    obtain ⟨g1, g2⟩ := h4 t ht hn
    obtain ⟨r1, r2⟩ := h.roll.2 t ht hn
    show ¬ pStd (metW V t 6) = true ∧ ¬ pStd (metW W t 6) = true
    unfold metW stW
    rw [if_neg (fun z => g1 (by have := (qm_iff.mp z).1; rw [r1] at this; exact this)), if_neg (fun z => g2 (by have := (qm_iff.mp z).1; rw [r2] at this; exact this)), r1, r2]
    exact ⟨g1, g2⟩
theorem Sim.it {a b : Nat} {V W : TV} (h : Sim a b V W) : ∀ n, Sim a b (itV V n) (itV W n)
  | 0 => h
  | n + 1 => (Sim.it h n).min
theorem Sim.lt {a b t : Nat} {V W : TV} (h : Sim a b V W) (ht : t = a ∨ t = b) (sp : Int32) : Sim a b (letV V t sp) (letV W t sp) := by
  obtain ⟨h1, h2, h3, h4⟩ := h
  refine ⟨h1, h2, fun s hs => ?_, fun s hs hn => ?_⟩
  · show (if s = t then letRow (vT V t) sp else vT V s) = (if s = t then letRow (vT W t) sp else vT W s)
    rw [h3 t ht, h3 s hs]
  · show ¬ pStd ((if s = t then letRow (vT V t) sp else vT V s) 6) = true ∧ ¬ pStd ((if s = t then letRow (vT W t) sp else vT W s) 6) = true
    have hst : ¬ s = t := fun e => hn (by rw [e]; exact ht)
    rw [if_neg hst, if_neg hst]
    exact h4 s hs hn
theorem Sim.rg {a b : Nat} {V W : TV} (h : Sim a b V W) : rollg V ↔ rollg W := by
  constructor
  · rintro ⟨t, ht, e⟩
    exact ⟨t, by rw [← h.1.2.2.1]; exact ht, by rw [← h.bg ht]; exact e⟩
  · rintro ⟨t, ht, e⟩
    have ht : t < vN V := by rw [h.1.2.2.1]; exact ht
    exact ⟨t, ht, by rw [h.bg ht]; exact e⟩
theorem Sim.fm {a b k : Nat} {V W : TV} (h : Sim a b V W) : FM V 0 k ↔ FM W 0 k := by
  have e1 : ∀ i, rollg (itV V i) ↔ rollg (itV W i) := fun i => (h.it i).rg
  have e2 : ∀ i, minMet (itV V i) = minMet (itV W i) := fun i => (h.it i).met
  unfold FM
  simp only [e1, e2]
def FinB (a b : Nat) (W : TV) : Prop := ∃ k, FM W 0 k ∧ vT (itV W k) a 6 = 0 ∧ vT (itV W k) b 6 = 0 ∧ vT (itV W k) a 4 = 30 ∧ vT (itV W k) b 4 = 30
def hitB (a b : Nat) (V : TV) (n : Nat) : Prop := (∀ i, i < n → minMet (itV V i) = 0) ∧ FinB a b (letV (itV V n) b 10)
theorem Sim.fin {a b : Nat} {V W : TV} (h : Sim a b V W) : FinB a b V ↔ FinB a b W := by
  constructor
  · rintro ⟨k, h1, h2⟩
    rw [(h.it k).2.2.1 a (Or.inl rfl), (h.it k).2.2.1 b (Or.inr rfl)] at h2
    exact ⟨k, h.fm.mp h1, h2⟩
  · rintro ⟨k, h1, h2⟩
    rw [← (h.it k).2.2.1 a (Or.inl rfl), ← (h.it k).2.2.1 b (Or.inr rfl)] at h2
    exact ⟨k, h.fm.mpr h1, h2⟩
theorem Sim.hit {a b n : Nat} {V W : TV} (h : Sim a b V W) : hitB a b V n ↔ hitB a b W n := by
  unfold hitB
  rw [((h.it n).lt (Or.inr rfl) 10).fin]
  constructor
  · rintro ⟨h1, h2⟩
    exact ⟨fun i hi => by rw [← (h.it i).met]; exact h1 i hi, h2⟩
  · rintro ⟨h1, h2⟩
    exact ⟨fun i hi => by rw [(h.it i).met]; exact h1 i hi, h2⟩
theorem FM_u {V : TV} {k l : Nat} (h : FM V 0 k) (g : FM V 0 l) : k = l := by
  obtain ⟨h1, h2, h3⟩ := h
  obtain ⟨g1, g2, g3⟩ := g
  have h4 : k = 200 ∨ ¬ rollg (itV V k) := by
    rcases h3 with ⟨-, -, z⟩ | ⟨-, z, -⟩
    · exact z
    · omega
  have g4 : l = 200 ∨ ¬ rollg (itV V l) := by
    rcases g3 with ⟨-, -, z⟩ | ⟨-, z, -⟩
    · exact z
    · omega
  rcases Nat.lt_trichotomy k l with z | z | z
  · rcases h4 with y | y
    · omega
    · exact absurd (g2 k z) y
  · exact z
  · rcases g4 with y | y
    · omega
    · exact absurd (h2 l z) y
/-! both at the foot -/
theorem cn_one {a : Nat} {q : Bool} : ∀ {N : Nat}, cn (fun t => decide (t = a) && q) N = if a < N ∧ q = true then 1 else 0
  | 0 => by rw [if_neg (fun z => Nat.not_lt_zero _ z.1)]; rfl
  | N + 1 => by
    show cn (fun t => decide (t = a) && q) N + (if (decide (N = a) && q) = true then 1 else 0) = _
    rw [cn_one (N := N)]
    cases q with
    | false => simp
    | true =>
      by_cases e : N = a
      · subst e; simp
      · by_cases c : a < N
        · have c2 : a < N + 1 := by omega
          simp [e, c, c2]
        · have c2 : ¬ a < N + 1 := by omega
          simp [e, c, c2]
theorem cn_two {p : Nat → Bool} {a b N : Nat} (hab : a ≠ b) (ha : a < N) (hb : b < N) (hp : ∀ t, t < N → p t = true → t = a ∨ t = b) : cn p N = 2 ↔ p a = true ∧ p b = true := by
  have e : cn p N = cn (fun t => decide (t = a) && p a) N + cn (fun t => decide (t = b) && p b) N := by
    rw [← cn_or]
    · refine cn_cg (fun t ht => ?_)
      by_cases c1 : t = a
      · subst c1; simp [hab]
      · by_cases c2 : t = b
        · subst c2; simp [c1]
        · have : p t = false := by
            cases z : p t with
            | false => rfl
            | true => rcases hp t ht z with y | y
                      · exact absurd y c1
                      · exact absurd y c2
          simp [c1, c2, this]
    · intro t ht z
      rw [Bool.and_eq_true, decide_eq_true_iff] at z
      have : ¬ t = b := fun y => hab (z.1.symm.trans y)
      simp [this]
  rw [e, cn_one, cn_one]
  cases h1 : p a <;> cases h2 : p b <;> simp [ha, hb]
