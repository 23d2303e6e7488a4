/-! the line at the foot -/
abbrev pF (V : TV) : Nat → Bool := onW (vT V) 30
theorem pF_iff {V : TV} {t : Nat} (ok : OkT (vT V t)) : pF V t = true ↔ vT V t 6 = 0 ∧ vT V t 4 = 30 := foot_0 ok
theorem cn_mono {p : Nat → Bool} {a b : Nat} (h : a ≤ b) : cn p a ≤ cn p b := by
  induction h with
  | refl => exact Nat.le_refl _
  | step h ih => exact Nat.le_trans ih (Nat.le_add_right _ _)
theorem cn_lt {p : Nat → Bool} {a b : Nat} (h : a < b) (hp : p a = true) : cn p a < cn p b := by
  have : cn p (a + 1) ≤ cn p b := cn_mono h
  have e : cn p (a + 1) = cn p a + 1 := by show cn p a + (if p a = true then 1 else 0) = _; rw [if_pos hp]
  omega
theorem cn_sur {p : Nat → Bool} : ∀ {N k : Nat}, k < cn p N → ∃ t, t < N ∧ p t = true ∧ cn p t = k
  | 0, k, h => absurd h (Nat.not_lt_zero _)
  | N + 1, k, h => by
    have h : k < cn p N + (if p N = true then 1 else 0) := h
    by_cases c : k < cn p N
    · obtain ⟨t, h1, h2⟩ := cn_sur c
      exact ⟨t, by omega, h2⟩
    · by_cases q : p N = true
      · rw [if_pos q] at h
        exact ⟨N, by omega, q, by omega⟩
      · rw [if_neg q] at h
        omega
theorem cn_s1 {p : Nat → Bool} {i : Nat} (h : p i = true) : cn p (i + 1) = cn p i + 1 := by show cn p i + (if p i = true then 1 else 0) = _; rw [if_pos h]
theorem cn_s0 {p : Nat → Bool} {i : Nat} (h : ¬ p i = true) : cn p (i + 1) = cn p i := by show cn p i + (if p i = true then 1 else 0) = _; rw [if_neg h]; rfl
/-- by number -/
theorem byNum_c {im : IM} {V : TV} (v : RC im 1 V) (ok : OkL V) : ∃ m, f_X6_lineUpByNumber im = some (nI (cn (pF V) (vN V)), m) ∧ ((∀ a, a ≠ 65 → m a = im a) ∧ ∀ t, t < vN V → pF V t = true → m 65 (cn (pF V) t) = nI t) := by
  have h10 := ok.1
  unfold f_X6_lineUpByNumber
  rw [rest_V v ok, Option.bind_some]
  refine loopG (fun f (s : Int32 × IM) i => f_X6_lineUpByNumber_l1 f (sOf (onW (vT V) 30) (vN V)) s.1 i s.2) (fun m : IM => some (nI (cn (pF V) (vN V)), m)) 0 0 rfl (vN V) (by omega) (by omega) (fun i s => s.1 = nI (cn (pF V) i) ∧ (∀ a, a ≠ 65 → s.2 a = im a) ∧ ∀ t, t < i → pF V t = true → s.2 65 (cn (pF V) t) = nI t) _ (fun f s hP => ⟨s.2, ?_, hP.2⟩) (fun f s i hi0 hi hP => Or.inr ?_) (0, im) ⟨rfl, fun _ _ => rfl, fun t ht => absurd ht (Nat.not_lt_zero _)⟩
  · show f_X6_lineUpByNumber_l1b _ _ s.1 (nI (vN V)) s.2 = _
    unfold f_X6_lineUpByNumber_l1b
    rw [hP.2.1 1 (by decide), v.2.2.2.2.1, if_pos (Int32.le_refl _), hP.1]
  · obtain ⟨p1, p2, p3⟩ := hP
    have hci : cn (pF V) i ≤ i := cn_le
    have hbt : bt (sOf (onW (vT V) 30) (vN V)) i = pF V i := by rw [bt_sOf (by omega) (by omega), decide_eq_true hi, Bool.true_and]
    by_cases c : pF V i = true
    · refine ⟨(nI (cn (pF V) (i + 1)), up s.2 65 (cn (pF V) i) (nI i)), ?_, rfl, fun a ha => (up_row ha).trans (p2 a ha), fun t ht hp => ?_⟩
      · show f_X6_lineUpByNumber_l1b _ _ s.1 (nI i) s.2 = _
        unfold f_X6_lineUpByNumber_l1b f_X6_lineUpByNumber_j2
        rw [p2 1 (by decide), v.2.2.2.2.1, if_neg (nI_ge hi (by omega)), has_c (by omega), hbt, if_pos c, if_neg i10, p1, if_pos (inb_nI (show cn (pF V) i < 10 by omega) (by decide)), ix_nI (by omega), bnd_eq, bnd_eq, bnd_eq, nI_1, nI_1, cn_s1 c]
      · show up s.2 65 (cn (pF V) i) (nI i) 65 (cn (pF V) t) = nI t
        by_cases e : t = i
        · subst e; rw [up_same]
        · have : cn (pF V) t < cn (pF V) i := cn_lt (by omega) hp
          rw [up_ne (by omega)]
          exact p3 t (by omega) hp
    · refine ⟨(nI (cn (pF V) (i + 1)), s.2), ?_, rfl, p2, fun t ht hp => ?_⟩
      · show f_X6_lineUpByNumber_l1b _ _ s.1 (nI i) s.2 = _
        unfold f_X6_lineUpByNumber_l1b f_X6_lineUpByNumber_j2
        rw [p2 1 (by decide), v.2.2.2.2.1, if_neg (nI_ge hi (by omega)), has_c (by omega), hbt, if_neg c, if_pos rfl, p1, bnd_eq, nI_1, cn_s0 c]
      · by_cases e : t = i
        · subst e; exact absurd hp c
        · exact p3 t (by omega) hp
/-! what a line waits -/
def wt (V : TV) (t : Nat) : Int32 := vT V t 1 / 10 + 1
def wq (V : TV) (g : Nat → Nat) : Nat → Int32 × Int32
  | 0 => (0, 0)
  | k + 1 => ((wq V g k).1 + wt V (g k), (wq V g k).2 + ((wq V g k).1 + wt V (g k)))
theorem wofq_c {im m : IM} {V : TV} {g : Nat → Nat} {c : Nat} (v : RC im 1 V) (h10 : vN V ≤ 10) (o : ∀ a, a ≠ 65 → m a = im a) (hc : c ≤ 10) (hg : ∀ k, k < c → m 65 k = nI (g k) ∧ g k < vN V) : f_X6_waitsOfQueue (nI c) m = some (wq V g c).2 := by
  unfold f_X6_waitsOfQueue
  have key : ∃ u : Unit, f_X6_waitsOfQueue_l1 (nI c) m xF 0 0 0 = some (wq V g c).2 ∧ True := by
    refine loopG (fun f (s : Int32 × Int32) i => f_X6_waitsOfQueue_l1 (nI c) m f s.1 s.2 i) (fun _ : Unit => some (wq V g c).2) 0 0 rfl c (by omega) (by omega) (fun i s => s = wq V g i) _ (fun f s hP => ⟨(), ?_, trivial⟩) (fun f s i hi0 hi hP => Or.inr ?_) (0, 0) rfl
    · show f_X6_waitsOfQueue_l1b (nI c) m _ s.1 s.2 (nI c) = _
      unfold f_X6_waitsOfQueue_l1b
      rw [if_pos (Int32.le_refl _), hP]
    · obtain ⟨e1, e2⟩ := hg i hi
      refine ⟨wq V g (i + 1), ?_, rfl⟩
      show f_X6_waitsOfQueue_l1b (nI c) m _ s.1 s.2 (nI i) = _
      unfold f_X6_waitsOfQueue_l1b f_X4_wheelTime
      rw [if_neg (nI_ge hi (by omega)), if_pos (inb_nI (show i < 10 by omega) (by decide)), ix_nI (by omega), bnd_eq, e1, if_pos (inb_nI (show g i < 10 by omega) (by decide)), ix_nI (by omega), bnd_eq, bnd_eq, bnd_eq, nI_1, o (6 + g i) (by omega), show im (6 + g i) 1 = vT V (g i) 1 from v.2.2.1 (g i) e2 1 (by decide), hP]
      rfl
  obtain ⟨-, e, -⟩ := key
  exact e
theorem mup_r {im : IM} {V : TV} {t : Nat} (v : RR im 83 V) (h10 : vN V ≤ 10) (ht : t < vN V) : f_X7_minutesUp (nI t) im = some (wt V t) := by
  unfold f_X7_minutesUp
  rw [its_w (w := 1) 1 rfl (by omega) (by decide), Option.bind_some, v.2.2.1 t ht 1 (by decide)]
  rfl
theorem lp_waits : LP_waits Inv := by
  intro im hI
  obtain ⟨⟨V, v1, v2, v3⟩, -⟩ := id hI
  have h10 := v3.1
  have ok := v3.l
  obtain ⟨m, e, o, q⟩ := byNum_c v1 ok
  have hg : ∀ k, k < cn (pF V) (vN V) → m 65 k = nI (ix (m 65 k)) ∧ ix (m 65 k) < vN V := by
    intro k hk
    obtain ⟨t, h1, h2, h3⟩ := cn_sur hk
    rw [← h3, q t h1 h2, ix_nI (by omega)]
    exact ⟨rfl, h1⟩
  have hcN : cn (pF V) (vN V) ≤ vN V := cn_le
  have ew := wofq_c v1 h10 o (by omega) hg
  have v2m : RR m 83 V := v2.cg (o 83 (by decide))
  have key : ∃ u : Unit, f_X7_waits_l1 m xF 0 0 0 = some (wq V (fun k => ix (m 65 k)) (cn (pF V) (vN V))).2 ∧ True := by
    refine loopG (fun f (s : Int32 × Int32) i => f_X7_waits_l1 m f s.2 s.1 i) (fun _ : Unit => some (wq V (fun k => ix (m 65 k)) (cn (pF V) (vN V))).2) 0 0 rfl (vN V) (by omega) (by omega) (fun i s => s = wq V (fun k => ix (m 65 k)) (cn (pF V) i)) _ (fun f s hP => ⟨(), ?_, trivial⟩) (fun f s i hi0 hi hP => Or.inr ?_) (0, 0) rfl
    · show f_X7_waits_l1b m _ s.2 s.1 (nI (vN V)) = _
      unfold f_X7_waits_l1b
      rw [v2m.2.2.2.2.1, if_pos (Int32.le_refl _), hP]
    · by_cases c : pF V i = true
      · obtain ⟨c6, c4⟩ := (pF_iff (ok.2.2.2.1 i hi)).mp c
        refine ⟨wq V (fun k => ix (m 65 k)) (cn (pF V) (i + 1)), ?_, rfl⟩
        show f_X7_waits_l1b m _ s.2 s.1 (nI i) = _
        unfold f_X7_waits_l1b f_X7_waits_j2
        rw [v2m.2.2.2.2.1, if_neg (nI_ge hi (by omega)), its_w (w := 6) 6 rfl (by omega) (by decide), Option.bind_some, v2m.2.2.1 i hi 6 (by decide), if_pos c6, its_w (w := 4) 4 rfl (by omega) (by decide), Option.bind_some, v2m.2.2.1 i hi 4 (by decide), if_pos c4, mup_r v2m h10 hi, Option.bind_some, bnd_eq, bnd_eq, bnd_eq, nI_1, hP, cn_s1 c]
        show _ = f_X7_waits_l1 m f ((wq V (fun k => ix (m 65 k)) (cn (pF V) i)).2 + ((wq V (fun k => ix (m 65 k)) (cn (pF V) i)).1 + wt V (ix (m 65 (cn (pF V) i))))) ((wq V (fun k => ix (m 65 k)) (cn (pF V) i)).1 + wt V (ix (m 65 (cn (pF V) i)))) (nI (i + 1))
        rw [q i hi c, ix_nI (by omega)]
      · refine ⟨s, ?_, by rw [cn_s0 c]; exact hP⟩
        show f_X7_waits_l1b m _ s.2 s.1 (nI i) = _
        unfold f_X7_waits_l1b f_X7_waits_j2
        rw [v2m.2.2.2.2.1, if_neg (nI_ge hi (by omega)), its_w (w := 6) 6 rfl (by omega) (by decide), Option.bind_some, v2m.2.2.1 i hi 6 (by decide), its_w (w := 4) 4 rfl (by omega) (by decide), Option.bind_some, v2m.2.2.1 i hi 4 (by decide), bnd_eq, nI_1]
        by_cases c6 : vT V i 6 = 0
        · rw [if_pos c6, if_neg (fun z => c ((pF_iff (ok.2.2.2.1 i hi)).mpr ⟨c6, z⟩))]
        · rw [if_neg c6]
  obtain ⟨-, e2, -⟩ := key
  refine ⟨(wq V (fun k => ix (m 65 k)) (cn (pF V) (vN V))).2, m, ?_, ?_, hI.agr ⟨fun a g1 g2 g3 g4 => o a (fun z => g1 (by unfold scr; omega)), by rw [o 0 (by decide)], by rw [o 66 (by decide)], by rw [o 82 (by decide)], by rw [o 82 (by decide)]⟩⟩
  · unfold f_X6_waits
    rw [e, Option.bind_some]
    show ((f_X6_waitsOfQueue (nI (cn (pF V) (vN V))) m).bind fun r2 => some (r2, m)) = _
    rw [ew, Option.bind_some]
  · unfold f_X7_waits
    exact e2
