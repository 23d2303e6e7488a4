abbrev md_X7_in : xM := (0, 6, RX7, cX7_in, (some .boolean))
def f_X7_in_j1 (a0 : Int64) (a1 : Int64) (a2 : Int64)    : Int32 :=
  0
set_option maxRecDepth 20000 in
set_option maxHeartbeats 4000000 in
theorem s_X7_in_j1 {g : GX} (a0 : Int64) (a1 : Int64) (a2 : Int64)   (im : IM)    : X g md_X7_in (eR im) 17 [] [] im (some (f_X7_in_j1 a0 a1 a2)) := by
  refine x_iconst (v := (0)) (by decide) dX7_in_17 ?_
  exact x_nret (y := 0) rfl rfl (by decide) dX7_in_18
def f_X7_in (a0 : Int64) (a1 : Int64) (a2 : Int64)  : Int32 :=
  if (lg_cmp a0 a1) < 0 then
    f_X7_in_j1 a0 a1 a2
  else
    if 0 < (lg_cmp a0 a2) then
      f_X7_in_j1 a0 a1 a2
    else
      1
set_option maxRecDepth 20000 in
set_option maxHeartbeats 4000000 in
theorem s_X7_in {g : GX}    (a0 : Int64) (a1 : Int64) (a2 : Int64) (im : IM) : X g md_X7_in (eR im) 0 [(0, .long a0), (2, .long a1), (4, .long a2)] [] im (some (f_X7_in a0 a1 a2)) := by
  refine x_lload_n (q := 0) rfl rfl dX7_in_0 ?_
  refine x_lload_n (q := 1) rfl rfl dX7_in_1 ?_
  refine x_lcmp dX7_in_2 ?_
  refine x_cs ?_
  refine x_if_lt (tgt := 17) dX7_in_3 (by decide) ?_ ?_
  · refine x_sub [] rfl ?_
    exact s_X7_in_j1 a0 a1 a2 im
  · refine x_lload_n (q := 0) rfl rfl dX7_in_6 ?_
    refine x_lload (q := 2) rfl dX7_in_7 ?_
    refine x_lcmp dX7_in_9 ?_
    refine x_cs ?_
    refine x_if_gt (tgt := 17) dX7_in_10 (by decide) ?_ ?_
    · refine x_sub [] rfl ?_
      exact s_X7_in_j1 a0 a1 a2 im
    · refine x_iconst (v := (1)) (by decide) dX7_in_13 ?_
      refine x_goto (tgt := 18) dX7_in_14 (by decide) ?_
      exact x_nret (y := 1) rfl rfl (by decide) dX7_in_18
theorem m_X7_in {g : GX}    (a0 : Int64) (a1 : Int64) (a2 : Int64) (im : IM) : xMet g 0 yX7_in cX7_in 6 (some .boolean) [.long a0, .long a1, .long a2] im ((eR im) (f_X7_in a0 a1 a2)) := x_met (by decide) (Nat.le_of_ble_eq_true rfl) rfl (s_X7_in a0 a1 a2 im) _ rfl
abbrev md_X7_finds : xM := (0, 2, RX7, cX7_finds, (some .int))
def f_X7_finds (a1 : Int32) (im : IM) : Option (Int32 × IM) :=
  bnd (((-1000001)) - a1) fun v1 =>
  if inb v1 7 = true then
    if inb v1 7 = true then
      bnd (up im 86 (ix v1) ((im 86 (ix v1)) + 1)) fun m2 =>
      some ((a1, m2))
    else none
  else none
set_option maxRecDepth 20000 in
set_option maxHeartbeats 4000000 in
theorem s_X7_finds {g : GX}  (a1 : Int32) (im : IM) : X g md_X7_finds eI 0 [(0, .ref (g.1 82)), (1, .int a1)] [] im (f_X7_finds a1 im) := by
  refine x_aload_n (q := 0) rfl rfl dX7_finds_0 ?_
  refine x_get (C := RX7) (T := TX7) sh_82 (by decide) rfl in_X7 3 (by decide) fl_X7_19 xf_7_3 dX7_finds_1 ?_
  refine x_ldc co_X7_43 dX7_finds_4 ?_
  refine x_iload_n (q := 1) rfl rfl dX7_finds_6 ?_
  refine x_isub dX7_finds_7 ?_
  refine x_bi (fun v1 => ?_)
  refine x_dup2 rfl rfl dX7_finds_8 ?_
  refine x_iald sh_86 dX7_finds_9 ?_
  refine x_iconst (v := (1)) (by decide) dX7_finds_10 ?_
  refine x_iadd dX7_finds_11 ?_
  refine x_iast sh_86 dX7_finds_12 ?_
  refine x_bm (fun m2 => ?_)
  refine x_iload_n (q := 1) rfl rfl dX7_finds_13 ?_
  exact x_iret rfl rfl dX7_finds_14
theorem m_X7_finds {g : GX}  (a1 : Int32) (im : IM) (r : Int32 × IM) (hr : f_X7_finds a1 im = some r) : xMet g 0 yX7_finds cX7_finds 2 (some .int) [.ref (g.1 82), .int a1] im (eI r) := x_met (by decide) (Nat.le_of_ble_eq_true rfl) rfl (s_X7_finds a1 im) r hr
abbrev md_X7_isCell : xM := (1, 1, RX7, cX7_isCell, (some .boolean))
def f_X7_isCell (a0 : Int32)  : Int32 :=
  (zb (f_X7_in a0.toInt64 0 30))
set_option maxRecDepth 20000 in
set_option maxHeartbeats 4000000 in
theorem s_X7_isCell {g : GX}  (a0 : Int32) (im : IM) : X g md_X7_isCell (eR im) 0 [(0, .int a0)] [] im (some (f_X7_isCell a0)) := by
  refine x_iload_n (q := 0) rfl rfl dX7_isCell_0 ?_
  refine x_i2l dX7_isCell_1 ?_
  refine x_lconst (v := (0)) (by decide) dX7_isCell_2 ?_
  refine x_ldc2 cl_X7_44 dX7_isCell_3 ?_
  refine x_callSR (av := [.long a0.toInt64, .long 0, .long 30]) (st := []) (m_X7_in  a0.toInt64 0 30 im) rfl (by decide) (by decide) lk_X7_46 cd_X7_in xd_X7_in rfl (Nat.le_of_ble_eq_true rfl) dX7_isCell_6 ?_
  exact x_nret (y := zb (f_X7_in a0.toInt64 0 30)) rfl rfl rfl dX7_isCell_9
theorem m_X7_isCell {g : GX}  (a0 : Int32) (im : IM) : xMet g 1 yX7_isCell cX7_isCell 1 (some .boolean) [.int a0] im ((eR im) (f_X7_isCell a0)) := x_met (by decide) (Nat.le_of_ble_eq_true rfl) rfl (s_X7_isCell a0 im) _ rfl
abbrev md_X7_isThing : xM := (1, 2, RX7, cX7_isThing, (some .boolean))
def f_X7_isThing (a1 : Int32) (im : IM) : Int32 :=
  (zb (f_X7_in a1.toInt64 0 (((im 83 1) - 1).toInt64)))
set_option maxRecDepth 20000 in
set_option maxHeartbeats 4000000 in
theorem s_X7_isThing {g : GX}  (a1 : Int32) (im : IM) : X g md_X7_isThing (eR im) 0 [(0, .ref (g.1 82)), (1, .int a1)] [] im (some (f_X7_isThing a1 im)) := by
  refine x_iload_n (q := 1) rfl rfl dX7_isThing_0 ?_
  refine x_i2l dX7_isThing_1 ?_
  refine x_lconst (v := (0)) (by decide) dX7_isThing_2 ?_
  refine x_aload_n (q := 0) rfl rfl dX7_isThing_3 ?_
  refine x_get (C := RX7) (T := TX7) sh_82 (by decide) rfl in_X7 0 (by decide) fl_X7_7 xf_7_0 dX7_isThing_4 ?_
  refine x_iconst (v := (1)) (by decide) dX7_isThing_7 ?_
  refine x_ialdc sh_83 (by decide) ix_1 dX7_isThing_8 ?_
  refine x_iconst (v := (1)) (by decide) dX7_isThing_9 ?_
  refine x_isub dX7_isThing_10 ?_
  refine x_i2l dX7_isThing_11 ?_
  refine x_callSR (av := [.long a1.toInt64, .long 0, .long (((im 83 1) - 1).toInt64)]) (st := []) (m_X7_in  a1.toInt64 0 ((((im 83 1) - 1).toInt64)) im) rfl (by decide) (by decide) lk_X7_46 cd_X7_in xd_X7_in rfl (Nat.le_of_ble_eq_true rfl) dX7_isThing_12 ?_
  exact x_nret (y := zb (f_X7_in a1.toInt64 0 (((im 83 1) - 1).toInt64))) rfl rfl rfl dX7_isThing_15
theorem m_X7_isThing {g : GX}  (a1 : Int32) (im : IM) : xMet g 1 yX7_isThing cX7_isThing 2 (some .boolean) [.ref (g.1 82), .int a1] im ((eR im) (f_X7_isThing a1 im)) := x_met (by decide) (Nat.le_of_ble_eq_true rfl) rfl (s_X7_isThing a1 im) _ rfl
abbrev md_X7_has : xM := (0, 2, RX7, cX7_has, (some .boolean))
def f_X7_has (a0 : Int32) (a1 : Int32)  : Int32 :=
  if ((jshr a0 a1) &&& 1) = 1 then
    1
  else
    0
set_option maxRecDepth 20000 in
set_option maxHeartbeats 4000000 in
theorem s_X7_has {g : GX}   (a0 : Int32) (a1 : Int32) (im : IM) : X g md_X7_has (eR im) 0 [(0, .int a0), (1, .int a1)] [] im (some (f_X7_has a0 a1)) := by
  refine x_iload_n (q := 0) rfl rfl dX7_has_0 ?_
  refine x_iload_n (q := 1) rfl rfl dX7_has_1 ?_
  refine x_ishr dX7_has_2 ?_
  refine x_iconst (v := (1)) (by decide) dX7_has_3 ?_
  refine x_iand dX7_has_4 ?_
  refine x_iconst (v := (1)) (by decide) dX7_has_5 ?_
  refine x_cs ?_
  refine x_icmp_ne (tgt := 13) dX7_has_6 (by decide) ?_ ?_
  · refine x_iconst (v := (0)) (by decide) dX7_has_13 ?_
    exact x_nret (y := 0) rfl rfl (by decide) dX7_has_14
  · refine x_iconst (v := (1)) (by decide) dX7_has_9 ?_
    refine x_goto (tgt := 14) dX7_has_10 (by decide) ?_
    exact x_nret (y := 1) rfl rfl (by decide) dX7_has_14
theorem m_X7_has {g : GX}   (a0 : Int32) (a1 : Int32) (im : IM) : xMet g 0 yX7_has cX7_has 2 (some .boolean) [.int a0, .int a1] im ((eR im) (f_X7_has a0 a1)) := x_met (by decide) (Nat.le_of_ble_eq_true rfl) rfl (s_X7_has a0 a1 im) _ rfl
abbrev md_X7_draw : xM := (0, 1, RX7, cX7_draw, (some .int))
def f_X7_draw  (im : IM) : Int32 × IM :=
  bnd (up im 83 4 (((im 83 4) * 1103515245) + 12345)) fun m1 =>
  ((jush (m1 83 4) 8, m1))
set_option maxRecDepth 20000 in
set_option maxHeartbeats 4000000 in
theorem s_X7_draw {g : GX}   (im : IM) : X g md_X7_draw eI 0 [(0, .ref (g.1 82))] [] im (some (f_X7_draw im)) := by
  refine x_aload_n (q := 0) rfl rfl dX7_draw_0 ?_
  refine x_get (C := RX7) (T := TX7) sh_82 (by decide) rfl in_X7 0 (by decide) fl_X7_7 xf_7_0 dX7_draw_1 ?_
  refine x_iconst (v := (4)) (by decide) dX7_draw_4 ?_
  refine x_aload_n (q := 0) rfl rfl dX7_draw_5 ?_
  refine x_get (C := RX7) (T := TX7) sh_82 (by decide) rfl in_X7 0 (by decide) fl_X7_7 xf_7_0 dX7_draw_6 ?_
  refine x_iconst (v := (4)) (by decide) dX7_draw_9 ?_
  refine x_ialdc sh_83 (by decide) ix_4 dX7_draw_10 ?_
  refine x_ldc co_X7_50 dX7_draw_11 ?_
  refine x_imul dX7_draw_13 ?_
  refine x_sipush (v := (12345)) (by decide) dX7_draw_14 ?_
  refine x_iadd dX7_draw_17 ?_
  refine x_iastc sh_83 (by decide) ix_4 dX7_draw_18 ?_
  refine x_bs (x_bm (fun m1 => ?_))
  refine x_aload_n (q := 0) rfl rfl dX7_draw_19 ?_
  refine x_get (C := RX7) (T := TX7) sh_82 (by decide) rfl in_X7 0 (by decide) fl_X7_7 xf_7_0 dX7_draw_20 ?_
  refine x_iconst (v := (4)) (by decide) dX7_draw_23 ?_
  refine x_ialdc sh_83 (by decide) ix_4 dX7_draw_24 ?_
  refine x_bipush (v := (8)) (by decide) dX7_draw_25 ?_
  refine x_iushr dX7_draw_27 ?_
  exact x_iret rfl rfl dX7_draw_28
theorem m_X7_draw {g : GX}   (im : IM) : xMet g 0 yX7_draw cX7_draw 1 (some .int) [.ref (g.1 82)] im (eI (f_X7_draw im)) := x_met (by decide) (Nat.le_of_ble_eq_true rfl) rfl (s_X7_draw im) _ rfl
abbrev md_X7_puts : xM := (0, 2, RX7, cX7_puts, none)
def f_X7_puts_l1b    (k2 : Int32 → IM → Option (IM)) (x1 : Int32) (im : IM) : Option (IM) :=
  if 167 ≤ x1 then
    some im
  else
    if inb x1 167 = true then
      if inb x1 167 = true then
        bnd (up im 85 (ix x1) (im 83 (ix x1))) fun m1 =>
        bnd (x1 + 1) fun v2 =>
        k2 v2 m1
      else none
    else none
def f_X7_puts_l1    : Nat → Int32 → IM → Option (IM)
  | 0, _, _ => none
  | n + 1, x1, im => f_X7_puts_l1b (f_X7_puts_l1 n) x1 im
set_option maxRecDepth 20000 in
set_option maxHeartbeats 4000000 in
theorem s_X7_puts_l1b {g : GX}    (k2 : Int32 → IM → Option (IM)) (hk2 : ∀ (x1 : Int32) (im : IM), X g md_X7_puts eV 2 [(0, .ref (g.1 82)), (1, .int x1)] [] im (k2 x1 im)) (x1 : Int32)  (im : IM) : X g md_X7_puts eV 2 [(0, .ref (g.1 82)), (1, .int x1)] [] im (f_X7_puts_l1b k2 x1 im) := by
  refine x_iload_n (q := 1) rfl rfl dX7_puts_2 ?_
  refine x_sipush (v := (167)) (by decide) dX7_puts_3 ?_
  refine x_icmp_ge (tgt := 27) dX7_puts_6 (by decide) ?_ ?_
  · exact x_vret rfl rfl dX7_puts_27
  · refine x_aload_n (q := 0) rfl rfl dX7_puts_9 ?_
    refine x_get (C := RX7) (T := TX7) sh_82 (by decide) rfl in_X7 2 (by decide) fl_X7_16 xf_7_2 dX7_puts_10 ?_
    refine x_iload_n (q := 1) rfl rfl dX7_puts_13 ?_
    refine x_aload_n (q := 0) rfl rfl dX7_puts_14 ?_
    refine x_get (C := RX7) (T := TX7) sh_82 (by decide) rfl in_X7 0 (by decide) fl_X7_7 xf_7_0 dX7_puts_15 ?_
    refine x_iload_n (q := 1) rfl rfl dX7_puts_18 ?_
    refine x_iald sh_83 dX7_puts_19 ?_
    refine x_iast sh_85 dX7_puts_20 ?_
    refine x_bm (fun m1 => ?_)
    refine x_iinc (q := 1) (a := 1) (lv' := fun v2 => [(1, .int v2), (0, .ref (g.1 82))]) dX7_puts_21 rfl (by decide) (by decide) (fun _ => rfl) (fun v2 => ?_)
    refine x_goto (tgt := 2) dX7_puts_24 (by decide) ?_
    refine x_sub [1, 0] rfl ?_
    exact hk2 v2 m1
set_option maxRecDepth 20000 in
set_option maxHeartbeats 4000000 in
theorem s_X7_puts_l1 {g : GX}    (n : Nat) : ∀ (x1 : Int32) (im : IM), X g md_X7_puts eV 2 [(0, .ref (g.1 82)), (1, .int x1)] [] im (f_X7_puts_l1 n x1 im) := by
  induction n with
  | zero => intro x1 im; exact x_none
  | succ n ih => intro x1 im; exact s_X7_puts_l1b (f_X7_puts_l1 n) ih x1 im
def f_X7_puts  (im : IM) : Option (IM) :=
  f_X7_puts_l1 xF 0 im
set_option maxRecDepth 20000 in
set_option maxHeartbeats 4000000 in
theorem s_X7_puts {g : GX}   (im : IM) : X g md_X7_puts eV 0 [(0, .ref (g.1 82))] [] im (f_X7_puts im) := by
  refine x_iconst (v := (0)) (by decide) dX7_puts_0 ?_
  refine x_istore_n (lv' := [(1, .int 0), (0, .ref (g.1 82))]) rfl dX7_puts_1 (by decide) rfl ?_
  refine x_sub [1, 0] rfl ?_
  exact s_X7_puts_l1 xF 0 im
theorem m_X7_puts {g : GX}   (im : IM) (r : IM) (hr : f_X7_puts im = some r) : xMet g 0 yX7_puts cX7_puts 2 none [.ref (g.1 82)] im (eV r) := x_met (by decide) (Nat.le_of_ble_eq_true rfl) rfl (s_X7_puts im) r hr
abbrev md_X7_putsBack : xM := (0, 2, RX7, cX7_putsBack, none)
def f_X7_putsBack_l1b    (k2 : Int32 → IM → Option (IM)) (x1 : Int32) (im : IM) : Option (IM) :=
  if 167 ≤ x1 then
    some im
  else
    if inb x1 167 = true then
      if inb x1 167 = true then
        bnd (up im 83 (ix x1) (im 85 (ix x1))) fun m1 =>
        bnd (x1 + 1) fun v2 =>
        k2 v2 m1
      else none
    else none
def f_X7_putsBack_l1    : Nat → Int32 → IM → Option (IM)
  | 0, _, _ => none
  | n + 1, x1, im => f_X7_putsBack_l1b (f_X7_putsBack_l1 n) x1 im
set_option maxRecDepth 20000 in
set_option maxHeartbeats 4000000 in
theorem s_X7_putsBack_l1b {g : GX}    (k2 : Int32 → IM → Option (IM)) (hk2 : ∀ (x1 : Int32) (im : IM), X g md_X7_putsBack eV 2 [(0, .ref (g.1 82)), (1, .int x1)] [] im (k2 x1 im)) (x1 : Int32)  (im : IM) : X g md_X7_putsBack eV 2 [(0, .ref (g.1 82)), (1, .int x1)] [] im (f_X7_putsBack_l1b k2 x1 im) := by
  refine x_iload_n (q := 1) rfl rfl dX7_putsBack_2 ?_
  refine x_sipush (v := (167)) (by decide) dX7_putsBack_3 ?_
  refine x_icmp_ge (tgt := 27) dX7_putsBack_6 (by decide) ?_ ?_
  · exact x_vret rfl rfl dX7_putsBack_27
  · refine x_aload_n (q := 0) rfl rfl dX7_putsBack_9 ?_
    refine x_get (C := RX7) (T := TX7) sh_82 (by decide) rfl in_X7 0 (by decide) fl_X7_7 xf_7_0 dX7_putsBack_10 ?_
    refine x_iload_n (q := 1) rfl rfl dX7_putsBack_13 ?_
    refine x_aload_n (q := 0) rfl rfl dX7_putsBack_14 ?_
    refine x_get (C := RX7) (T := TX7) sh_82 (by decide) rfl in_X7 2 (by decide) fl_X7_16 xf_7_2 dX7_putsBack_15 ?_
    refine x_iload_n (q := 1) rfl rfl dX7_putsBack_18 ?_
    refine x_iald sh_85 dX7_putsBack_19 ?_
    refine x_iast sh_83 dX7_putsBack_20 ?_
    refine x_bm (fun m1 => ?_)
    refine x_iinc (q := 1) (a := 1) (lv' := fun v2 => [(1, .int v2), (0, .ref (g.1 82))]) dX7_putsBack_21 rfl (by decide) (by decide) (fun _ => rfl) (fun v2 => ?_)
    refine x_goto (tgt := 2) dX7_putsBack_24 (by decide) ?_
    refine x_sub [1, 0] rfl ?_
    exact hk2 v2 m1
set_option maxRecDepth 20000 in
set_option maxHeartbeats 4000000 in
theorem s_X7_putsBack_l1 {g : GX}    (n : Nat) : ∀ (x1 : Int32) (im : IM), X g md_X7_putsBack eV 2 [(0, .ref (g.1 82)), (1, .int x1)] [] im (f_X7_putsBack_l1 n x1 im) := by
  induction n with
  | zero => intro x1 im; exact x_none
  | succ n ih => intro x1 im; exact s_X7_putsBack_l1b (f_X7_putsBack_l1 n) ih x1 im
def f_X7_putsBack  (im : IM) : Option (IM) :=
  f_X7_putsBack_l1 xF 0 im
set_option maxRecDepth 20000 in
set_option maxHeartbeats 4000000 in
theorem s_X7_putsBack {g : GX}   (im : IM) : X g md_X7_putsBack eV 0 [(0, .ref (g.1 82))] [] im (f_X7_putsBack im) := by
  refine x_iconst (v := (0)) (by decide) dX7_putsBack_0 ?_
  refine x_istore_n (lv' := [(1, .int 0), (0, .ref (g.1 82))]) rfl dX7_putsBack_1 (by decide) rfl ?_
  refine x_sub [1, 0] rfl ?_
  exact s_X7_putsBack_l1 xF 0 im
theorem m_X7_putsBack {g : GX}   (im : IM) (r : IM) (hr : f_X7_putsBack im = some r) : xMet g 0 yX7_putsBack cX7_putsBack 2 none [.ref (g.1 82)] im (eV r) := x_met (by decide) (Nat.le_of_ble_eq_true rfl) rfl (s_X7_putsBack im) r hr
abbrev md_X7_fall : xM := (2, 4, RX7, cX7_fall, (some .int))
def f_X7_fall_j1 (a1 : Int32) (a2 : Int32)   (im : IM) : Option (Int32 × IM) :=
  (f_X7_finds ((-1000001)) im).bind fun r1 =>
  some ((r1.1, r1.2))
set_option maxRecDepth 20000 in
set_option maxHeartbeats 4000000 in
theorem s_X7_fall_j1 {g : GX} (a1 : Int32) (a2 : Int32)      (im : IM) : X g md_X7_fall eI 21 [(0, .ref (g.1 82))] [] im (f_X7_fall_j1 a1 a2 im) := by
  refine x_aload_n (q := 0) rfl rfl dX7_fall_21 ?_
  refine x_ldc co_X7_43 dX7_fall_22 ?_
  refine x_bind (fun r1 er1 => ?_)
  refine x_callVI (av := [.int ((-1000001))]) (st := []) (m_X7_finds  (((-1000001))) im r1 er1) sh_82 (by decide) rfl rfl (by decide) (by decide) lk_X7_59 cd_X7_finds xd_X7_finds rfl (Nat.le_of_ble_eq_true rfl) dX7_fall_24 ?_
  exact x_iret rfl rfl dX7_fall_27
def f_X7_fall (a1 : Int32) (a2 : Int32) (im : IM) : Option (Int32 × IM) :=
  if (f_X7_isCell a1) = 0 then
    f_X7_fall_j1 a1 a2 im
  else
    if (f_X7_in a2.toInt64 ((-9)) 9) = 0 then
      f_X7_fall_j1 a1 a2 im
    else
      if inb (5 + a1) 167 = true then
        bnd (im 83 (ix (5 + a1))) fun v2 =>
        if inb (5 + a1) 167 = true then
          bnd (up im 83 (ix (5 + a1)) a2) fun m3 =>
          some ((v2, m3))
        else none
      else none
set_option maxRecDepth 20000 in
set_option maxHeartbeats 4000000 in
theorem s_X7_fall {g : GX}   (a1 : Int32) (a2 : Int32) (im : IM) : X g md_X7_fall eI 0 [(0, .ref (g.1 82)), (1, .int a1), (2, .int a2)] [] im (f_X7_fall a1 a2 im) := by
  refine x_iload_n (q := 1) rfl rfl dX7_fall_0 ?_
  refine x_callSR (av := [.int a1]) (st := []) (m_X7_isCell  a1 im) rfl (by decide) (by decide) lk_X7_51 cd_X7_isCell xd_X7_isCell rfl (Nat.le_of_ble_eq_true rfl) dX7_fall_1 ?_
  refine x_if_eq (tgt := 21) dX7_fall_4 (by decide) ?_ ?_
  · refine x_sub [0] rfl ?_
    exact s_X7_fall_j1 a1 a2 im
  · refine x_iload_n (q := 2) rfl rfl dX7_fall_7 ?_
    refine x_i2l dX7_fall_8 ?_
    refine x_ldc2 cl_X7_55 dX7_fall_9 ?_
    refine x_ldc2 cl_X7_57 dX7_fall_12 ?_
    refine x_callSR (av := [.long a2.toInt64, .long ((-9)), .long 9]) (st := []) (m_X7_in  a2.toInt64 (((-9))) 9 im) rfl (by decide) (by decide) lk_X7_46 cd_X7_in xd_X7_in rfl (Nat.le_of_ble_eq_true rfl) dX7_fall_15 ?_
    refine x_if_ne (tgt := 28) dX7_fall_18 (by decide) ?_ ?_
    · refine x_aload_n (q := 0) rfl rfl dX7_fall_28 ?_
      refine x_get (C := RX7) (T := TX7) sh_82 (by decide) rfl in_X7 0 (by decide) fl_X7_7 xf_7_0 dX7_fall_29 ?_
      refine x_iconst (v := (5)) (by decide) dX7_fall_32 ?_
      refine x_iload_n (q := 1) rfl rfl dX7_fall_33 ?_
      refine x_iadd dX7_fall_34 ?_
      refine x_iald sh_83 dX7_fall_35 ?_
      refine x_bi (fun v2 => ?_)
      refine x_istore_n (lv' := [(3, .int v2), (0, .ref (g.1 82)), (1, .int a1), (2, .int a2)]) rfl dX7_fall_36 (by decide) rfl ?_
      refine x_aload_n (q := 1) rfl rfl dX7_fall_37 ?_
      refine x_get (C := RX7) (T := TX7) sh_82 (by decide) rfl in_X7 0 (by decide) fl_X7_7 xf_7_0 dX7_fall_38 ?_
      refine x_iconst (v := (5)) (by decide) dX7_fall_41 ?_
      refine x_iload_n (q := 2) rfl rfl dX7_fall_42 ?_
      refine x_iadd dX7_fall_43 ?_
      refine x_iload_n (q := 3) rfl rfl dX7_fall_44 ?_
      refine x_iast sh_83 dX7_fall_45 ?_
      refine x_bm (fun m3 => ?_)
      refine x_iload_n (q := 0) rfl rfl dX7_fall_46 ?_
      exact x_iret rfl rfl dX7_fall_47
    · refine x_sub [0] rfl ?_
      exact s_X7_fall_j1 a1 a2 im
theorem m_X7_fall {g : GX}   (a1 : Int32) (a2 : Int32) (im : IM) (r : Int32 × IM) (hr : f_X7_fall a1 a2 im = some r) : xMet g 2 yX7_fall cX7_fall 4 (some .int) [.ref (g.1 82), .int a1, .int a2] im (eI r) := x_met (by decide) (Nat.le_of_ble_eq_true rfl) rfl (s_X7_fall a1 a2 im) r hr
abbrev md_X7_ground : xM := (2, 4, RX7, cX7_ground, (some .int))
def f_X7_ground_j1 (a1 : Int32) (a2 : Int32)   (im : IM) : Option (Int32 × IM) :=
  (f_X7_finds ((-1000001)) im).bind fun r1 =>
  some ((r1.1, r1.2))
set_option maxRecDepth 20000 in
set_option maxHeartbeats 4000000 in
theorem s_X7_ground_j1 {g : GX} (a1 : Int32) (a2 : Int32)      (im : IM) : X g md_X7_ground eI 19 [(0, .ref (g.1 82))] [] im (f_X7_ground_j1 a1 a2 im) := by
  refine x_aload_n (q := 0) rfl rfl dX7_ground_19 ?_
  refine x_ldc co_X7_43 dX7_ground_20 ?_
  refine x_bind (fun r1 er1 => ?_)
  refine x_callVI (av := [.int ((-1000001))]) (st := []) (m_X7_finds  (((-1000001))) im r1 er1) sh_82 (by decide) rfl rfl (by decide) (by decide) lk_X7_59 cd_X7_finds xd_X7_finds rfl (Nat.le_of_ble_eq_true rfl) dX7_ground_22 ?_
  exact x_iret rfl rfl dX7_ground_25
def f_X7_ground (a1 : Int32) (a2 : Int32) (im : IM) : Option (Int32 × IM) :=
  if (f_X7_isCell a1) = 0 then
    f_X7_ground_j1 a1 a2 im
  else
    if (f_X7_in a2.toInt64 0 4) = 0 then
      f_X7_ground_j1 a1 a2 im
    else
      if inb (36 + a1) 167 = true then
        bnd (im 83 (ix (36 + a1))) fun v2 =>
        if inb (36 + a1) 167 = true then
          bnd (up im 83 (ix (36 + a1)) a2) fun m3 =>
          some ((v2, m3))
        else none
      else none
set_option maxRecDepth 20000 in
set_option maxHeartbeats 4000000 in
theorem s_X7_ground {g : GX}   (a1 : Int32) (a2 : Int32) (im : IM) : X g md_X7_ground eI 0 [(0, .ref (g.1 82)), (1, .int a1), (2, .int a2)] [] im (f_X7_ground a1 a2 im) := by
  refine x_iload_n (q := 1) rfl rfl dX7_ground_0 ?_
  refine x_callSR (av := [.int a1]) (st := []) (m_X7_isCell  a1 im) rfl (by decide) (by decide) lk_X7_51 cd_X7_isCell xd_X7_isCell rfl (Nat.le_of_ble_eq_true rfl) dX7_ground_1 ?_
  refine x_if_eq (tgt := 19) dX7_ground_4 (by decide) ?_ ?_
  · refine x_sub [0] rfl ?_
    exact s_X7_ground_j1 a1 a2 im
  · refine x_iload_n (q := 2) rfl rfl dX7_ground_7 ?_
    refine x_i2l dX7_ground_8 ?_
    refine x_lconst (v := (0)) (by decide) dX7_ground_9 ?_
    refine x_ldc2 cl_X7_63 dX7_ground_10 ?_
    refine x_callSR (av := [.long a2.toInt64, .long 0, .long 4]) (st := []) (m_X7_in  a2.toInt64 0 4 im) rfl (by decide) (by decide) lk_X7_46 cd_X7_in xd_X7_in rfl (Nat.le_of_ble_eq_true rfl) dX7_ground_13 ?_
    refine x_if_ne (tgt := 26) dX7_ground_16 (by decide) ?_ ?_
    · refine x_aload_n (q := 0) rfl rfl dX7_ground_26 ?_
      refine x_get (C := RX7) (T := TX7) sh_82 (by decide) rfl in_X7 0 (by decide) fl_X7_7 xf_7_0 dX7_ground_27 ?_
      refine x_bipush (v := (36)) (by decide) dX7_ground_30 ?_
      refine x_iload_n (q := 1) rfl rfl dX7_ground_32 ?_
      refine x_iadd dX7_ground_33 ?_
      refine x_iald sh_83 dX7_ground_34 ?_
      refine x_bi (fun v2 => ?_)
      refine x_istore_n (lv' := [(3, .int v2), (0, .ref (g.1 82)), (1, .int a1), (2, .int a2)]) rfl dX7_ground_35 (by decide) rfl ?_
      refine x_aload_n (q := 1) rfl rfl dX7_ground_36 ?_
      refine x_get (C := RX7) (T := TX7) sh_82 (by decide) rfl in_X7 0 (by decide) fl_X7_7 xf_7_0 dX7_ground_37 ?_
      refine x_bipush (v := (36)) (by decide) dX7_ground_40 ?_
      refine x_iload_n (q := 2) rfl rfl dX7_ground_42 ?_
      refine x_iadd dX7_ground_43 ?_
      refine x_iload_n (q := 3) rfl rfl dX7_ground_44 ?_
      refine x_iast sh_83 dX7_ground_45 ?_
      refine x_bm (fun m3 => ?_)
      refine x_iload_n (q := 0) rfl rfl dX7_ground_46 ?_
      exact x_iret rfl rfl dX7_ground_47
    · refine x_sub [0] rfl ?_
      exact s_X7_ground_j1 a1 a2 im
theorem m_X7_ground {g : GX}   (a1 : Int32) (a2 : Int32) (im : IM) (r : Int32 × IM) (hr : f_X7_ground a1 a2 im = some r) : xMet g 2 yX7_ground cX7_ground 4 (some .int) [.ref (g.1 82), .int a1, .int a2] im (eI r) := x_met (by decide) (Nat.le_of_ble_eq_true rfl) rfl (s_X7_ground a1 a2 im) r hr
abbrev md_X7_gate : xM := (1, 4, RX7, cX7_gate, (some .int))
def f_X7_gate_j1 (a1 : Int32) (a2 : Int32)   (im : IM) : Option (Int32 × IM) :=
  (f_X7_finds ((-1000001)) im).bind fun r1 =>
  some ((r1.1, r1.2))
set_option maxRecDepth 20000 in
set_option maxHeartbeats 4000000 in
theorem s_X7_gate_j1 {g : GX} (a1 : Int32) (a2 : Int32)      (im : IM) : X g md_X7_gate eI 22 [(0, .ref (g.1 82))] [] im (f_X7_gate_j1 a1 a2 im) := by
  refine x_aload_n (q := 0) rfl rfl dX7_gate_22 ?_
  refine x_ldc co_X7_43 dX7_gate_23 ?_
  refine x_bind (fun r1 er1 => ?_)
  refine x_callVI (av := [.int ((-1000001))]) (st := []) (m_X7_finds  (((-1000001))) im r1 er1) sh_82 (by decide) rfl rfl (by decide) (by decide) lk_X7_59 cd_X7_finds xd_X7_finds rfl (Nat.le_of_ble_eq_true rfl) dX7_gate_25 ?_
  exact x_iret rfl rfl dX7_gate_28
def f_X7_gate (a1 : Int32) (a2 : Int32) (im : IM) : Option (Int32 × IM) :=
  if (f_X7_in a1.toInt64 0 1) = 0 then
    f_X7_gate_j1 a1 a2 im
  else
    if (f_X7_in a2.toInt64 0 59) = 0 then
      f_X7_gate_j1 a1 a2 im
    else
      if inb (2 + a1) 167 = true then
        bnd (im 83 (ix (2 + a1))) fun v2 =>
        if inb (2 + a1) 167 = true then
          bnd (up im 83 (ix (2 + a1)) a2) fun m3 =>
          some ((v2, m3))
        else none
      else none
set_option maxRecDepth 20000 in
set_option maxHeartbeats 4000000 in
theorem s_X7_gate {g : GX}   (a1 : Int32) (a2 : Int32) (im : IM) : X g md_X7_gate eI 0 [(0, .ref (g.1 82)), (1, .int a1), (2, .int a2)] [] im (f_X7_gate a1 a2 im) := by
  refine x_iload_n (q := 1) rfl rfl dX7_gate_0 ?_
  refine x_i2l dX7_gate_1 ?_
  refine x_lconst (v := (0)) (by decide) dX7_gate_2 ?_
  refine x_lconst (v := (1)) (by decide) dX7_gate_3 ?_
  refine x_callSR (av := [.long a1.toInt64, .long 0, .long 1]) (st := []) (m_X7_in  a1.toInt64 0 1 im) rfl (by decide) (by decide) lk_X7_46 cd_X7_in xd_X7_in rfl (Nat.le_of_ble_eq_true rfl) dX7_gate_4 ?_
  refine x_if_eq (tgt := 22) dX7_gate_7 (by decide) ?_ ?_
  · refine x_sub [0] rfl ?_
    exact s_X7_gate_j1 a1 a2 im
  · refine x_iload_n (q := 2) rfl rfl dX7_gate_10 ?_
    refine x_i2l dX7_gate_11 ?_
    refine x_lconst (v := (0)) (by decide) dX7_gate_12 ?_
    refine x_ldc2 cl_X7_65 dX7_gate_13 ?_
    refine x_callSR (av := [.long a2.toInt64, .long 0, .long 59]) (st := []) (m_X7_in  a2.toInt64 0 59 im) rfl (by decide) (by decide) lk_X7_46 cd_X7_in xd_X7_in rfl (Nat.le_of_ble_eq_true rfl) dX7_gate_16 ?_
    refine x_if_ne (tgt := 29) dX7_gate_19 (by decide) ?_ ?_
    · refine x_aload_n (q := 0) rfl rfl dX7_gate_29 ?_
      refine x_get (C := RX7) (T := TX7) sh_82 (by decide) rfl in_X7 0 (by decide) fl_X7_7 xf_7_0 dX7_gate_30 ?_
      refine x_iconst (v := (2)) (by decide) dX7_gate_33 ?_
      refine x_iload_n (q := 1) rfl rfl dX7_gate_34 ?_
      refine x_iadd dX7_gate_35 ?_
      refine x_iald sh_83 dX7_gate_36 ?_
      refine x_bi (fun v2 => ?_)
      refine x_istore_n (lv' := [(3, .int v2), (0, .ref (g.1 82)), (1, .int a1), (2, .int a2)]) rfl dX7_gate_37 (by decide) rfl ?_
      refine x_aload_n (q := 1) rfl rfl dX7_gate_38 ?_
      refine x_get (C := RX7) (T := TX7) sh_82 (by decide) rfl in_X7 0 (by decide) fl_X7_7 xf_7_0 dX7_gate_39 ?_
      refine x_iconst (v := (2)) (by decide) dX7_gate_42 ?_
      refine x_iload_n (q := 2) rfl rfl dX7_gate_43 ?_
      refine x_iadd dX7_gate_44 ?_
      refine x_iload_n (q := 3) rfl rfl dX7_gate_45 ?_
      refine x_iast sh_83 dX7_gate_46 ?_
      refine x_bm (fun m3 => ?_)
      refine x_iload_n (q := 0) rfl rfl dX7_gate_47 ?_
      exact x_iret rfl rfl dX7_gate_48
    · refine x_sub [0] rfl ?_
      exact s_X7_gate_j1 a1 a2 im
theorem m_X7_gate {g : GX}   (a1 : Int32) (a2 : Int32) (im : IM) (r : Int32 × IM) (hr : f_X7_gate a1 a2 im = some r) : xMet g 1 yX7_gate cX7_gate 4 (some .int) [.ref (g.1 82), .int a1, .int a2] im (eI r) := x_met (by decide) (Nat.le_of_ble_eq_true rfl) rfl (s_X7_gate a1 a2 im) r hr
abbrev md_X7_isShut : xM := (1, 3, RX7, cX7_isShut, (some .boolean))
def f_X7_isShut_j1 (a1 : Int32)   (im : IM) : Int32 :=
  1
set_option maxRecDepth 20000 in
set_option maxHeartbeats 4000000 in
theorem s_X7_isShut_j1 {g : GX} (a1 : Int32)   (im : IM)    : X g md_X7_isShut (eR im) 40 [] [] im (some (f_X7_isShut_j1 a1 im)) := by
  refine x_iconst (v := (1)) (by decide) dX7_isShut_40 ?_
  refine x_goto (tgt := 67) dX7_isShut_41 (by decide) ?_
  exact x_nret (y := 1) rfl rfl (by decide) dX7_isShut_67
def f_X7_isShut (a1 : Int32) (im : IM) : Int32 :=
  bnd (jrem a1 60) fun v1 =>
  if (im 83 2) ≤ (im 83 3) then
    (zb (f_X7_in v1.toInt64 ((im 83 2).toInt64) ((im 83 3).toInt64)))
  else
    if (im 83 2) ≤ v1 then
      f_X7_isShut_j1 a1 im
    else
      if (im 83 3) < v1 then
        0
      else
        f_X7_isShut_j1 a1 im
set_option maxRecDepth 20000 in
set_option maxHeartbeats 4000000 in
theorem s_X7_isShut {g : GX}  (a1 : Int32) (im : IM) : X g md_X7_isShut (eR im) 0 [(0, .ref (g.1 82)), (1, .int a1)] [] im (some (f_X7_isShut a1 im)) := by
  refine x_iload_n (q := 1) rfl rfl dX7_isShut_0 ?_
  refine x_bipush (v := (60)) (by decide) dX7_isShut_1 ?_
  refine x_irem (by decide) dX7_isShut_3 ?_
  refine x_bs (x_bi (fun v1 => ?_))
  refine x_istore_n (lv' := [(2, .int v1), (0, .ref (g.1 82)), (1, .int a1)]) rfl dX7_isShut_4 (by decide) rfl ?_
  refine x_aload_n (q := 1) rfl rfl dX7_isShut_5 ?_
  refine x_get (C := RX7) (T := TX7) sh_82 (by decide) rfl in_X7 0 (by decide) fl_X7_7 xf_7_0 dX7_isShut_6 ?_
  refine x_iconst (v := (2)) (by decide) dX7_isShut_9 ?_
  refine x_ialdc sh_83 (by decide) ix_2 dX7_isShut_10 ?_
  refine x_aload_n (q := 1) rfl rfl dX7_isShut_11 ?_
  refine x_get (C := RX7) (T := TX7) sh_82 (by decide) rfl in_X7 0 (by decide) fl_X7_7 xf_7_0 dX7_isShut_12 ?_
  refine x_iconst (v := (3)) (by decide) dX7_isShut_15 ?_
  refine x_ialdc sh_83 (by decide) ix_3 dX7_isShut_16 ?_
  refine x_cs ?_
  refine x_icmp_le (tgt := 48) dX7_isShut_17 (by decide) ?_ ?_
  · refine x_iload_n (q := 0) rfl rfl dX7_isShut_48 ?_
    refine x_i2l dX7_isShut_49 ?_
    refine x_aload_n (q := 1) rfl rfl dX7_isShut_50 ?_
    refine x_get (C := RX7) (T := TX7) sh_82 (by decide) rfl in_X7 0 (by decide) fl_X7_7 xf_7_0 dX7_isShut_51 ?_
    refine x_iconst (v := (2)) (by decide) dX7_isShut_54 ?_
    refine x_ialdc sh_83 (by decide) ix_2 dX7_isShut_55 ?_
    refine x_i2l dX7_isShut_56 ?_
    refine x_aload_n (q := 1) rfl rfl dX7_isShut_57 ?_
    refine x_get (C := RX7) (T := TX7) sh_82 (by decide) rfl in_X7 0 (by decide) fl_X7_7 xf_7_0 dX7_isShut_58 ?_
    refine x_iconst (v := (3)) (by decide) dX7_isShut_61 ?_
    refine x_ialdc sh_83 (by decide) ix_3 dX7_isShut_62 ?_
    refine x_i2l dX7_isShut_63 ?_
    refine x_callSR (av := [.long v1.toInt64, .long ((im 83 2).toInt64), .long ((im 83 3).toInt64)]) (st := []) (m_X7_in  v1.toInt64 (((im 83 2).toInt64)) (((im 83 3).toInt64)) im) rfl (by decide) (by decide) lk_X7_46 cd_X7_in xd_X7_in rfl (Nat.le_of_ble_eq_true rfl) dX7_isShut_64 ?_
    exact x_nret (y := zb (f_X7_in v1.toInt64 ((im 83 2).toInt64) ((im 83 3).toInt64))) rfl rfl rfl dX7_isShut_67
  · refine x_iload_n (q := 0) rfl rfl dX7_isShut_20 ?_
    refine x_aload_n (q := 1) rfl rfl dX7_isShut_21 ?_
    refine x_get (C := RX7) (T := TX7) sh_82 (by decide) rfl in_X7 0 (by decide) fl_X7_7 xf_7_0 dX7_isShut_22 ?_
    refine x_iconst (v := (2)) (by decide) dX7_isShut_25 ?_
    refine x_ialdc sh_83 (by decide) ix_2 dX7_isShut_26 ?_
    refine x_cs ?_
    refine x_icmp_ge (tgt := 40) dX7_isShut_27 (by decide) ?_ ?_
    · refine x_sub [] rfl ?_
      exact s_X7_isShut_j1 a1 im
    · refine x_iload_n (q := 0) rfl rfl dX7_isShut_30 ?_
      refine x_aload_n (q := 1) rfl rfl dX7_isShut_31 ?_
      refine x_get (C := RX7) (T := TX7) sh_82 (by decide) rfl in_X7 0 (by decide) fl_X7_7 xf_7_0 dX7_isShut_32 ?_
      refine x_iconst (v := (3)) (by decide) dX7_isShut_35 ?_
      refine x_ialdc sh_83 (by decide) ix_3 dX7_isShut_36 ?_
      refine x_cs ?_
      refine x_icmp_gt (tgt := 44) dX7_isShut_37 (by decide) ?_ ?_
      · refine x_iconst (v := (0)) (by decide) dX7_isShut_44 ?_
        refine x_goto (tgt := 67) dX7_isShut_45 (by decide) ?_
        exact x_nret (y := 0) rfl rfl (by decide) dX7_isShut_67
      · refine x_sub [] rfl ?_
        exact s_X7_isShut_j1 a1 im
theorem m_X7_isShut {g : GX}  (a1 : Int32) (im : IM) : xMet g 1 yX7_isShut cX7_isShut 3 (some .boolean) [.ref (g.1 82), .int a1] im ((eR im) (f_X7_isShut a1 im)) := x_met (by decide) (Nat.le_of_ble_eq_true rfl) rfl (s_X7_isShut a1 im) _ rfl
abbrev md_X7_shut : xM := (2, 2, RX7, cX7_shut, (some .int))
def f_X7_shut (a1 : Int32) (im : IM) : Option (Int32 × IM) :=
  if (f_X7_in a1.toInt64 0 9999) = 0 then
    (f_X7_finds ((-1000001)) im).bind fun r1 =>
    some ((r1.1, r1.2))
  else
    if (f_X7_isShut a1 im) = 0 then
      some ((0, im))
    else
      some ((1, im))
set_option maxRecDepth 20000 in
set_option maxHeartbeats 4000000 in
theorem s_X7_shut {g : GX}  (a1 : Int32) (im : IM) : X g md_X7_shut eI 0 [(0, .ref (g.1 82)), (1, .int a1)] [] im (f_X7_shut a1 im) := by
  refine x_iload_n (q := 1) rfl rfl dX7_shut_0 ?_
  refine x_i2l dX7_shut_1 ?_
  refine x_lconst (v := (0)) (by decide) dX7_shut_2 ?_
  refine x_ldc2 cl_X7_67 dX7_shut_3 ?_
  refine x_callSR (av := [.long a1.toInt64, .long 0, .long 9999]) (st := []) (m_X7_in  a1.toInt64 0 9999 im) rfl (by decide) (by decide) lk_X7_46 cd_X7_in xd_X7_in rfl (Nat.le_of_ble_eq_true rfl) dX7_shut_6 ?_
  refine x_if_eq (tgt := 28) dX7_shut_9 (by decide) ?_ ?_
  · refine x_aload_n (q := 0) rfl rfl dX7_shut_28 ?_
    refine x_ldc co_X7_43 dX7_shut_29 ?_
    refine x_bind (fun r1 er1 => ?_)
    refine x_callVI (av := [.int ((-1000001))]) (st := []) (m_X7_finds  (((-1000001))) im r1 er1) sh_82 (by decide) rfl rfl (by decide) (by decide) lk_X7_59 cd_X7_finds xd_X7_finds rfl (Nat.le_of_ble_eq_true rfl) dX7_shut_31 ?_
    exact x_iret rfl rfl dX7_shut_34
  · refine x_aload_n (q := 0) rfl rfl dX7_shut_12 ?_
    refine x_iload_n (q := 1) rfl rfl dX7_shut_13 ?_
    refine x_callVR (av := [.int a1]) (st := []) (m_X7_isShut  a1 im) sh_82 (by decide) rfl rfl (by decide) (by decide) lk_X7_69 cd_X7_isShut xd_X7_isShut rfl (Nat.le_of_ble_eq_true rfl) dX7_shut_14 ?_
    refine x_if_eq (tgt := 24) dX7_shut_17 (by decide) ?_ ?_
    · refine x_iconst (v := (0)) (by decide) dX7_shut_24 ?_
      refine x_goto (tgt := 34) dX7_shut_25 (by decide) ?_
      exact x_iret rfl rfl dX7_shut_34
    · refine x_iconst (v := (1)) (by decide) dX7_shut_20 ?_
      refine x_goto (tgt := 34) dX7_shut_21 (by decide) ?_
      exact x_iret rfl rfl dX7_shut_34
theorem m_X7_shut {g : GX}  (a1 : Int32) (im : IM) (r : Int32 × IM) (hr : f_X7_shut a1 im = some r) : xMet g 2 yX7_shut cX7_shut 2 (some .int) [.ref (g.1 82), .int a1] im (eI r) := x_met (by decide) (Nat.le_of_ble_eq_true rfl) rfl (s_X7_shut a1 im) r hr
abbrev md_X7_at : xM := (0, 2, RX7, cX7_at, (some .int))
def f_X7_at (a0 : Int32) (a1 : Int32)  : Int32 :=
  ((67 + (9 * a0)) + a1)
set_option maxRecDepth 20000 in
set_option maxHeartbeats 4000000 in
theorem s_X7_at {g : GX}   (a0 : Int32) (a1 : Int32) (im : IM) : X g md_X7_at (eR im) 0 [(0, .int a0), (1, .int a1)] [] im (some (f_X7_at a0 a1)) := by
  refine x_bipush (v := (67)) (by decide) dX7_at_0 ?_
  refine x_bipush (v := (9)) (by decide) dX7_at_2 ?_
  refine x_iload_n (q := 0) rfl rfl dX7_at_4 ?_
  refine x_imul dX7_at_5 ?_
  refine x_iadd dX7_at_6 ?_
  refine x_iload_n (q := 1) rfl rfl dX7_at_7 ?_
  refine x_iadd dX7_at_8 ?_
  exact x_iret rfl rfl dX7_at_9
theorem m_X7_at {g : GX}   (a0 : Int32) (a1 : Int32) (im : IM) : xMet g 0 yX7_at cX7_at 2 (some .int) [.int a0, .int a1] im ((eR im) (f_X7_at a0 a1)) := x_met (by decide) (Nat.le_of_ble_eq_true rfl) rfl (s_X7_at a0 a1 im) _ rfl
abbrev md_X7_its : xM := (1, 3, RX7, cX7_its, (some .int))
def f_X7_its (a1 : Int32) (a2 : Int32) (im : IM) : Option (Int32) :=
  if inb (f_X7_at a1 a2) 167 = true then
    some (im 83 (ix (f_X7_at a1 a2)))
  else none
set_option maxRecDepth 20000 in
set_option maxHeartbeats 4000000 in
theorem s_X7_its {g : GX}   (a1 : Int32) (a2 : Int32) (im : IM) : X g md_X7_its (eR im) 0 [(0, .ref (g.1 82)), (1, .int a1), (2, .int a2)] [] im (f_X7_its a1 a2 im) := by
  refine x_aload_n (q := 0) rfl rfl dX7_its_0 ?_
  refine x_get (C := RX7) (T := TX7) sh_82 (by decide) rfl in_X7 0 (by decide) fl_X7_7 xf_7_0 dX7_its_1 ?_
  refine x_iload_n (q := 1) rfl rfl dX7_its_4 ?_
  refine x_iload_n (q := 2) rfl rfl dX7_its_5 ?_
  refine x_callSR (av := [.int a1, .int a2]) (st := [.ref (g.1 83)]) (m_X7_at  a1 a2 im) rfl (by decide) (by decide) lk_X7_72 cd_X7_at xd_X7_at rfl (Nat.le_of_ble_eq_true rfl) dX7_its_6 ?_
  refine x_iald sh_83 dX7_its_9 ?_
  exact x_iret rfl rfl dX7_its_10
theorem m_X7_its {g : GX}   (a1 : Int32) (a2 : Int32) (im : IM) (r : Int32) (hr : f_X7_its a1 a2 im = some r) : xMet g 1 yX7_its cX7_its 3 (some .int) [.ref (g.1 82), .int a1, .int a2] im ((eR im) r) := x_met (by decide) (Nat.le_of_ble_eq_true rfl) rfl (s_X7_its a1 a2 im) r hr
abbrev md_X7_newThing : xM := (1, 7, RX7, cX7_newThing, (some .int))
def f_X7_newThing_l1b (a1 : Int32) (a2 : Int32) (a3 : Int32) (a4 : Int32)   (k11 : Int32 → Int32 → IM → Option (Int32 × IM)) (x5 : Int32) (x6 : Int32) (im : IM) : Option (Int32 × IM) :=
  if 9 ≤ x6 then
    if inb (f_X7_at x5 0) 167 = true then
      bnd (up im 83 (ix (f_X7_at x5 0)) a1) fun m2 =>
      if inb (f_X7_at x5 1) 167 = true then
        bnd (up m2 83 (ix (f_X7_at x5 1)) a2) fun m3 =>
        if inb (f_X7_at x5 2) 167 = true then
          bnd (up m3 83 (ix (f_X7_at x5 2)) a3) fun m4 =>
          if inb (f_X7_at x5 3) 167 = true then
            bnd (up m4 83 (ix (f_X7_at x5 3)) a4) fun m5 =>
            bnd (up m5 83 1 ((m5 83 1) + 1)) fun m6 =>
            some ((x5, m6))
          else none
        else none
      else none
    else none
  else
    if inb (f_X7_at x5 x6) 167 = true then
      bnd (up im 83 (ix (f_X7_at x5 x6)) 0) fun m7 =>
      bnd (x6 + 1) fun v8 =>
      k11 x5 v8 m7
    else none
def f_X7_newThing_l1 (a1 : Int32) (a2 : Int32) (a3 : Int32) (a4 : Int32)   : Nat → Int32 → Int32 → IM → Option (Int32 × IM)
  | 0, _, _, _ => none
  | n + 1, x5, x6, im => f_X7_newThing_l1b a1 a2 a3 a4 (f_X7_newThing_l1 a1 a2 a3 a4 n) x5 x6 im
set_option maxRecDepth 20000 in
set_option maxHeartbeats 4000000 in
theorem s_X7_newThing_l1b {g : GX} (a1 : Int32) (a2 : Int32) (a3 : Int32) (a4 : Int32)    (k11 : Int32 → Int32 → IM → Option (Int32 × IM)) (hk11 : ∀ (x5 : Int32) (x6 : Int32) (im : IM), X g md_X7_newThing eI 11 [(0, .ref (g.1 82)), (1, .int a1), (2, .int a2), (3, .int a3), (4, .int a4), (5, .int x5), (6, .int x6)] [] im (k11 x5 x6 im)) (x5 : Int32) (x6 : Int32)  (im : IM) : X g md_X7_newThing eI 11 [(0, .ref (g.1 82)), (1, .int a1), (2, .int a2), (3, .int a3), (4, .int a4), (5, .int x5), (6, .int x6)] [] im (f_X7_newThing_l1b a1 a2 a3 a4 k11 x5 x6 im) := by
  refine x_iload (q := 6) rfl dX7_newThing_11 ?_
  refine x_bipush (v := (9)) (by decide) dX7_newThing_13 ?_
  refine x_icmp_ge (tgt := 37) dX7_newThing_15 (by decide) ?_ ?_
  · refine x_aload_n (q := 0) rfl rfl dX7_newThing_37 ?_
    refine x_get (C := RX7) (T := TX7) sh_82 (by decide) rfl in_X7 0 (by decide) fl_X7_7 xf_7_0 dX7_newThing_38 ?_
    refine x_iload (q := 5) rfl dX7_newThing_41 ?_
    refine x_iconst (v := (0)) (by decide) dX7_newThing_43 ?_
    refine x_callSR (av := [.int x5, .int 0]) (st := [.ref (g.1 83)]) (m_X7_at  x5 0 im) rfl (by decide) (by decide) lk_X7_72 cd_X7_at xd_X7_at rfl (Nat.le_of_ble_eq_true rfl) dX7_newThing_44 ?_
    refine x_iload_n (q := 1) rfl rfl dX7_newThing_47 ?_
    refine x_iast sh_83 dX7_newThing_48 ?_
    refine x_bm (fun m2 => ?_)
    refine x_aload_n (q := 0) rfl rfl dX7_newThing_49 ?_
    refine x_get (C := RX7) (T := TX7) sh_82 (by decide) rfl in_X7 0 (by decide) fl_X7_7 xf_7_0 dX7_newThing_50 ?_
    refine x_iload (q := 5) rfl dX7_newThing_53 ?_
    refine x_iconst (v := (1)) (by decide) dX7_newThing_55 ?_
    refine x_callSR (av := [.int x5, .int 1]) (st := [.ref (g.1 83)]) (m_X7_at  x5 1 m2) rfl (by decide) (by decide) lk_X7_72 cd_X7_at xd_X7_at rfl (Nat.le_of_ble_eq_true rfl) dX7_newThing_56 ?_
    refine x_iload_n (q := 2) rfl rfl dX7_newThing_59 ?_
    refine x_iast sh_83 dX7_newThing_60 ?_
    refine x_bm (fun m3 => ?_)
    refine x_aload_n (q := 0) rfl rfl dX7_newThing_61 ?_
    refine x_get (C := RX7) (T := TX7) sh_82 (by decide) rfl in_X7 0 (by decide) fl_X7_7 xf_7_0 dX7_newThing_62 ?_
    refine x_iload (q := 5) rfl dX7_newThing_65 ?_
    refine x_iconst (v := (2)) (by decide) dX7_newThing_67 ?_
    refine x_callSR (av := [.int x5, .int 2]) (st := [.ref (g.1 83)]) (m_X7_at  x5 2 m3) rfl (by decide) (by decide) lk_X7_72 cd_X7_at xd_X7_at rfl (Nat.le_of_ble_eq_true rfl) dX7_newThing_68 ?_
    refine x_iload_n (q := 3) rfl rfl dX7_newThing_71 ?_
    refine x_iast sh_83 dX7_newThing_72 ?_
    refine x_bm (fun m4 => ?_)
    refine x_aload_n (q := 0) rfl rfl dX7_newThing_73 ?_
    refine x_get (C := RX7) (T := TX7) sh_82 (by decide) rfl in_X7 0 (by decide) fl_X7_7 xf_7_0 dX7_newThing_74 ?_
    refine x_iload (q := 5) rfl dX7_newThing_77 ?_
    refine x_iconst (v := (3)) (by decide) dX7_newThing_79 ?_
    refine x_callSR (av := [.int x5, .int 3]) (st := [.ref (g.1 83)]) (m_X7_at  x5 3 m4) rfl (by decide) (by decide) lk_X7_72 cd_X7_at xd_X7_at rfl (Nat.le_of_ble_eq_true rfl) dX7_newThing_80 ?_
    refine x_iload (q := 4) rfl dX7_newThing_83 ?_
    refine x_iast sh_83 dX7_newThing_85 ?_
    refine x_bm (fun m5 => ?_)
    refine x_aload_n (q := 0) rfl rfl dX7_newThing_86 ?_
    refine x_get (C := RX7) (T := TX7) sh_82 (by decide) rfl in_X7 0 (by decide) fl_X7_7 xf_7_0 dX7_newThing_87 ?_
    refine x_iconst (v := (1)) (by decide) dX7_newThing_90 ?_
    refine x_dup2 rfl rfl dX7_newThing_91 ?_
    refine x_ialdc sh_83 (by decide) ix_1 dX7_newThing_92 ?_
    refine x_iconst (v := (1)) (by decide) dX7_newThing_93 ?_
    refine x_iadd dX7_newThing_94 ?_
    refine x_iastc sh_83 (by decide) ix_1 dX7_newThing_95 ?_
    refine x_bm (fun m6 => ?_)
    refine x_iload (q := 5) rfl dX7_newThing_96 ?_
    exact x_iret rfl rfl dX7_newThing_98
  · refine x_aload_n (q := 0) rfl rfl dX7_newThing_18 ?_
    refine x_get (C := RX7) (T := TX7) sh_82 (by decide) rfl in_X7 0 (by decide) fl_X7_7 xf_7_0 dX7_newThing_19 ?_
    refine x_iload (q := 5) rfl dX7_newThing_22 ?_
    refine x_iload (q := 6) rfl dX7_newThing_24 ?_
    refine x_callSR (av := [.int x5, .int x6]) (st := [.ref (g.1 83)]) (m_X7_at  x5 x6 im) rfl (by decide) (by decide) lk_X7_72 cd_X7_at xd_X7_at rfl (Nat.le_of_ble_eq_true rfl) dX7_newThing_26 ?_
    refine x_iconst (v := (0)) (by decide) dX7_newThing_29 ?_
    refine x_iast sh_83 dX7_newThing_30 ?_
    refine x_bm (fun m7 => ?_)
    refine x_iinc (q := 6) (a := 1) (lv' := fun v8 => [(6, .int v8), (0, .ref (g.1 82)), (1, .int a1), (2, .int a2), (3, .int a3), (4, .int a4), (5, .int x5)]) dX7_newThing_31 rfl (by decide) (by decide) (fun _ => rfl) (fun v8 => ?_)
    refine x_goto (tgt := 11) dX7_newThing_34 (by decide) ?_
    refine x_sub [1, 2, 3, 4, 5, 6, 0] rfl ?_
    exact hk11 x5 v8 m7
set_option maxRecDepth 20000 in
set_option maxHeartbeats 4000000 in
theorem s_X7_newThing_l1 {g : GX} (a1 : Int32) (a2 : Int32) (a3 : Int32) (a4 : Int32)    (n : Nat) : ∀ (x5 : Int32) (x6 : Int32) (im : IM), X g md_X7_newThing eI 11 [(0, .ref (g.1 82)), (1, .int a1), (2, .int a2), (3, .int a3), (4, .int a4), (5, .int x5), (6, .int x6)] [] im (f_X7_newThing_l1 a1 a2 a3 a4 n x5 x6 im) := by
  induction n with
  | zero => intro x5 x6 im; exact x_none
  | succ n ih => intro x5 x6 im; exact s_X7_newThing_l1b a1 a2 a3 a4 (f_X7_newThing_l1 a1 a2 a3 a4 n) ih x5 x6 im
def f_X7_newThing (a1 : Int32) (a2 : Int32) (a3 : Int32) (a4 : Int32) (im : IM) : Option (Int32 × IM) :=
  bnd (im 83 1) fun v1 =>
  f_X7_newThing_l1 a1 a2 a3 a4 xF v1 0 im
set_option maxRecDepth 20000 in
set_option maxHeartbeats 4000000 in
theorem s_X7_newThing {g : GX}     (a1 : Int32) (a2 : Int32) (a3 : Int32) (a4 : Int32) (im : IM) : X g md_X7_newThing eI 0 [(0, .ref (g.1 82)), (1, .int a1), (2, .int a2), (3, .int a3), (4, .int a4)] [] im (f_X7_newThing a1 a2 a3 a4 im) := by
  refine x_aload_n (q := 0) rfl rfl dX7_newThing_0 ?_
  refine x_get (C := RX7) (T := TX7) sh_82 (by decide) rfl in_X7 0 (by decide) fl_X7_7 xf_7_0 dX7_newThing_1 ?_
  refine x_iconst (v := (1)) (by decide) dX7_newThing_4 ?_
  refine x_ialdc sh_83 (by decide) ix_1 dX7_newThing_5 ?_
  refine x_bi (fun v1 => ?_)
  refine x_istore (lv' := [(5, .int v1), (0, .ref (g.1 82)), (1, .int a1), (2, .int a2), (3, .int a3), (4, .int a4)]) dX7_newThing_6 (by decide) rfl ?_
  refine x_iconst (v := (0)) (by decide) dX7_newThing_8 ?_
  refine x_istore (lv' := [(6, .int 0), (5, .int v1), (0, .ref (g.1 82)), (1, .int a1), (2, .int a2), (3, .int a3), (4, .int a4)]) dX7_newThing_9 (by decide) rfl ?_
  refine x_sub [2, 3, 4, 5, 6, 1, 0] rfl ?_
  exact s_X7_newThing_l1 a1 a2 a3 a4 xF v1 0 im
theorem m_X7_newThing {g : GX}     (a1 : Int32) (a2 : Int32) (a3 : Int32) (a4 : Int32) (im : IM) (r : Int32 × IM) (hr : f_X7_newThing a1 a2 a3 a4 im = some r) : xMet g 1 yX7_newThing cX7_newThing 7 (some .int) [.ref (g.1 82), .int a1, .int a2, .int a3, .int a4] im (eI r) := x_met (by decide) (Nat.le_of_ble_eq_true rfl) rfl (s_X7_newThing a1 a2 a3 a4 im) r hr
abbrev md_X7_isPart : xM := (1, 2, RX7, cX7_isPart, (some .boolean))
def f_X7_isPart_j1 (a0 : Int32) (a1 : Int32)    : Int32 :=
  0
set_option maxRecDepth 20000 in
set_option maxHeartbeats 4000000 in
theorem s_X7_isPart_j1 {g : GX} (a0 : Int32) (a1 : Int32)   (im : IM)    : X g md_X7_isPart (eR im) 79 [] [] im (some (f_X7_isPart_j1 a0 a1)) := by
  refine x_iconst (v := (0)) (by decide) dX7_isPart_79 ?_
  exact x_nret (y := 0) rfl rfl (by decide) dX7_isPart_80
def f_X7_isPart (a0 : Int32) (a1 : Int32)  : Int32 :=
  if a0 = 0 then
    (zb (f_X7_in a1.toInt64 0 6))
  else if a0 = 1 then
    (zb (f_X7_in a1.toInt64 1 99))
  else if a0 = 2 then
    (zb (f_X7_in a1.toInt64 1 9))
  else 
    if a0 = 3 then
      if (f_X7_in a1.toInt64 0 9) = 0 then
        f_X7_isPart_j1 a0 a1
      else
        1
    else
      f_X7_isPart_j1 a0 a1
set_option maxRecDepth 20000 in
set_option maxHeartbeats 4000000 in
theorem s_X7_isPart {g : GX}   (a0 : Int32) (a1 : Int32) (im : IM) : X g md_X7_isPart (eR im) 0 [(0, .int a0), (1, .int a1)] [] im (some (f_X7_isPart a0 a1)) := by
  refine x_iload_n (q := 0) rfl rfl dX7_isPart_0 ?_
  refine x_cs (x_case (k := 0) (fun hx1_0 => ?_) (fun hx1_0 => ?_))
  · refine x_tsw (off := 27) (tgt := 28) dX7_isPart_1 (by rw [hx1_0]; decide) (by rw [hx1_0]; decide) (by rw [hx1_0]; rfl) (by decide) ?_
    refine x_iload_n (q := 1) rfl rfl dX7_isPart_28 ?_
    refine x_i2l dX7_isPart_29 ?_
    refine x_lconst (v := (0)) (by decide) dX7_isPart_30 ?_
    refine x_ldc2 cl_X7_76 dX7_isPart_31 ?_
    refine x_callSR (av := [.long a1.toInt64, .long 0, .long 6]) (st := []) (m_X7_in  a1.toInt64 0 6 im) rfl (by decide) (by decide) lk_X7_46 cd_X7_in xd_X7_in rfl (Nat.le_of_ble_eq_true rfl) dX7_isPart_34 ?_
    exact x_nret (y := zb (f_X7_in a1.toInt64 0 6)) rfl rfl rfl dX7_isPart_37
  refine x_cs (x_case (k := 1) (fun hx1_1 => ?_) (fun hx1_1 => ?_))
  · refine x_tsw (off := 37) (tgt := 38) dX7_isPart_1 (by rw [hx1_1]; decide) (by rw [hx1_1]; decide) (by rw [hx1_1]; rfl) (by decide) ?_
    refine x_iload_n (q := 1) rfl rfl dX7_isPart_38 ?_
    refine x_i2l dX7_isPart_39 ?_
    refine x_lconst (v := (1)) (by decide) dX7_isPart_40 ?_
    refine x_ldc2 cl_X7_78 dX7_isPart_41 ?_
    refine x_callSR (av := [.long a1.toInt64, .long 1, .long 99]) (st := []) (m_X7_in  a1.toInt64 1 99 im) rfl (by decide) (by decide) lk_X7_46 cd_X7_in xd_X7_in rfl (Nat.le_of_ble_eq_true rfl) dX7_isPart_44 ?_
    exact x_nret (y := zb (f_X7_in a1.toInt64 1 99)) rfl rfl rfl dX7_isPart_47
  refine x_cs (x_case (k := 2) (fun hx1_2 => ?_) (fun hx1_2 => ?_))
  · refine x_tsw (off := 47) (tgt := 48) dX7_isPart_1 (by rw [hx1_2]; decide) (by rw [hx1_2]; decide) (by rw [hx1_2]; rfl) (by decide) ?_
    refine x_iload_n (q := 1) rfl rfl dX7_isPart_48 ?_
    refine x_i2l dX7_isPart_49 ?_
    refine x_lconst (v := (1)) (by decide) dX7_isPart_50 ?_
    refine x_ldc2 cl_X7_57 dX7_isPart_51 ?_
    refine x_callSR (av := [.long a1.toInt64, .long 1, .long 9]) (st := []) (m_X7_in  a1.toInt64 1 9 im) rfl (by decide) (by decide) lk_X7_46 cd_X7_in xd_X7_in rfl (Nat.le_of_ble_eq_true rfl) dX7_isPart_54 ?_
    exact x_nret (y := zb (f_X7_in a1.toInt64 1 9)) rfl rfl rfl dX7_isPart_57
  have ho1 : (a0).toInt < 0 ∨ 2 < (a0).toInt := by
    refine x_out (fun k h1 h2 => ?_)
    have hk : k = 0 ∨ k = 1 ∨ k = 2 := by omega
    rcases hk with rfl | rfl | rfl
    · exact hx1_0
    · exact hx1_1
    · exact hx1_2
  refine x_tsd (tgt := 58) dX7_isPart_1 ho1 (by decide) ?_
  refine x_iload_n (q := 0) rfl rfl dX7_isPart_58 ?_
  refine x_iconst (v := (3)) (by decide) dX7_isPart_59 ?_
  refine x_cs ?_
  refine x_icmp_ne (tgt := 79) dX7_isPart_60 (by decide) ?_ ?_
  · refine x_sub [] rfl ?_
    exact s_X7_isPart_j1 a0 a1 im
  · refine x_iload_n (q := 1) rfl rfl dX7_isPart_63 ?_
    refine x_i2l dX7_isPart_64 ?_
    refine x_lconst (v := (0)) (by decide) dX7_isPart_65 ?_
    refine x_ldc2 cl_X7_57 dX7_isPart_66 ?_
    refine x_callSR (av := [.long a1.toInt64, .long 0, .long 9]) (st := []) (m_X7_in  a1.toInt64 0 9 im) rfl (by decide) (by decide) lk_X7_46 cd_X7_in xd_X7_in rfl (Nat.le_of_ble_eq_true rfl) dX7_isPart_69 ?_
    refine x_cs ?_
    refine x_if_eq (tgt := 79) dX7_isPart_72 (by decide) ?_ ?_
    · refine x_sub [] rfl ?_
      exact s_X7_isPart_j1 a0 a1 im
    · refine x_iconst (v := (1)) (by decide) dX7_isPart_75 ?_
      refine x_goto (tgt := 80) dX7_isPart_76 (by decide) ?_
      exact x_nret (y := 1) rfl rfl (by decide) dX7_isPart_80
theorem m_X7_isPart {g : GX}   (a0 : Int32) (a1 : Int32) (im : IM) : xMet g 1 yX7_isPart cX7_isPart 2 (some .boolean) [.int a0, .int a1] im ((eR im) (f_X7_isPart a0 a1)) := x_met (by decide) (Nat.le_of_ble_eq_true rfl) rfl (s_X7_isPart a0 a1 im) _ rfl
abbrev md_X7_thing : xM := (2, 3, RX7, cX7_thing, (some .int))
def f_X7_thing_j1 (a1 : Int32) (a2 : Int32)   (im : IM) : Option (Int32 × IM) :=
  (f_X7_finds ((-1000001)) im).bind fun r1 =>
  some ((r1.1, r1.2))
set_option maxRecDepth 20000 in
set_option maxHeartbeats 4000000 in
theorem s_X7_thing_j1 {g : GX} (a1 : Int32) (a2 : Int32)      (im : IM) : X g md_X7_thing eI 16 [(0, .ref (g.1 82))] [] im (f_X7_thing_j1 a1 a2 im) := by
  refine x_aload_n (q := 0) rfl rfl dX7_thing_16 ?_
  refine x_ldc co_X7_43 dX7_thing_17 ?_
  refine x_bind (fun r1 er1 => ?_)
  refine x_callVI (av := [.int ((-1000001))]) (st := []) (m_X7_finds  (((-1000001))) im r1 er1) sh_82 (by decide) rfl rfl (by decide) (by decide) lk_X7_59 cd_X7_finds xd_X7_finds rfl (Nat.le_of_ble_eq_true rfl) dX7_thing_19 ?_
  exact x_iret rfl rfl dX7_thing_22
def f_X7_thing (a1 : Int32) (a2 : Int32) (im : IM) : Option (Int32 × IM) :=
  if (f_X7_isPart 0 a1) = 0 then
    f_X7_thing_j1 a1 a2 im
  else
    if (f_X7_isPart 1 a2) = 0 then
      f_X7_thing_j1 a1 a2 im
    else
      if (im 83 1) = 10 then
        (f_X7_finds ((-1000002)) im).bind fun r3 =>
        some ((r3.1, r3.2))
      else
        (f_X7_newThing a1 a2 4 0 im).bind fun r2 =>
        some ((r2.1, r2.2))
set_option maxRecDepth 20000 in
set_option maxHeartbeats 4000000 in
theorem s_X7_thing {g : GX}   (a1 : Int32) (a2 : Int32) (im : IM) : X g md_X7_thing eI 0 [(0, .ref (g.1 82)), (1, .int a1), (2, .int a2)] [] im (f_X7_thing a1 a2 im) := by
  refine x_iconst (v := (0)) (by decide) dX7_thing_0 ?_
  refine x_iload_n (q := 1) rfl rfl dX7_thing_1 ?_
  refine x_callSR (av := [.int 0, .int a1]) (st := []) (m_X7_isPart  0 a1 im) rfl (by decide) (by decide) lk_X7_80 cd_X7_isPart xd_X7_isPart rfl (Nat.le_of_ble_eq_true rfl) dX7_thing_2 ?_
  refine x_if_eq (tgt := 16) dX7_thing_5 (by decide) ?_ ?_
  · refine x_sub [0] rfl ?_
    exact s_X7_thing_j1 a1 a2 im
  · refine x_iconst (v := (1)) (by decide) dX7_thing_8 ?_
    refine x_iload_n (q := 2) rfl rfl dX7_thing_9 ?_
    refine x_callSR (av := [.int 1, .int a2]) (st := []) (m_X7_isPart  1 a2 im) rfl (by decide) (by decide) lk_X7_80 cd_X7_isPart xd_X7_isPart rfl (Nat.le_of_ble_eq_true rfl) dX7_thing_10 ?_
    refine x_if_ne (tgt := 23) dX7_thing_13 (by decide) ?_ ?_
    · refine x_aload_n (q := 0) rfl rfl dX7_thing_23 ?_
      refine x_get (C := RX7) (T := TX7) sh_82 (by decide) rfl in_X7 0 (by decide) fl_X7_7 xf_7_0 dX7_thing_24 ?_
      refine x_iconst (v := (1)) (by decide) dX7_thing_27 ?_
      refine x_ialdc sh_83 (by decide) ix_1 dX7_thing_28 ?_
      refine x_bipush (v := (10)) (by decide) dX7_thing_29 ?_
      refine x_icmp_ne (tgt := 43) dX7_thing_31 (by decide) ?_ ?_
      · refine x_aload_n (q := 0) rfl rfl dX7_thing_43 ?_
        refine x_iload_n (q := 1) rfl rfl dX7_thing_44 ?_
        refine x_iload_n (q := 2) rfl rfl dX7_thing_45 ?_
        refine x_iconst (v := (4)) (by decide) dX7_thing_46 ?_
        refine x_iconst (v := (0)) (by decide) dX7_thing_47 ?_
        refine x_bind (fun r2 er2 => ?_)
        refine x_callVI (av := [.int a1, .int a2, .int 4, .int 0]) (st := []) (m_X7_newThing  a1 a2 4 0 im r2 er2) sh_82 (by decide) rfl rfl (by decide) (by decide) lk_X7_85 cd_X7_newThing xd_X7_newThing rfl (Nat.le_of_ble_eq_true rfl) dX7_thing_48 ?_
        exact x_iret rfl rfl dX7_thing_51
      · refine x_aload_n (q := 0) rfl rfl dX7_thing_34 ?_
        refine x_ldc co_X7_84 dX7_thing_35 ?_
        refine x_bind (fun r3 er3 => ?_)
        refine x_callVI (av := [.int ((-1000002))]) (st := []) (m_X7_finds  (((-1000002))) im r3 er3) sh_82 (by decide) rfl rfl (by decide) (by decide) lk_X7_59 cd_X7_finds xd_X7_finds rfl (Nat.le_of_ble_eq_true rfl) dX7_thing_37 ?_
        refine x_goto (tgt := 51) dX7_thing_40 (by decide) ?_
        exact x_iret rfl rfl dX7_thing_51
    · refine x_sub [0] rfl ?_
      exact s_X7_thing_j1 a1 a2 im
theorem m_X7_thing {g : GX}   (a1 : Int32) (a2 : Int32) (im : IM) (r : Int32 × IM) (hr : f_X7_thing a1 a2 im = some r) : xMet g 2 yX7_thing cX7_thing 3 (some .int) [.ref (g.1 82), .int a1, .int a2] im (eI r) := x_met (by decide) (Nat.le_of_ble_eq_true rfl) rfl (s_X7_thing a1 a2 im) r hr
abbrev md_X7_gain : xM := (2, 4, RX7, cX7_gain, (some .int))
def f_X7_gain_j1 (a1 : Int32) (a2 : Int32)  (x3 : Int32) (im : IM) : Option (Int32) :=
  some (x3 + 2)
set_option maxRecDepth 20000 in
set_option maxHeartbeats 4000000 in
theorem s_X7_gain_j1 {g : GX} (a1 : Int32) (a2 : Int32)   (im : IM)  (x3 : Int32)  : X g md_X7_gain (eR im) 60 [(3, .int x3)] [] im (f_X7_gain_j1 a1 a2 x3 im) := by
  refine x_iload_n (q := 0) rfl rfl dX7_gain_60 ?_
  refine x_iconst (v := (2)) (by decide) dX7_gain_61 ?_
  refine x_iadd dX7_gain_62 ?_
  exact x_iret rfl rfl dX7_gain_63
def f_X7_gain_j2 (a1 : Int32) (a2 : Int32)  (x3 : Int32) (im : IM) : Option (Int32) :=
  some x3
set_option maxRecDepth 20000 in
set_option maxHeartbeats 4000000 in
theorem s_X7_gain_j2 {g : GX} (a1 : Int32) (a2 : Int32)   (im : IM)  (x3 : Int32)  : X g md_X7_gain (eR im) 88 [(3, .int x3)] [] im (f_X7_gain_j2 a1 a2 x3 im) := by
  refine x_iload_n (q := 0) rfl rfl dX7_gain_88 ?_
  exact x_iret rfl rfl dX7_gain_89
def f_X7_gain (a1 : Int32) (a2 : Int32) (im : IM) : Option (Int32) :=
  if inb (5 + a2) 167 = true then
    (f_X7_its a1 2 im).bind fun r1 =>
    bnd ((im 83 (ix (5 + a2))) * r1) fun v2 =>
    (f_X7_its a1 0 im).bind fun r3 =>
    if r3 = 1 then
      f_X7_gain_j1 a1 a2 v2 im
    else if r3 = 2 then
      f_X7_gain_j2 a1 a2 v2 im
    else if r3 = 3 then
      (f_X7_its a1 1 im).bind fun r4 =>
      some ((v2 + 2) + (r4 / 10))
    else if r3 = 4 then
      f_X7_gain_j2 a1 a2 v2 im
    else if r3 = 5 then
      f_X7_gain_j1 a1 a2 v2 im
    else if r3 = 6 then
      if v2 ≤ 0 then
        some v2
      else
        some 0
    else 
      f_X7_gain_j2 a1 a2 v2 im
  else none
set_option maxRecDepth 20000 in
set_option maxHeartbeats 4000000 in
theorem s_X7_gain {g : GX}   (a1 : Int32) (a2 : Int32) (im : IM) : X g md_X7_gain (eR im) 0 [(0, .ref (g.1 82)), (1, .int a1), (2, .int a2)] [] im (f_X7_gain a1 a2 im) := by
  refine x_aload_n (q := 0) rfl rfl dX7_gain_0 ?_
  refine x_get (C := RX7) (T := TX7) sh_82 (by decide) rfl in_X7 0 (by decide) fl_X7_7 xf_7_0 dX7_gain_1 ?_
  refine x_iconst (v := (5)) (by decide) dX7_gain_4 ?_
  refine x_iload_n (q := 2) rfl rfl dX7_gain_5 ?_
  refine x_iadd dX7_gain_6 ?_
  refine x_iald sh_83 dX7_gain_7 ?_
  refine x_aload_n (q := 0) rfl rfl dX7_gain_8 ?_
  refine x_iload_n (q := 1) rfl rfl dX7_gain_9 ?_
  refine x_iconst (v := (2)) (by decide) dX7_gain_10 ?_
  refine x_bind (fun r1 er1 => ?_)
  refine x_callVR (av := [.int a1, .int 2]) (st := [.int (im 83 (ix (5 + a2)))]) (m_X7_its  a1 2 im r1 er1) sh_82 (by decide) rfl rfl (by decide) (by decide) lk_X7_89 cd_X7_its xd_X7_its rfl (Nat.le_of_ble_eq_true rfl) dX7_gain_11 ?_
  refine x_imul dX7_gain_14 ?_
  refine x_bi (fun v2 => ?_)
  refine x_istore_n (lv' := [(3, .int v2), (0, .ref (g.1 82)), (1, .int a1), (2, .int a2)]) rfl dX7_gain_15 (by decide) rfl ?_
  refine x_aload_n (q := 1) rfl rfl dX7_gain_16 ?_
  refine x_iload_n (q := 2) rfl rfl dX7_gain_17 ?_
  refine x_iconst (v := (0)) (by decide) dX7_gain_18 ?_
  refine x_bind (fun r3 er3 => ?_)
  refine x_callVR (av := [.int a1, .int 0]) (st := []) (m_X7_its  a1 0 im r3 er3) sh_82 (by decide) rfl rfl (by decide) (by decide) lk_X7_89 cd_X7_its xd_X7_its rfl (Nat.le_of_ble_eq_true rfl) dX7_gain_19 ?_
  refine x_case (k := 1) (fun hx22_0 => ?_) (fun hx22_0 => ?_)
  · refine x_tsw (off := 38) (tgt := 60) dX7_gain_22 (by rw [hx22_0]; decide) (by rw [hx22_0]; decide) (by rw [hx22_0]; rfl) (by decide) ?_
    refine x_sub [0] rfl ?_
    exact s_X7_gain_j1 a1 a2 im v2
  refine x_case (k := 2) (fun hx22_1 => ?_) (fun hx22_1 => ?_)
  · refine x_tsw (off := 66) (tgt := 88) dX7_gain_22 (by rw [hx22_1]; decide) (by rw [hx22_1]; decide) (by rw [hx22_1]; rfl) (by decide) ?_
    refine x_sub [0] rfl ?_
    exact s_X7_gain_j2 a1 a2 im v2
  refine x_case (k := 3) (fun hx22_2 => ?_) (fun hx22_2 => ?_)
  · refine x_tsw (off := 42) (tgt := 64) dX7_gain_22 (by rw [hx22_2]; decide) (by rw [hx22_2]; decide) (by rw [hx22_2]; rfl) (by decide) ?_
    refine x_iload_n (q := 0) rfl rfl dX7_gain_64 ?_
    refine x_iconst (v := (2)) (by decide) dX7_gain_65 ?_
    refine x_iadd dX7_gain_66 ?_
    refine x_aload_n (q := 1) rfl rfl dX7_gain_67 ?_
    refine x_iload_n (q := 2) rfl rfl dX7_gain_68 ?_
    refine x_iconst (v := (1)) (by decide) dX7_gain_69 ?_
    refine x_bind (fun r4 er4 => ?_)
    refine x_callVR (av := [.int a1, .int 1]) (st := [.int (v2 + 2)]) (m_X7_its  a1 1 im r4 er4) sh_82 (by decide) rfl rfl (by decide) (by decide) lk_X7_89 cd_X7_its xd_X7_its rfl (Nat.le_of_ble_eq_true rfl) dX7_gain_70 ?_
    refine x_bipush (v := (10)) (by decide) dX7_gain_73 ?_
    refine x_idiv (by decide) dX7_gain_75 ?_
    refine x_iadd dX7_gain_76 ?_
    exact x_iret rfl rfl dX7_gain_77
  refine x_case (k := 4) (fun hx22_3 => ?_) (fun hx22_3 => ?_)
  · refine x_tsw (off := 66) (tgt := 88) dX7_gain_22 (by rw [hx22_3]; decide) (by rw [hx22_3]; decide) (by rw [hx22_3]; rfl) (by decide) ?_
    refine x_sub [0] rfl ?_
    exact s_X7_gain_j2 a1 a2 im v2
  refine x_case (k := 5) (fun hx22_4 => ?_) (fun hx22_4 => ?_)
  · refine x_tsw (off := 38) (tgt := 60) dX7_gain_22 (by rw [hx22_4]; decide) (by rw [hx22_4]; decide) (by rw [hx22_4]; rfl) (by decide) ?_
    refine x_sub [0] rfl ?_
    exact s_X7_gain_j1 a1 a2 im v2
  refine x_case (k := 6) (fun hx22_5 => ?_) (fun hx22_5 => ?_)
  · refine x_tsw (off := 56) (tgt := 78) dX7_gain_22 (by rw [hx22_5]; decide) (by rw [hx22_5]; decide) (by rw [hx22_5]; rfl) (by decide) ?_
    refine x_iload_n (q := 0) rfl rfl dX7_gain_78 ?_
    refine x_if_le (tgt := 86) dX7_gain_79 (by decide) ?_ ?_
    · refine x_iload_n (q := 0) rfl rfl dX7_gain_86 ?_
      exact x_iret rfl rfl dX7_gain_87
    · refine x_iconst (v := (0)) (by decide) dX7_gain_82 ?_
      refine x_goto (tgt := 87) dX7_gain_83 (by decide) ?_
      exact x_iret rfl rfl dX7_gain_87
  have ho22 : (r3).toInt < 1 ∨ 6 < (r3).toInt := by
    refine x_out (fun k h1 h2 => ?_)
    have hk : k = 1 ∨ k = 2 ∨ k = 3 ∨ k = 4 ∨ k = 5 ∨ k = 6 := by omega
    rcases hk with rfl | rfl | rfl | rfl | rfl | rfl
    · exact hx22_0
    · exact hx22_1
    · exact hx22_2
    · exact hx22_3
    · exact hx22_4
    · exact hx22_5
  refine x_tsd (tgt := 88) dX7_gain_22 ho22 (by decide) ?_
  refine x_sub [0] rfl ?_
  exact s_X7_gain_j2 a1 a2 im v2
theorem m_X7_gain {g : GX}   (a1 : Int32) (a2 : Int32) (im : IM) (r : Int32) (hr : f_X7_gain a1 a2 im = some r) : xMet g 2 yX7_gain cX7_gain 4 (some .int) [.ref (g.1 82), .int a1, .int a2] im ((eR im) r) := x_met (by decide) (Nat.le_of_ble_eq_true rfl) rfl (s_X7_gain a1 a2 im) r hr
abbrev md_X7_drag : xM := (2, 5, RX7, cX7_drag, (some .int))
def f_X7_drag_j2 (a1 : Int32) (a2 : Int32)  (x4 : Int32) (im : IM) : Option (Int32) :=
  some x4
set_option maxRecDepth 20000 in
set_option maxHeartbeats 4000000 in
theorem s_X7_drag_j2 {g : GX} (a1 : Int32) (a2 : Int32)   (im : IM)  (x4 : Int32)  : X g md_X7_drag (eR im) 117 [(4, .int x4)] [] im (f_X7_drag_j2 a1 a2 x4 im) := by
  refine x_iload (q := 0) rfl dX7_drag_117 ?_
  exact x_iret rfl rfl dX7_drag_119
def f_X7_drag_j3 (a1 : Int32) (a2 : Int32)  (s0 : Int32) (s1 : Int32) (im : IM) : Option (Int32) :=
  some (s1 - s0)
set_option maxRecDepth 20000 in
set_option maxHeartbeats 4000000 in
theorem s_X7_drag_j3 {g : GX} (a1 : Int32) (a2 : Int32)   (im : IM)  (s0 : Int32) (s1 : Int32)  : X g md_X7_drag (eR im) 110 [] [.int s0, .int s1] im (f_X7_drag_j3 a1 a2 s0 s1 im) := by
  refine x_isub dX7_drag_110 ?_
  exact x_iret rfl rfl dX7_drag_111
def f_X7_drag_j1 (a1 : Int32) (a2 : Int32)  (x3 : Int32) (s0 : Int32) (im : IM) : Option (Int32) :=
  (f_X7_its a1 0 im).bind fun r2 =>
  if r2 = 2 then
    (f_X7_its a1 3 im).bind fun r3 =>
    some (s0 + r3)
  else if r2 = 3 then
    f_X7_drag_j2 a1 a2 s0 im
  else if r2 = 4 then
    (f_X7_its a1 3 im).bind fun r4 =>
    if x3 = 2 then
      f_X7_drag_j3 a1 a2 10 (s0 + r4) im
    else
      f_X7_drag_j3 a1 a2 0 (s0 + r4) im
  else if r2 = 5 then
    some (s0 / 2)
  else 
    f_X7_drag_j2 a1 a2 s0 im
set_option maxRecDepth 20000 in
set_option maxHeartbeats 4000000 in
theorem s_X7_drag_j1 {g : GX} (a1 : Int32) (a2 : Int32)   (im : IM)  (x3 : Int32) (s0 : Int32)  : X g md_X7_drag (eR im) 40 [(0, .ref (g.1 82)), (1, .int a1), (3, .int x3)] [.int s0] im (f_X7_drag_j1 a1 a2 x3 s0 im) := by
  refine x_istore (lv' := [(4, .int s0), (0, .ref (g.1 82)), (1, .int a1), (3, .int x3)]) dX7_drag_40 (by decide) rfl ?_
  refine x_aload_n (q := 1) rfl rfl dX7_drag_42 ?_
  refine x_iload_n (q := 2) rfl rfl dX7_drag_43 ?_
  refine x_iconst (v := (0)) (by decide) dX7_drag_44 ?_
  refine x_bind (fun r2 er2 => ?_)
  refine x_callVR (av := [.int a1, .int 0]) (st := []) (m_X7_its  a1 0 im r2 er2) sh_82 (by decide) rfl rfl (by decide) (by decide) lk_X7_89 cd_X7_its xd_X7_its rfl (Nat.le_of_ble_eq_true rfl) dX7_drag_45 ?_
  refine x_case (k := 2) (fun hx48_0 => ?_) (fun hx48_0 => ?_)
  · refine x_tsw (off := 32) (tgt := 80) dX7_drag_48 (by rw [hx48_0]; decide) (by rw [hx48_0]; decide) (by rw [hx48_0]; rfl) (by decide) ?_
    refine x_iload (q := 0) rfl dX7_drag_80 ?_
    refine x_aload_n (q := 1) rfl rfl dX7_drag_82 ?_
    refine x_iload_n (q := 2) rfl rfl dX7_drag_83 ?_
    refine x_iconst (v := (3)) (by decide) dX7_drag_84 ?_
    refine x_bind (fun r3 er3 => ?_)
    refine x_callVR (av := [.int a1, .int 3]) (st := [.int s0]) (m_X7_its  a1 3 im r3 er3) sh_82 (by decide) rfl rfl (by decide) (by decide) lk_X7_89 cd_X7_its xd_X7_its rfl (Nat.le_of_ble_eq_true rfl) dX7_drag_85 ?_
    refine x_iadd dX7_drag_88 ?_
    exact x_iret rfl rfl dX7_drag_89
  refine x_case (k := 3) (fun hx48_1 => ?_) (fun hx48_1 => ?_)
  · refine x_tsw (off := 69) (tgt := 117) dX7_drag_48 (by rw [hx48_1]; decide) (by rw [hx48_1]; decide) (by rw [hx48_1]; rfl) (by decide) ?_
    refine x_sub [0] rfl ?_
    exact s_X7_drag_j2 a1 a2 im s0
  refine x_case (k := 4) (fun hx48_2 => ?_) (fun hx48_2 => ?_)
  · refine x_tsw (off := 42) (tgt := 90) dX7_drag_48 (by rw [hx48_2]; decide) (by rw [hx48_2]; decide) (by rw [hx48_2]; rfl) (by decide) ?_
    refine x_iload (q := 0) rfl dX7_drag_90 ?_
    refine x_aload_n (q := 1) rfl rfl dX7_drag_92 ?_
    refine x_iload_n (q := 2) rfl rfl dX7_drag_93 ?_
    refine x_iconst (v := (3)) (by decide) dX7_drag_94 ?_
    refine x_bind (fun r4 er4 => ?_)
    refine x_callVR (av := [.int a1, .int 3]) (st := [.int s0]) (m_X7_its  a1 3 im r4 er4) sh_82 (by decide) rfl rfl (by decide) (by decide) lk_X7_89 cd_X7_its xd_X7_its rfl (Nat.le_of_ble_eq_true rfl) dX7_drag_95 ?_
    refine x_iadd dX7_drag_98 ?_
    refine x_iload_n (q := 3) rfl rfl dX7_drag_99 ?_
    refine x_iconst (v := (2)) (by decide) dX7_drag_100 ?_
    refine x_icmp_ne (tgt := 109) dX7_drag_101 (by decide) ?_ ?_
    · refine x_iconst (v := (0)) (by decide) dX7_drag_109 ?_
      refine x_sub [] rfl ?_
      exact s_X7_drag_j3 a1 a2 im 0 (s0 + r4)
    · refine x_bipush (v := (10)) (by decide) dX7_drag_104 ?_
      refine x_goto (tgt := 110) dX7_drag_106 (by decide) ?_
      refine x_sub [] rfl ?_
      exact s_X7_drag_j3 a1 a2 im 10 (s0 + r4)
  refine x_case (k := 5) (fun hx48_3 => ?_) (fun hx48_3 => ?_)
  · refine x_tsw (off := 64) (tgt := 112) dX7_drag_48 (by rw [hx48_3]; decide) (by rw [hx48_3]; decide) (by rw [hx48_3]; rfl) (by decide) ?_
    refine x_iload (q := 0) rfl dX7_drag_112 ?_
    refine x_iconst (v := (2)) (by decide) dX7_drag_114 ?_
    refine x_idiv (by decide) dX7_drag_115 ?_
    exact x_iret rfl rfl dX7_drag_116
  have ho48 : (r2).toInt < 2 ∨ 5 < (r2).toInt := by
    refine x_out (fun k h1 h2 => ?_)
    have hk : k = 2 ∨ k = 3 ∨ k = 4 ∨ k = 5 := by omega
    rcases hk with rfl | rfl | rfl | rfl
    · exact hx48_0
    · exact hx48_1
    · exact hx48_2
    · exact hx48_3
  refine x_tsd (tgt := 117) dX7_drag_48 ho48 (by decide) ?_
  refine x_sub [0] rfl ?_
  exact s_X7_drag_j2 a1 a2 im s0
def f_X7_drag (a1 : Int32) (a2 : Int32) (im : IM) : Option (Int32) :=
  if inb (36 + a2) 167 = true then
    bnd (im 83 (ix (36 + a2))) fun v1 =>
    if v1 = 1 then
      f_X7_drag_j1 a1 a2 v1 12 im
    else
      if v1 = 2 then
        f_X7_drag_j1 a1 a2 v1 30 im
      else
        if v1 = 3 then
          f_X7_drag_j1 a1 a2 v1 4 im
        else
          f_X7_drag_j1 a1 a2 v1 2 im
  else none
set_option maxRecDepth 20000 in
set_option maxHeartbeats 4000000 in
theorem s_X7_drag {g : GX}   (a1 : Int32) (a2 : Int32) (im : IM) : X g md_X7_drag (eR im) 0 [(0, .ref (g.1 82)), (1, .int a1), (2, .int a2)] [] im (f_X7_drag a1 a2 im) := by
  refine x_aload_n (q := 0) rfl rfl dX7_drag_0 ?_
  refine x_get (C := RX7) (T := TX7) sh_82 (by decide) rfl in_X7 0 (by decide) fl_X7_7 xf_7_0 dX7_drag_1 ?_
  refine x_bipush (v := (36)) (by decide) dX7_drag_4 ?_
  refine x_iload_n (q := 2) rfl rfl dX7_drag_6 ?_
  refine x_iadd dX7_drag_7 ?_
  refine x_iald sh_83 dX7_drag_8 ?_
  refine x_bi (fun v1 => ?_)
  refine x_istore_n (lv' := [(3, .int v1), (0, .ref (g.1 82)), (1, .int a1), (2, .int a2)]) rfl dX7_drag_9 (by decide) rfl ?_
  refine x_iload_n (q := 0) rfl rfl dX7_drag_10 ?_
  refine x_iconst (v := (1)) (by decide) dX7_drag_11 ?_
  refine x_icmp_ne (tgt := 20) dX7_drag_12 (by decide) ?_ ?_
  · refine x_iload_n (q := 0) rfl rfl dX7_drag_20 ?_
    refine x_iconst (v := (2)) (by decide) dX7_drag_21 ?_
    refine x_icmp_ne (tgt := 30) dX7_drag_22 (by decide) ?_ ?_
    · refine x_iload_n (q := 0) rfl rfl dX7_drag_30 ?_
      refine x_iconst (v := (3)) (by decide) dX7_drag_31 ?_
      refine x_icmp_ne (tgt := 39) dX7_drag_32 (by decide) ?_ ?_
      · refine x_iconst (v := (2)) (by decide) dX7_drag_39 ?_
        refine x_sub [1, 2, 0] rfl ?_
        exact s_X7_drag_j1 a1 a2 im v1 2
      · refine x_iconst (v := (4)) (by decide) dX7_drag_35 ?_
        refine x_goto (tgt := 40) dX7_drag_36 (by decide) ?_
        refine x_sub [1, 2, 0] rfl ?_
        exact s_X7_drag_j1 a1 a2 im v1 4
    · refine x_bipush (v := (30)) (by decide) dX7_drag_25 ?_
      refine x_goto (tgt := 40) dX7_drag_27 (by decide) ?_
      refine x_sub [1, 2, 0] rfl ?_
      exact s_X7_drag_j1 a1 a2 im v1 30
  · refine x_bipush (v := (12)) (by decide) dX7_drag_15 ?_
    refine x_goto (tgt := 40) dX7_drag_17 (by decide) ?_
    refine x_sub [1, 2, 0] rfl ?_
    exact s_X7_drag_j1 a1 a2 im v1 12
theorem m_X7_drag {g : GX}   (a1 : Int32) (a2 : Int32) (im : IM) (r : Int32) (hr : f_X7_drag a1 a2 im = some r) : xMet g 2 yX7_drag cX7_drag 5 (some .int) [.ref (g.1 82), .int a1, .int a2] im ((eR im) r) := x_met (by decide) (Nat.le_of_ble_eq_true rfl) rfl (s_X7_drag a1 a2 im) r hr
abbrev md_X7_top : xM := (2, 3, RX7, cX7_top, (some .int))
def f_X7_top_j1 (a1 : Int32)   (im : IM) : Option (Int32) :=
  some 30
set_option maxRecDepth 20000 in
set_option maxHeartbeats 4000000 in
theorem s_X7_top_j1 {g : GX} (a1 : Int32)   (im : IM)    : X g md_X7_top (eR im) 17 [] [] im (f_X7_top_j1 a1 im) := by
  refine x_bipush (v := (30)) (by decide) dX7_top_17 ?_
  refine x_goto (tgt := 58) dX7_top_19 (by decide) ?_
  exact x_iret rfl rfl dX7_top_58
def f_X7_top_j2 (a1 : Int32)   (im : IM) : Option (Int32) :=
  (f_X7_its a1 3 im).bind fun r2 =>
  some (40 - (3 * r2))
set_option maxRecDepth 20000 in
set_option maxHeartbeats 4000000 in
theorem s_X7_top_j2 {g : GX} (a1 : Int32)   (im : IM)    : X g md_X7_top (eR im) 42 [(0, .ref (g.1 82)), (1, .int a1)] [] im (f_X7_top_j2 a1 im) := by
  refine x_bipush (v := (40)) (by decide) dX7_top_42 ?_
  refine x_iconst (v := (3)) (by decide) dX7_top_44 ?_
  refine x_aload_n (q := 0) rfl rfl dX7_top_45 ?_
  refine x_iload_n (q := 1) rfl rfl dX7_top_46 ?_
  refine x_iconst (v := (3)) (by decide) dX7_top_47 ?_
  refine x_bind (fun r2 er2 => ?_)
  refine x_callVR (av := [.int a1, .int 3]) (st := [.int 3, .int 40]) (m_X7_its  a1 3 im r2 er2) sh_82 (by decide) rfl rfl (by decide) (by decide) lk_X7_89 cd_X7_its xd_X7_its rfl (Nat.le_of_ble_eq_true rfl) dX7_top_48 ?_
  refine x_imul dX7_top_51 ?_
  refine x_isub dX7_top_52 ?_
  refine x_goto (tgt := 58) dX7_top_53 (by decide) ?_
  exact x_iret rfl rfl dX7_top_58
def f_X7_top (a1 : Int32) (im : IM) : Option (Int32) :=
  (f_X7_its a1 0 im).bind fun r1 =>
  if r1 = 1 then
    f_X7_top_j1 a1 im
  else
    if r1 = 5 then
      f_X7_top_j1 a1 im
    else
      if r1 = 3 then
        some 55
      else
        if r1 = 2 then
          f_X7_top_j2 a1 im
        else
          if r1 = 4 then
            f_X7_top_j2 a1 im
          else
            some 40
set_option maxRecDepth 20000 in
set_option maxHeartbeats 4000000 in
theorem s_X7_top {g : GX}  (a1 : Int32) (im : IM) : X g md_X7_top (eR im) 0 [(0, .ref (g.1 82)), (1, .int a1)] [] im (f_X7_top a1 im) := by
  refine x_aload_n (q := 0) rfl rfl dX7_top_0 ?_
  refine x_iload_n (q := 1) rfl rfl dX7_top_1 ?_
  refine x_iconst (v := (0)) (by decide) dX7_top_2 ?_
  refine x_bind (fun r1 er1 => ?_)
  refine x_callVR (av := [.int a1, .int 0]) (st := []) (m_X7_its  a1 0 im r1 er1) sh_82 (by decide) rfl rfl (by decide) (by decide) lk_X7_89 cd_X7_its xd_X7_its rfl (Nat.le_of_ble_eq_true rfl) dX7_top_3 ?_
  refine x_istore_n (lv' := [(2, .int r1), (0, .ref (g.1 82)), (1, .int a1)]) rfl dX7_top_6 (by decide) rfl ?_
  refine x_iload_n (q := 0) rfl rfl dX7_top_7 ?_
  refine x_iconst (v := (1)) (by decide) dX7_top_8 ?_
  refine x_icmp_eq (tgt := 17) dX7_top_9 (by decide) ?_ ?_
  · refine x_sub [] rfl ?_
    exact s_X7_top_j1 a1 im
  · refine x_iload_n (q := 0) rfl rfl dX7_top_12 ?_
    refine x_iconst (v := (5)) (by decide) dX7_top_13 ?_
    refine x_icmp_ne (tgt := 22) dX7_top_14 (by decide) ?_ ?_
    · refine x_iload_n (q := 0) rfl rfl dX7_top_22 ?_
      refine x_iconst (v := (3)) (by decide) dX7_top_23 ?_
      refine x_icmp_ne (tgt := 32) dX7_top_24 (by decide) ?_ ?_
      · refine x_iload_n (q := 0) rfl rfl dX7_top_32 ?_
        refine x_iconst (v := (2)) (by decide) dX7_top_33 ?_
        refine x_icmp_eq (tgt := 42) dX7_top_34 (by decide) ?_ ?_
        · refine x_sub [1, 2] rfl ?_
          exact s_X7_top_j2 a1 im
        · refine x_iload_n (q := 0) rfl rfl dX7_top_37 ?_
          refine x_iconst (v := (4)) (by decide) dX7_top_38 ?_
          refine x_icmp_ne (tgt := 56) dX7_top_39 (by decide) ?_ ?_
          · refine x_bipush (v := (40)) (by decide) dX7_top_56 ?_
            exact x_iret rfl rfl dX7_top_58
          · refine x_sub [1, 2] rfl ?_
            exact s_X7_top_j2 a1 im
      · refine x_bipush (v := (55)) (by decide) dX7_top_27 ?_
        refine x_goto (tgt := 58) dX7_top_29 (by decide) ?_
        exact x_iret rfl rfl dX7_top_58
    · refine x_sub [] rfl ?_
      exact s_X7_top_j1 a1 im
theorem m_X7_top {g : GX}  (a1 : Int32) (im : IM) (r : Int32) (hr : f_X7_top a1 im = some r) : xMet g 2 yX7_top cX7_top 3 (some .int) [.ref (g.1 82), .int a1] im ((eR im) r) := x_met (by decide) (Nat.le_of_ble_eq_true rfl) rfl (s_X7_top a1 im) r hr
abbrev md_X7_of : xM := (3, 3, RX7, cX7_of, (some .int))
def f_X7_of_j1 (a1 : Int32) (a2 : Int32)   (im : IM) : Option (Int32 × IM) :=
  (f_X7_finds ((-1000001)) im).bind fun r1 =>
  some ((r1.1, r1.2))
set_option maxRecDepth 20000 in
set_option maxHeartbeats 4000000 in
theorem s_X7_of_j1 {g : GX} (a1 : Int32) (a2 : Int32)      (im : IM) : X g md_X7_of eI 20 [(0, .ref (g.1 82))] [] im (f_X7_of_j1 a1 a2 im) := by
  refine x_aload_n (q := 0) rfl rfl dX7_of_20 ?_
  refine x_ldc co_X7_43 dX7_of_21 ?_
  refine x_bind (fun r1 er1 => ?_)
  refine x_callVI (av := [.int ((-1000001))]) (st := []) (m_X7_finds  (((-1000001))) im r1 er1) sh_82 (by decide) rfl rfl (by decide) (by decide) lk_X7_59 cd_X7_finds xd_X7_finds rfl (Nat.le_of_ble_eq_true rfl) dX7_of_23 ?_
  exact x_iret rfl rfl dX7_of_26
def f_X7_of (a1 : Int32) (a2 : Int32) (im : IM) : Option (Int32 × IM) :=
  if (f_X7_isThing a1 im) = 0 then
    f_X7_of_j1 a1 a2 im
  else
    if (f_X7_in a2.toInt64 0 8) = 0 then
      f_X7_of_j1 a1 a2 im
    else
      if 8 ≤ a2 then
        (f_X7_top a1 im).bind fun r2 =>
        some ((r2, im))
      else
        (f_X7_its a1 a2 im).bind fun r3 =>
        some ((r3, im))
set_option maxRecDepth 20000 in
set_option maxHeartbeats 4000000 in
theorem s_X7_of {g : GX}   (a1 : Int32) (a2 : Int32) (im : IM) : X g md_X7_of eI 0 [(0, .ref (g.1 82)), (1, .int a1), (2, .int a2)] [] im (f_X7_of a1 a2 im) := by
  refine x_aload_n (q := 0) rfl rfl dX7_of_0 ?_
  refine x_iload_n (q := 1) rfl rfl dX7_of_1 ?_
  refine x_callVR (av := [.int a1]) (st := []) (m_X7_isThing  a1 im) sh_82 (by decide) rfl rfl (by decide) (by decide) lk_X7_92 cd_X7_isThing xd_X7_isThing rfl (Nat.le_of_ble_eq_true rfl) dX7_of_2 ?_
  refine x_if_eq (tgt := 20) dX7_of_5 (by decide) ?_ ?_
  · refine x_sub [0] rfl ?_
    exact s_X7_of_j1 a1 a2 im
  · refine x_iload_n (q := 2) rfl rfl dX7_of_8 ?_
    refine x_i2l dX7_of_9 ?_
    refine x_lconst (v := (0)) (by decide) dX7_of_10 ?_
    refine x_ldc2 cl_X7_95 dX7_of_11 ?_
    refine x_callSR (av := [.long a2.toInt64, .long 0, .long 8]) (st := []) (m_X7_in  a2.toInt64 0 8 im) rfl (by decide) (by decide) lk_X7_46 cd_X7_in xd_X7_in rfl (Nat.le_of_ble_eq_true rfl) dX7_of_14 ?_
    refine x_if_ne (tgt := 27) dX7_of_17 (by decide) ?_ ?_
    · refine x_iload_n (q := 2) rfl rfl dX7_of_27 ?_
      refine x_bipush (v := (8)) (by decide) dX7_of_28 ?_
      refine x_icmp_ge (tgt := 42) dX7_of_30 (by decide) ?_ ?_
      · refine x_aload_n (q := 0) rfl rfl dX7_of_42 ?_
        refine x_iload_n (q := 1) rfl rfl dX7_of_43 ?_
        refine x_bind (fun r2 er2 => ?_)
        refine x_callVR (av := [.int a1]) (st := []) (m_X7_top  a1 im r2 er2) sh_82 (by decide) rfl rfl (by decide) (by decide) lk_X7_97 cd_X7_top xd_X7_top rfl (Nat.le_of_ble_eq_true rfl) dX7_of_44 ?_
        exact x_iret rfl rfl dX7_of_47
      · refine x_aload_n (q := 0) rfl rfl dX7_of_33 ?_
        refine x_iload_n (q := 1) rfl rfl dX7_of_34 ?_
        refine x_iload_n (q := 2) rfl rfl dX7_of_35 ?_
        refine x_bind (fun r3 er3 => ?_)
        refine x_callVR (av := [.int a1, .int a2]) (st := []) (m_X7_its  a1 a2 im r3 er3) sh_82 (by decide) rfl rfl (by decide) (by decide) lk_X7_89 cd_X7_its xd_X7_its rfl (Nat.le_of_ble_eq_true rfl) dX7_of_36 ?_
        refine x_goto (tgt := 47) dX7_of_39 (by decide) ?_
        exact x_iret rfl rfl dX7_of_47
    · refine x_sub [0] rfl ?_
      exact s_X7_of_j1 a1 a2 im
theorem m_X7_of {g : GX}   (a1 : Int32) (a2 : Int32) (im : IM) (r : Int32 × IM) (hr : f_X7_of a1 a2 im = some r) : xMet g 3 yX7_of cX7_of 3 (some .int) [.ref (g.1 82), .int a1, .int a2] im (eI r) := x_met (by decide) (Nat.le_of_ble_eq_true rfl) rfl (s_X7_of a1 a2 im) r hr
abbrev md_X7_change : xM := (2, 5, RX7, cX7_change, (some .int))
def f_X7_change_j1 (a1 : Int32) (a2 : Int32) (a3 : Int32)   (im : IM) : Option (Int32 × IM) :=
  (f_X7_finds ((-1000001)) im).bind fun r1 =>
  some ((r1.1, r1.2))
set_option maxRecDepth 20000 in
set_option maxHeartbeats 4000000 in
theorem s_X7_change_j1 {g : GX} (a1 : Int32) (a2 : Int32) (a3 : Int32)      (im : IM) : X g md_X7_change eI 16 [(0, .ref (g.1 82))] [] im (f_X7_change_j1 a1 a2 a3 im) := by
  refine x_aload_n (q := 0) rfl rfl dX7_change_16 ?_
  refine x_ldc co_X7_43 dX7_change_17 ?_
  refine x_bind (fun r1 er1 => ?_)
  refine x_callVI (av := [.int ((-1000001))]) (st := []) (m_X7_finds  (((-1000001))) im r1 er1) sh_82 (by decide) rfl rfl (by decide) (by decide) lk_X7_59 cd_X7_finds xd_X7_finds rfl (Nat.le_of_ble_eq_true rfl) dX7_change_19 ?_
  exact x_iret rfl rfl dX7_change_22
def f_X7_change (a1 : Int32) (a2 : Int32) (a3 : Int32) (im : IM) : Option (Int32 × IM) :=
  if (f_X7_isThing a1 im) = 0 then
    f_X7_change_j1 a1 a2 a3 im
  else
    if (f_X7_isPart a2 a3) = 0 then
      f_X7_change_j1 a1 a2 a3 im
    else
      (f_X7_its a1 a2 im).bind fun r2 =>
      if inb (f_X7_at a1 a2) 167 = true then
        bnd (up im 83 (ix (f_X7_at a1 a2)) a3) fun m3 =>
        some ((r2, m3))
      else none
set_option maxRecDepth 20000 in
set_option maxHeartbeats 4000000 in
theorem s_X7_change {g : GX}    (a1 : Int32) (a2 : Int32) (a3 : Int32) (im : IM) : X g md_X7_change eI 0 [(0, .ref (g.1 82)), (1, .int a1), (2, .int a2), (3, .int a3)] [] im (f_X7_change a1 a2 a3 im) := by
  refine x_aload_n (q := 0) rfl rfl dX7_change_0 ?_
  refine x_iload_n (q := 1) rfl rfl dX7_change_1 ?_
  refine x_callVR (av := [.int a1]) (st := []) (m_X7_isThing  a1 im) sh_82 (by decide) rfl rfl (by decide) (by decide) lk_X7_92 cd_X7_isThing xd_X7_isThing rfl (Nat.le_of_ble_eq_true rfl) dX7_change_2 ?_
  refine x_if_eq (tgt := 16) dX7_change_5 (by decide) ?_ ?_
  · refine x_sub [0] rfl ?_
    exact s_X7_change_j1 a1 a2 a3 im
  · refine x_iload_n (q := 2) rfl rfl dX7_change_8 ?_
    refine x_iload_n (q := 3) rfl rfl dX7_change_9 ?_
    refine x_callSR (av := [.int a2, .int a3]) (st := []) (m_X7_isPart  a2 a3 im) rfl (by decide) (by decide) lk_X7_80 cd_X7_isPart xd_X7_isPart rfl (Nat.le_of_ble_eq_true rfl) dX7_change_10 ?_
    refine x_if_ne (tgt := 23) dX7_change_13 (by decide) ?_ ?_
    · refine x_aload_n (q := 0) rfl rfl dX7_change_23 ?_
      refine x_iload_n (q := 1) rfl rfl dX7_change_24 ?_
      refine x_iload_n (q := 2) rfl rfl dX7_change_25 ?_
      refine x_bind (fun r2 er2 => ?_)
      refine x_callVR (av := [.int a1, .int a2]) (st := []) (m_X7_its  a1 a2 im r2 er2) sh_82 (by decide) rfl rfl (by decide) (by decide) lk_X7_89 cd_X7_its xd_X7_its rfl (Nat.le_of_ble_eq_true rfl) dX7_change_26 ?_
      refine x_istore (lv' := [(4, .int r2), (0, .ref (g.1 82)), (1, .int a1), (2, .int a2), (3, .int a3)]) dX7_change_29 (by decide) rfl ?_
      refine x_aload_n (q := 1) rfl rfl dX7_change_31 ?_
      refine x_get (C := RX7) (T := TX7) sh_82 (by decide) rfl in_X7 0 (by decide) fl_X7_7 xf_7_0 dX7_change_32 ?_
      refine x_iload_n (q := 2) rfl rfl dX7_change_35 ?_
      refine x_iload_n (q := 3) rfl rfl dX7_change_36 ?_
      refine x_callSR (av := [.int a1, .int a2]) (st := [.ref (g.1 83)]) (m_X7_at  a1 a2 im) rfl (by decide) (by decide) lk_X7_72 cd_X7_at xd_X7_at rfl (Nat.le_of_ble_eq_true rfl) dX7_change_37 ?_
      refine x_iload_n (q := 4) rfl rfl dX7_change_40 ?_
      refine x_iast sh_83 dX7_change_41 ?_
      refine x_bm (fun m3 => ?_)
      refine x_iload (q := 0) rfl dX7_change_42 ?_
      exact x_iret rfl rfl dX7_change_44
    · refine x_sub [0] rfl ?_
      exact s_X7_change_j1 a1 a2 a3 im
theorem m_X7_change {g : GX}    (a1 : Int32) (a2 : Int32) (a3 : Int32) (im : IM) (r : Int32 × IM) (hr : f_X7_change a1 a2 a3 im = some r) : xMet g 2 yX7_change cX7_change 5 (some .int) [.ref (g.1 82), .int a1, .int a2, .int a3] im (eI r) := x_met (by decide) (Nat.le_of_ble_eq_true rfl) rfl (s_X7_change a1 a2 a3 im) r hr
abbrev md_X7_told : xM := (3, 4, RX7, cX7_told, (some .int))
def f_X7_told_j1 (a1 : Int32) (a2 : Int32) (a3 : Int32)   (im : IM) : Option (Int32 × IM) :=
  (f_X7_finds ((-1000001)) im).bind fun r1 =>
  some ((r1.1, r1.2))
set_option maxRecDepth 20000 in
set_option maxHeartbeats 4000000 in
theorem s_X7_told_j1 {g : GX} (a1 : Int32) (a2 : Int32) (a3 : Int32)      (im : IM) : X g md_X7_told eI 25 [(0, .ref (g.1 82))] [] im (f_X7_told_j1 a1 a2 a3 im) := by
  refine x_aload_n (q := 0) rfl rfl dX7_told_25 ?_
  refine x_ldc co_X7_43 dX7_told_26 ?_
  refine x_bind (fun r1 er1 => ?_)
  refine x_callVI (av := [.int ((-1000001))]) (st := []) (m_X7_finds  (((-1000001))) im r1 er1) sh_82 (by decide) rfl rfl (by decide) (by decide) lk_X7_59 cd_X7_finds xd_X7_finds rfl (Nat.le_of_ble_eq_true rfl) dX7_told_28 ?_
  exact x_iret rfl rfl dX7_told_31
def f_X7_told (a1 : Int32) (a2 : Int32) (a3 : Int32) (im : IM) : Option (Int32 × IM) :=
  if (f_X7_isThing a1 im) = 0 then
    f_X7_told_j1 a1 a2 a3 im
  else
    if (f_X7_in a2.toInt64 0 1) = 0 then
      f_X7_told_j1 a1 a2 a3 im
    else
      if (f_X7_isCell a3) = 0 then
        f_X7_told_j1 a1 a2 a3 im
      else
        if a2 = 0 then
          (f_X7_gain a1 a3 im).bind fun r3 =>
          some ((r3, im))
        else
          (f_X7_drag a1 a3 im).bind fun r2 =>
          some ((r2, im))
set_option maxRecDepth 20000 in
set_option maxHeartbeats 4000000 in
theorem s_X7_told {g : GX}    (a1 : Int32) (a2 : Int32) (a3 : Int32) (im : IM) : X g md_X7_told eI 0 [(0, .ref (g.1 82)), (1, .int a1), (2, .int a2), (3, .int a3)] [] im (f_X7_told a1 a2 a3 im) := by
  refine x_aload_n (q := 0) rfl rfl dX7_told_0 ?_
  refine x_iload_n (q := 1) rfl rfl dX7_told_1 ?_
  refine x_callVR (av := [.int a1]) (st := []) (m_X7_isThing  a1 im) sh_82 (by decide) rfl rfl (by decide) (by decide) lk_X7_92 cd_X7_isThing xd_X7_isThing rfl (Nat.le_of_ble_eq_true rfl) dX7_told_2 ?_
  refine x_if_eq (tgt := 25) dX7_told_5 (by decide) ?_ ?_
  · refine x_sub [0] rfl ?_
    exact s_X7_told_j1 a1 a2 a3 im
  · refine x_iload_n (q := 2) rfl rfl dX7_told_8 ?_
    refine x_i2l dX7_told_9 ?_
    refine x_lconst (v := (0)) (by decide) dX7_told_10 ?_
    refine x_lconst (v := (1)) (by decide) dX7_told_11 ?_
    refine x_callSR (av := [.long a2.toInt64, .long 0, .long 1]) (st := []) (m_X7_in  a2.toInt64 0 1 im) rfl (by decide) (by decide) lk_X7_46 cd_X7_in xd_X7_in rfl (Nat.le_of_ble_eq_true rfl) dX7_told_12 ?_
    refine x_if_eq (tgt := 25) dX7_told_15 (by decide) ?_ ?_
    · refine x_sub [0] rfl ?_
      exact s_X7_told_j1 a1 a2 a3 im
    · refine x_iload_n (q := 3) rfl rfl dX7_told_18 ?_
      refine x_callSR (av := [.int a3]) (st := []) (m_X7_isCell  a3 im) rfl (by decide) (by decide) lk_X7_51 cd_X7_isCell xd_X7_isCell rfl (Nat.le_of_ble_eq_true rfl) dX7_told_19 ?_
      refine x_if_ne (tgt := 32) dX7_told_22 (by decide) ?_ ?_
      · refine x_iload_n (q := 2) rfl rfl dX7_told_32 ?_
        refine x_if_ne (tgt := 45) dX7_told_33 (by decide) ?_ ?_
        · refine x_aload_n (q := 0) rfl rfl dX7_told_45 ?_
          refine x_iload_n (q := 1) rfl rfl dX7_told_46 ?_
          refine x_iload_n (q := 3) rfl rfl dX7_told_47 ?_
          refine x_bind (fun r2 er2 => ?_)
          refine x_callVR (av := [.int a1, .int a3]) (st := []) (m_X7_drag  a1 a3 im r2 er2) sh_82 (by decide) rfl rfl (by decide) (by decide) lk_X7_103 cd_X7_drag xd_X7_drag rfl (Nat.le_of_ble_eq_true rfl) dX7_told_48 ?_
          exact x_iret rfl rfl dX7_told_51
        · refine x_aload_n (q := 0) rfl rfl dX7_told_36 ?_
          refine x_iload_n (q := 1) rfl rfl dX7_told_37 ?_
          refine x_iload_n (q := 3) rfl rfl dX7_told_38 ?_
          refine x_bind (fun r3 er3 => ?_)
          refine x_callVR (av := [.int a1, .int a3]) (st := []) (m_X7_gain  a1 a3 im r3 er3) sh_82 (by decide) rfl rfl (by decide) (by decide) lk_X7_100 cd_X7_gain xd_X7_gain rfl (Nat.le_of_ble_eq_true rfl) dX7_told_39 ?_
          refine x_goto (tgt := 51) dX7_told_42 (by decide) ?_
          exact x_iret rfl rfl dX7_told_51
      · refine x_sub [0] rfl ?_
        exact s_X7_told_j1 a1 a2 a3 im
theorem m_X7_told {g : GX}    (a1 : Int32) (a2 : Int32) (a3 : Int32) (im : IM) (r : Int32 × IM) (hr : f_X7_told a1 a2 a3 im = some r) : xMet g 3 yX7_told cX7_told 4 (some .int) [.ref (g.1 82), .int a1, .int a2, .int a3] im (eI r) := x_met (by decide) (Nat.le_of_ble_eq_true rfl) rfl (s_X7_told a1 a2 a3 im) r hr
abbrev md_X7_isReady : xM := (2, 2, RX7, cX7_isReady, (some .boolean))
def f_X7_isReady_j1 (a1 : Int32)   (im : IM) : Option (Int32) :=
  some 0
set_option maxRecDepth 20000 in
set_option maxHeartbeats 4000000 in
theorem s_X7_isReady_j1 {g : GX} (a1 : Int32)   (im : IM)    : X g md_X7_isReady (eR im) 25 [] [] im (f_X7_isReady_j1 a1 im) := by
  refine x_iconst (v := (0)) (by decide) dX7_isReady_25 ?_
  exact x_nret (y := 0) rfl rfl (by decide) dX7_isReady_26
def f_X7_isReady (a1 : Int32) (im : IM) : Option (Int32) :=
  (f_X7_its a1 6 im).bind fun r1 =>
  if r1 = 0 then
    (f_X7_its a1 4 im).bind fun r2 =>
    if 30 ≤ r2 then
      f_X7_isReady_j1 a1 im
    else
      some 1
  else
    f_X7_isReady_j1 a1 im
set_option maxRecDepth 20000 in
set_option maxHeartbeats 4000000 in
theorem s_X7_isReady {g : GX}  (a1 : Int32) (im : IM) : X g md_X7_isReady (eR im) 0 [(0, .ref (g.1 82)), (1, .int a1)] [] im (f_X7_isReady a1 im) := by
  refine x_aload_n (q := 0) rfl rfl dX7_isReady_0 ?_
  refine x_iload_n (q := 1) rfl rfl dX7_isReady_1 ?_
  refine x_bipush (v := (6)) (by decide) dX7_isReady_2 ?_
  refine x_bind (fun r1 er1 => ?_)
  refine x_callVR (av := [.int a1, .int 6]) (st := []) (m_X7_its  a1 6 im r1 er1) sh_82 (by decide) rfl rfl (by decide) (by decide) lk_X7_89 cd_X7_its xd_X7_its rfl (Nat.le_of_ble_eq_true rfl) dX7_isReady_4 ?_
  refine x_if_ne (tgt := 25) dX7_isReady_7 (by decide) ?_ ?_
  · refine x_sub [] rfl ?_
    exact s_X7_isReady_j1 a1 im
  · refine x_aload_n (q := 0) rfl rfl dX7_isReady_10 ?_
    refine x_iload_n (q := 1) rfl rfl dX7_isReady_11 ?_
    refine x_iconst (v := (4)) (by decide) dX7_isReady_12 ?_
    refine x_bind (fun r2 er2 => ?_)
    refine x_callVR (av := [.int a1, .int 4]) (st := []) (m_X7_its  a1 4 im r2 er2) sh_82 (by decide) rfl rfl (by decide) (by decide) lk_X7_89 cd_X7_its xd_X7_its rfl (Nat.le_of_ble_eq_true rfl) dX7_isReady_13 ?_
    refine x_bipush (v := (30)) (by decide) dX7_isReady_16 ?_
    refine x_icmp_ge (tgt := 25) dX7_isReady_18 (by decide) ?_ ?_
    · refine x_sub [] rfl ?_
      exact s_X7_isReady_j1 a1 im
    · refine x_iconst (v := (1)) (by decide) dX7_isReady_21 ?_
      refine x_goto (tgt := 26) dX7_isReady_22 (by decide) ?_
      exact x_nret (y := 1) rfl rfl (by decide) dX7_isReady_26
theorem m_X7_isReady {g : GX}  (a1 : Int32) (im : IM) (r : Int32) (hr : f_X7_isReady a1 im = some r) : xMet g 2 yX7_isReady cX7_isReady 2 (some .boolean) [.ref (g.1 82), .int a1] im ((eR im) r) := x_met (by decide) (Nat.le_of_ble_eq_true rfl) rfl (s_X7_isReady a1 im) r hr
abbrev md_X7_letsGo : xM := (1, 3, RX7, cX7_letsGo, none)
def f_X7_letsGo (a1 : Int32) (a2 : Int32) (im : IM) : Option (IM) :=
  if inb (f_X7_at a1 6) 167 = true then
    bnd (up im 83 (ix (f_X7_at a1 6)) 1) fun m1 =>
    if inb (f_X7_at a1 5) 167 = true then
      bnd (up m1 83 (ix (f_X7_at a1 5)) a2) fun m2 =>
      some m2
    else none
  else none
set_option maxRecDepth 20000 in
set_option maxHeartbeats 4000000 in
theorem s_X7_letsGo {g : GX}   (a1 : Int32) (a2 : Int32) (im : IM) : X g md_X7_letsGo eV 0 [(0, .ref (g.1 82)), (1, .int a1), (2, .int a2)] [] im (f_X7_letsGo a1 a2 im) := by
  refine x_aload_n (q := 0) rfl rfl dX7_letsGo_0 ?_
  refine x_get (C := RX7) (T := TX7) sh_82 (by decide) rfl in_X7 0 (by decide) fl_X7_7 xf_7_0 dX7_letsGo_1 ?_
  refine x_iload_n (q := 1) rfl rfl dX7_letsGo_4 ?_
  refine x_bipush (v := (6)) (by decide) dX7_letsGo_5 ?_
  refine x_callSR (av := [.int a1, .int 6]) (st := [.ref (g.1 83)]) (m_X7_at  a1 6 im) rfl (by decide) (by decide) lk_X7_72 cd_X7_at xd_X7_at rfl (Nat.le_of_ble_eq_true rfl) dX7_letsGo_7 ?_
  refine x_iconst (v := (1)) (by decide) dX7_letsGo_10 ?_
  refine x_iast sh_83 dX7_letsGo_11 ?_
  refine x_bm (fun m1 => ?_)
  refine x_aload_n (q := 0) rfl rfl dX7_letsGo_12 ?_
  refine x_get (C := RX7) (T := TX7) sh_82 (by decide) rfl in_X7 0 (by decide) fl_X7_7 xf_7_0 dX7_letsGo_13 ?_
  refine x_iload_n (q := 1) rfl rfl dX7_letsGo_16 ?_
  refine x_iconst (v := (5)) (by decide) dX7_letsGo_17 ?_
  refine x_callSR (av := [.int a1, .int 5]) (st := [.ref (g.1 83)]) (m_X7_at  a1 5 m1) rfl (by decide) (by decide) lk_X7_72 cd_X7_at xd_X7_at rfl (Nat.le_of_ble_eq_true rfl) dX7_letsGo_18 ?_
  refine x_iload_n (q := 2) rfl rfl dX7_letsGo_21 ?_
  refine x_iast sh_83 dX7_letsGo_22 ?_
  refine x_bm (fun m2 => ?_)
  exact x_vret rfl rfl dX7_letsGo_23
theorem m_X7_letsGo {g : GX}   (a1 : Int32) (a2 : Int32) (im : IM) (r : IM) (hr : f_X7_letsGo a1 a2 im = some r) : xMet g 1 yX7_letsGo cX7_letsGo 3 none [.ref (g.1 82), .int a1, .int a2] im (eV r) := x_met (by decide) (Nat.le_of_ble_eq_true rfl) rfl (s_X7_letsGo a1 a2 im) r hr
abbrev md_X7_go : xM := (3, 2, RX7, cX7_go, (some .int))
def f_X7_go (a1 : Int32) (im : IM) : Option (Int32 × IM) :=
  if (f_X7_isThing a1 im) = 0 then
    (f_X7_finds ((-1000001)) im).bind fun r5 =>
    some ((r5.1, r5.2))
  else
    (f_X7_isReady a1 im).bind fun r1 =>
    if r1 = 0 then
      (f_X7_finds ((-1000005)) im).bind fun r4 =>
      some ((r4.1, r4.2))
    else
      (f_X7_letsGo a1 10 im).bind fun r2 =>
      (f_X7_its a1 4 r2).bind fun r3 =>
      some ((r3, r2))
set_option maxRecDepth 20000 in
set_option maxHeartbeats 4000000 in
theorem s_X7_go {g : GX}  (a1 : Int32) (im : IM) : X g md_X7_go eI 0 [(0, .ref (g.1 82)), (1, .int a1)] [] im (f_X7_go a1 im) := by
  refine x_aload_n (q := 0) rfl rfl dX7_go_0 ?_
  refine x_iload_n (q := 1) rfl rfl dX7_go_1 ?_
  refine x_callVR (av := [.int a1]) (st := []) (m_X7_isThing  a1 im) sh_82 (by decide) rfl rfl (by decide) (by decide) lk_X7_92 cd_X7_isThing xd_X7_isThing rfl (Nat.le_of_ble_eq_true rfl) dX7_go_2 ?_
  refine x_if_ne (tgt := 15) dX7_go_5 (by decide) ?_ ?_
  · refine x_aload_n (q := 0) rfl rfl dX7_go_15 ?_
    refine x_iload_n (q := 1) rfl rfl dX7_go_16 ?_
    refine x_bind (fun r1 er1 => ?_)
    refine x_callVR (av := [.int a1]) (st := []) (m_X7_isReady  a1 im r1 er1) sh_82 (by decide) rfl rfl (by decide) (by decide) lk_X7_106 cd_X7_isReady xd_X7_isReady rfl (Nat.le_of_ble_eq_true rfl) dX7_go_17 ?_
    refine x_if_ne (tgt := 30) dX7_go_20 (by decide) ?_ ?_
    · refine x_aload_n (q := 0) rfl rfl dX7_go_30 ?_
      refine x_iload_n (q := 1) rfl rfl dX7_go_31 ?_
      refine x_bipush (v := (10)) (by decide) dX7_go_32 ?_
      refine x_bind (fun r2 er2 => ?_)
      refine x_callVV (av := [.int a1, .int 10]) (st := []) (m_X7_letsGo  a1 10 im r2 er2) sh_82 (by decide) rfl rfl (by decide) (by decide) lk_X7_110 cd_X7_letsGo xd_X7_letsGo rfl (Nat.le_of_ble_eq_true rfl) dX7_go_34 ?_
      refine x_aload_n (q := 0) rfl rfl dX7_go_37 ?_
      refine x_iload_n (q := 1) rfl rfl dX7_go_38 ?_
      refine x_iconst (v := (4)) (by decide) dX7_go_39 ?_
      refine x_bind (fun r3 er3 => ?_)
      refine x_callVR (av := [.int a1, .int 4]) (st := []) (m_X7_its  a1 4 r2 r3 er3) sh_82 (by decide) rfl rfl (by decide) (by decide) lk_X7_89 cd_X7_its xd_X7_its rfl (Nat.le_of_ble_eq_true rfl) dX7_go_40 ?_
      exact x_iret rfl rfl dX7_go_43
    · refine x_aload_n (q := 0) rfl rfl dX7_go_23 ?_
      refine x_ldc co_X7_109 dX7_go_24 ?_
      refine x_bind (fun r4 er4 => ?_)
      refine x_callVI (av := [.int ((-1000005))]) (st := []) (m_X7_finds  (((-1000005))) im r4 er4) sh_82 (by decide) rfl rfl (by decide) (by decide) lk_X7_59 cd_X7_finds xd_X7_finds rfl (Nat.le_of_ble_eq_true rfl) dX7_go_26 ?_
      exact x_iret rfl rfl dX7_go_29
  · refine x_aload_n (q := 0) rfl rfl dX7_go_8 ?_
    refine x_ldc co_X7_43 dX7_go_9 ?_
    refine x_bind (fun r5 er5 => ?_)
    refine x_callVI (av := [.int ((-1000001))]) (st := []) (m_X7_finds  (((-1000001))) im r5 er5) sh_82 (by decide) rfl rfl (by decide) (by decide) lk_X7_59 cd_X7_finds xd_X7_finds rfl (Nat.le_of_ble_eq_true rfl) dX7_go_11 ?_
    exact x_iret rfl rfl dX7_go_14
theorem m_X7_go {g : GX}  (a1 : Int32) (im : IM) (r : Int32 × IM) (hr : f_X7_go a1 im = some r) : xMet g 3 yX7_go cX7_go 2 (some .int) [.ref (g.1 82), .int a1] im (eI r) := x_met (by decide) (Nat.le_of_ble_eq_true rfl) rfl (s_X7_go a1 im) r hr
abbrev md_X7_put : xM := (2, 4, RX7, cX7_put, (some .int))
def f_X7_put_j1 (a1 : Int32) (a2 : Int32)   (im : IM) : Option (Int32 × IM) :=
  (f_X7_finds ((-1000001)) im).bind fun r1 =>
  some ((r1.1, r1.2))
set_option maxRecDepth 20000 in
set_option maxHeartbeats 4000000 in
theorem s_X7_put_j1 {g : GX} (a1 : Int32) (a2 : Int32)      (im : IM) : X g md_X7_put eI 15 [(0, .ref (g.1 82))] [] im (f_X7_put_j1 a1 a2 im) := by
  refine x_aload_n (q := 0) rfl rfl dX7_put_15 ?_
  refine x_ldc co_X7_43 dX7_put_16 ?_
  refine x_bind (fun r1 er1 => ?_)
  refine x_callVI (av := [.int ((-1000001))]) (st := []) (m_X7_finds  (((-1000001))) im r1 er1) sh_82 (by decide) rfl rfl (by decide) (by decide) lk_X7_59 cd_X7_finds xd_X7_finds rfl (Nat.le_of_ble_eq_true rfl) dX7_put_18 ?_
  exact x_iret rfl rfl dX7_put_21
def f_X7_put (a1 : Int32) (a2 : Int32) (im : IM) : Option (Int32 × IM) :=
  if (f_X7_isThing a1 im) = 0 then
    f_X7_put_j1 a1 a2 im
  else
    if (f_X7_isCell a2) = 0 then
      f_X7_put_j1 a1 a2 im
    else
      (f_X7_its a1 4 im).bind fun r2 =>
      if inb (f_X7_at a1 4) 167 = true then
        bnd (up im 83 (ix (f_X7_at a1 4)) a2) fun m3 =>
        if inb (f_X7_at a1 5) 167 = true then
          bnd (up m3 83 (ix (f_X7_at a1 5)) 0) fun m4 =>
          if inb (f_X7_at a1 6) 167 = true then
            bnd (up m4 83 (ix (f_X7_at a1 6)) 0) fun m5 =>
            some ((r2, m5))
          else none
        else none
      else none
set_option maxRecDepth 20000 in
set_option maxHeartbeats 4000000 in
theorem s_X7_put {g : GX}   (a1 : Int32) (a2 : Int32) (im : IM) : X g md_X7_put eI 0 [(0, .ref (g.1 82)), (1, .int a1), (2, .int a2)] [] im (f_X7_put a1 a2 im) := by
  refine x_aload_n (q := 0) rfl rfl dX7_put_0 ?_
  refine x_iload_n (q := 1) rfl rfl dX7_put_1 ?_
  refine x_callVR (av := [.int a1]) (st := []) (m_X7_isThing  a1 im) sh_82 (by decide) rfl rfl (by decide) (by decide) lk_X7_92 cd_X7_isThing xd_X7_isThing rfl (Nat.le_of_ble_eq_true rfl) dX7_put_2 ?_
  refine x_if_eq (tgt := 15) dX7_put_5 (by decide) ?_ ?_
  · refine x_sub [0] rfl ?_
    exact s_X7_put_j1 a1 a2 im
  · refine x_iload_n (q := 2) rfl rfl dX7_put_8 ?_
    refine x_callSR (av := [.int a2]) (st := []) (m_X7_isCell  a2 im) rfl (by decide) (by decide) lk_X7_51 cd_X7_isCell xd_X7_isCell rfl (Nat.le_of_ble_eq_true rfl) dX7_put_9 ?_
    refine x_if_ne (tgt := 22) dX7_put_12 (by decide) ?_ ?_
    · refine x_aload_n (q := 0) rfl rfl dX7_put_22 ?_
      refine x_iload_n (q := 1) rfl rfl dX7_put_23 ?_
      refine x_iconst (v := (4)) (by decide) dX7_put_24 ?_
      refine x_bind (fun r2 er2 => ?_)
      refine x_callVR (av := [.int a1, .int 4]) (st := []) (m_X7_its  a1 4 im r2 er2) sh_82 (by decide) rfl rfl (by decide) (by decide) lk_X7_89 cd_X7_its xd_X7_its rfl (Nat.le_of_ble_eq_true rfl) dX7_put_25 ?_
      refine x_istore_n (lv' := [(3, .int r2), (0, .ref (g.1 82)), (1, .int a1), (2, .int a2)]) rfl dX7_put_28 (by decide) rfl ?_
      refine x_aload_n (q := 1) rfl rfl dX7_put_29 ?_
      refine x_get (C := RX7) (T := TX7) sh_82 (by decide) rfl in_X7 0 (by decide) fl_X7_7 xf_7_0 dX7_put_30 ?_
      refine x_iload_n (q := 2) rfl rfl dX7_put_33 ?_
      refine x_iconst (v := (4)) (by decide) dX7_put_34 ?_
      refine x_callSR (av := [.int a1, .int 4]) (st := [.ref (g.1 83)]) (m_X7_at  a1 4 im) rfl (by decide) (by decide) lk_X7_72 cd_X7_at xd_X7_at rfl (Nat.le_of_ble_eq_true rfl) dX7_put_35 ?_
      refine x_iload_n (q := 3) rfl rfl dX7_put_38 ?_
      refine x_iast sh_83 dX7_put_39 ?_
      refine x_bm (fun m3 => ?_)
      refine x_aload_n (q := 1) rfl rfl dX7_put_40 ?_
      refine x_get (C := RX7) (T := TX7) sh_82 (by decide) rfl in_X7 0 (by decide) fl_X7_7 xf_7_0 dX7_put_41 ?_
      refine x_iload_n (q := 2) rfl rfl dX7_put_44 ?_
      refine x_iconst (v := (5)) (by decide) dX7_put_45 ?_
      refine x_callSR (av := [.int a1, .int 5]) (st := [.ref (g.1 83)]) (m_X7_at  a1 5 m3) rfl (by decide) (by decide) lk_X7_72 cd_X7_at xd_X7_at rfl (Nat.le_of_ble_eq_true rfl) dX7_put_46 ?_
      refine x_iconst (v := (0)) (by decide) dX7_put_49 ?_
      refine x_iast sh_83 dX7_put_50 ?_
      refine x_bm (fun m4 => ?_)
      refine x_aload_n (q := 1) rfl rfl dX7_put_51 ?_
      refine x_get (C := RX7) (T := TX7) sh_82 (by decide) rfl in_X7 0 (by decide) fl_X7_7 xf_7_0 dX7_put_52 ?_
      refine x_iload_n (q := 2) rfl rfl dX7_put_55 ?_
      refine x_bipush (v := (6)) (by decide) dX7_put_56 ?_
      refine x_callSR (av := [.int a1, .int 6]) (st := [.ref (g.1 83)]) (m_X7_at  a1 6 m4) rfl (by decide) (by decide) lk_X7_72 cd_X7_at xd_X7_at rfl (Nat.le_of_ble_eq_true rfl) dX7_put_58 ?_
      refine x_iconst (v := (0)) (by decide) dX7_put_61 ?_
      refine x_iast sh_83 dX7_put_62 ?_
      refine x_bm (fun m5 => ?_)
      refine x_iload_n (q := 0) rfl rfl dX7_put_63 ?_
      exact x_iret rfl rfl dX7_put_64
    · refine x_sub [0] rfl ?_
      exact s_X7_put_j1 a1 a2 im
theorem m_X7_put {g : GX}   (a1 : Int32) (a2 : Int32) (im : IM) (r : Int32 × IM) (hr : f_X7_put a1 a2 im = some r) : xMet g 2 yX7_put cX7_put 4 (some .int) [.ref (g.1 82), .int a1, .int a2] im (eI r) := x_met (by decide) (Nat.le_of_ble_eq_true rfl) rfl (s_X7_put a1 a2 im) r hr
abbrev md_X7_rolls : xM := (3, 7, RX7, cX7_rolls, none)
def f_X7_rolls_j5 (a1 : Int32) (a2 : Int32)  (s0 : Int32) (s1 : Int32) (im : IM) : Option (IM) :=
  if inb s1 167 = true then
    bnd (up im 83 (ix s1) s0) fun m9 =>
    some m9
  else none
set_option maxRecDepth 20000 in
set_option maxHeartbeats 4000000 in
theorem s_X7_rolls_j5 {g : GX} (a1 : Int32) (a2 : Int32)    (s0 : Int32) (s1 : Int32)  (im : IM) : X g md_X7_rolls eV 209 [] [.int s0, .int s1, .ref (g.1 83)] im (f_X7_rolls_j5 a1 a2 s0 s1 im) := by
  refine x_iast sh_83 dX7_rolls_209 ?_
  refine x_bm (fun m9 => ?_)
  exact x_vret rfl rfl dX7_rolls_210
def f_X7_rolls_j4 (a1 : Int32) (a2 : Int32)  (x5 : Int32) (s0 : Int32) (im : IM) : Option (IM) :=
  f_X7_rolls_j5 a1 a2 x5 s0 im
set_option maxRecDepth 20000 in
set_option maxHeartbeats 4000000 in
theorem s_X7_rolls_j4 {g : GX} (a1 : Int32) (a2 : Int32)    (x5 : Int32) (s0 : Int32)  (im : IM) : X g md_X7_rolls eV 207 [(5, .int x5)] [.int s0, .ref (g.1 83)] im (f_X7_rolls_j4 a1 a2 x5 s0 im) := by
  refine x_iload (q := 0) rfl dX7_rolls_207 ?_
  refine x_sub [] rfl ?_
  exact s_X7_rolls_j5 a1 a2 x5 s0 im
def f_X7_rolls_j3 (a1 : Int32) (a2 : Int32)  (x3 : Int32) (x4 : Int32) (x5 : Int32) (im : IM) : Option (IM) :=
  if inb (f_X7_at a1 4) 167 = true then
    bnd (up im 83 (ix (f_X7_at a1 4)) x3) fun m7 =>
    if inb (f_X7_at a1 5) 167 = true then
      bnd (up m7 83 (ix (f_X7_at a1 5)) x4) fun m8 =>
      if x5 = 1 then
        if x4 = 0 then
          f_X7_rolls_j5 a1 a2 0 (f_X7_at a1 6) m8
        else
          f_X7_rolls_j4 a1 a2 x5 (f_X7_at a1 6) m8
      else
        f_X7_rolls_j4 a1 a2 x5 (f_X7_at a1 6) m8
    else none
  else none
set_option maxRecDepth 20000 in
set_option maxHeartbeats 4000000 in
theorem s_X7_rolls_j3 {g : GX} (a1 : Int32) (a2 : Int32)    (x3 : Int32) (x4 : Int32) (x5 : Int32)  (im : IM) : X g md_X7_rolls eV 159 [(0, .ref (g.1 82)), (1, .int a1), (3, .int x3), (4, .int x4), (5, .int x5)] [] im (f_X7_rolls_j3 a1 a2 x3 x4 x5 im) := by
  refine x_aload_n (q := 0) rfl rfl dX7_rolls_159 ?_
  refine x_get (C := RX7) (T := TX7) sh_82 (by decide) rfl in_X7 0 (by decide) fl_X7_7 xf_7_0 dX7_rolls_160 ?_
  refine x_iload_n (q := 1) rfl rfl dX7_rolls_163 ?_
  refine x_iconst (v := (4)) (by decide) dX7_rolls_164 ?_
  refine x_callSR (av := [.int a1, .int 4]) (st := [.ref (g.1 83)]) (m_X7_at  a1 4 im) rfl (by decide) (by decide) lk_X7_72 cd_X7_at xd_X7_at rfl (Nat.le_of_ble_eq_true rfl) dX7_rolls_165 ?_
  refine x_iload_n (q := 2) rfl rfl dX7_rolls_168 ?_
  refine x_iast sh_83 dX7_rolls_169 ?_
  refine x_bm (fun m7 => ?_)
  refine x_aload_n (q := 0) rfl rfl dX7_rolls_170 ?_
  refine x_get (C := RX7) (T := TX7) sh_82 (by decide) rfl in_X7 0 (by decide) fl_X7_7 xf_7_0 dX7_rolls_171 ?_
  refine x_iload_n (q := 1) rfl rfl dX7_rolls_174 ?_
  refine x_iconst (v := (5)) (by decide) dX7_rolls_175 ?_
  refine x_callSR (av := [.int a1, .int 5]) (st := [.ref (g.1 83)]) (m_X7_at  a1 5 m7) rfl (by decide) (by decide) lk_X7_72 cd_X7_at xd_X7_at rfl (Nat.le_of_ble_eq_true rfl) dX7_rolls_176 ?_
  refine x_iload (q := 3) rfl dX7_rolls_179 ?_
  refine x_iast sh_83 dX7_rolls_181 ?_
  refine x_bm (fun m8 => ?_)
  refine x_aload_n (q := 0) rfl rfl dX7_rolls_182 ?_
  refine x_get (C := RX7) (T := TX7) sh_82 (by decide) rfl in_X7 0 (by decide) fl_X7_7 xf_7_0 dX7_rolls_183 ?_
  refine x_iload_n (q := 1) rfl rfl dX7_rolls_186 ?_
  refine x_bipush (v := (6)) (by decide) dX7_rolls_187 ?_
  refine x_callSR (av := [.int a1, .int 6]) (st := [.ref (g.1 83)]) (m_X7_at  a1 6 m8) rfl (by decide) (by decide) lk_X7_72 cd_X7_at xd_X7_at rfl (Nat.le_of_ble_eq_true rfl) dX7_rolls_189 ?_
  refine x_iload (q := 4) rfl dX7_rolls_192 ?_
  refine x_iconst (v := (1)) (by decide) dX7_rolls_194 ?_
  refine x_icmp_ne (tgt := 207) dX7_rolls_195 (by decide) ?_ ?_
  · refine x_sub [4] rfl ?_
    exact s_X7_rolls_j4 a1 a2 x5 (f_X7_at a1 6) m8
  · refine x_iload (q := 3) rfl dX7_rolls_198 ?_
    refine x_if_ne (tgt := 207) dX7_rolls_200 (by decide) ?_ ?_
    · refine x_sub [4] rfl ?_
      exact s_X7_rolls_j4 a1 a2 x5 (f_X7_at a1 6) m8
    · refine x_iconst (v := (0)) (by decide) dX7_rolls_203 ?_
      refine x_goto (tgt := 209) dX7_rolls_204 (by decide) ?_
      refine x_sub [] rfl ?_
      exact s_X7_rolls_j5 a1 a2 0 (f_X7_at a1 6) m8
def f_X7_rolls_j7 (a1 : Int32) (a2 : Int32) (k64 : Int32 → Int32 → Int32 → Int32 → IM → Option (IM)) (x3 : Int32) (x4 : Int32) (x5 : Int32) (x6 : Int32) (im : IM) : Option (IM) :=
  bnd (x6 + (-1)) fun v11 =>
  k64 x3 x4 x5 v11 im
set_option maxRecDepth 20000 in
set_option maxHeartbeats 4000000 in
theorem s_X7_rolls_j7 {g : GX} (a1 : Int32) (a2 : Int32)  (k64 : Int32 → Int32 → Int32 → Int32 → IM → Option (IM)) (hk64 : ∀ (x3 : Int32) (x4 : Int32) (x5 : Int32) (x6 : Int32) (im : IM), X g md_X7_rolls eV 64 [(0, .ref (g.1 82)), (1, .int a1), (2, .int a2), (3, .int x3), (4, .int x4), (5, .int x5), (6, .int x6)] [] im (k64 x3 x4 x5 x6 im)) (x3 : Int32) (x4 : Int32) (x5 : Int32) (x6 : Int32)  (im : IM) : X g md_X7_rolls eV 153 [(0, .ref (g.1 82)), (1, .int a1), (2, .int a2), (3, .int x3), (4, .int x4), (5, .int x5), (6, .int x6)] [] im (f_X7_rolls_j7 a1 a2 k64 x3 x4 x5 x6 im) := by
  refine x_iinc (q := 6) (a := (-1)) (lv' := fun v11 => [(6, .int v11), (0, .ref (g.1 82)), (1, .int a1), (2, .int a2), (3, .int x3), (4, .int x4), (5, .int x5)]) dX7_rolls_153 rfl (by decide) (by decide) (fun _ => rfl) (fun v11 => ?_)
  refine x_goto (tgt := 64) dX7_rolls_156 (by decide) ?_
  refine x_sub [1, 2, 3, 4, 5, 6, 0] rfl ?_
  exact hk64 x3 x4 x5 v11 im
def f_X7_rolls_j6 (a1 : Int32) (a2 : Int32) (k64 : Int32 → Int32 → Int32 → Int32 → IM → Option (IM)) (x3 : Int32) (x4 : Int32) (x5 : Int32) (x6 : Int32) (im : IM) : Option (IM) :=
  bnd (x3 + 1) fun v10 =>
  if v10 = 30 then
    f_X7_rolls_j7 a1 a2 k64 v10 0 0 x6 im
  else
    if inb (36 + v10) 167 = true then
      if (im 83 (ix (36 + v10))) = 3 then
        (f_X7_top a1 im).bind fun r12 =>
        if x4 ≤ r12 then
          f_X7_rolls_j7 a1 a2 k64 v10 x4 x5 x6 im
        else
          f_X7_rolls_j7 a1 a2 k64 v10 x4 2 x6 im
      else
        f_X7_rolls_j7 a1 a2 k64 v10 x4 x5 x6 im
    else none
set_option maxRecDepth 20000 in
set_option maxHeartbeats 4000000 in
theorem s_X7_rolls_j6 {g : GX} (a1 : Int32) (a2 : Int32)  (k64 : Int32 → Int32 → Int32 → Int32 → IM → Option (IM)) (hk64 : ∀ (x3 : Int32) (x4 : Int32) (x5 : Int32) (x6 : Int32) (im : IM), X g md_X7_rolls eV 64 [(0, .ref (g.1 82)), (1, .int a1), (2, .int a2), (3, .int x3), (4, .int x4), (5, .int x5), (6, .int x6)] [] im (k64 x3 x4 x5 x6 im)) (x3 : Int32) (x4 : Int32) (x5 : Int32) (x6 : Int32)  (im : IM) : X g md_X7_rolls eV 109 [(0, .ref (g.1 82)), (1, .int a1), (2, .int a2), (3, .int x3), (4, .int x4), (5, .int x5), (6, .int x6)] [] im (f_X7_rolls_j6 a1 a2 k64 x3 x4 x5 x6 im) := by
  refine x_iinc (q := 3) (a := 1) (lv' := fun v10 => [(3, .int v10), (0, .ref (g.1 82)), (1, .int a1), (2, .int a2), (4, .int x4), (5, .int x5), (6, .int x6)]) dX7_rolls_109 rfl (by decide) (by decide) (fun _ => rfl) (fun v10 => ?_)
  refine x_iload_n (q := 0) rfl rfl dX7_rolls_112 ?_
  refine x_bipush (v := (30)) (by decide) dX7_rolls_113 ?_
  refine x_icmp_ne (tgt := 127) dX7_rolls_115 (by decide) ?_ ?_
  · refine x_aload_n (q := 1) rfl rfl dX7_rolls_127 ?_
    refine x_get (C := RX7) (T := TX7) sh_82 (by decide) rfl in_X7 0 (by decide) fl_X7_7 xf_7_0 dX7_rolls_128 ?_
    refine x_bipush (v := (36)) (by decide) dX7_rolls_131 ?_
    refine x_iload_n (q := 0) rfl rfl dX7_rolls_133 ?_
    refine x_iadd dX7_rolls_134 ?_
    refine x_iald sh_83 dX7_rolls_135 ?_
    refine x_iconst (v := (3)) (by decide) dX7_rolls_136 ?_
    refine x_icmp_ne (tgt := 153) dX7_rolls_137 (by decide) ?_ ?_
    · refine x_sub [1, 2, 3, 0, 4, 5, 6] rfl ?_
      exact s_X7_rolls_j7 a1 a2 k64 hk64 v10 x4 x5 x6 im
    · refine x_iload (q := 4) rfl dX7_rolls_140 ?_
      refine x_aload_n (q := 1) rfl rfl dX7_rolls_142 ?_
      refine x_iload_n (q := 2) rfl rfl dX7_rolls_143 ?_
      refine x_bind (fun r12 er12 => ?_)
      refine x_callVR (av := [.int a1]) (st := [.int x4]) (m_X7_top  a1 im r12 er12) sh_82 (by decide) rfl rfl (by decide) (by decide) lk_X7_97 cd_X7_top xd_X7_top rfl (Nat.le_of_ble_eq_true rfl) dX7_rolls_144 ?_
      refine x_icmp_le (tgt := 153) dX7_rolls_147 (by decide) ?_ ?_
      · refine x_sub [1, 2, 3, 0, 4, 5, 6] rfl ?_
        exact s_X7_rolls_j7 a1 a2 k64 hk64 v10 x4 x5 x6 im
      · refine x_iconst (v := (2)) (by decide) dX7_rolls_150 ?_
        refine x_istore (lv' := [(5, .int 2), (3, .int v10), (0, .ref (g.1 82)), (1, .int a1), (2, .int a2), (4, .int x4), (6, .int x6)]) dX7_rolls_151 (by decide) rfl ?_
        refine x_sub [2, 3, 4, 1, 5, 0, 6] rfl ?_
        exact s_X7_rolls_j7 a1 a2 k64 hk64 v10 x4 2 x6 im
  · refine x_iconst (v := (0)) (by decide) dX7_rolls_118 ?_
    refine x_istore (lv' := [(4, .int 0), (3, .int v10), (0, .ref (g.1 82)), (1, .int a1), (2, .int a2), (5, .int x5), (6, .int x6)]) dX7_rolls_119 (by decide) rfl ?_
    refine x_iconst (v := (0)) (by decide) dX7_rolls_121 ?_
    refine x_istore (lv' := [(5, .int 0), (4, .int 0), (3, .int v10), (0, .ref (g.1 82)), (1, .int a1), (2, .int a2), (6, .int x6)]) dX7_rolls_122 (by decide) rfl ?_
    refine x_goto (tgt := 153) dX7_rolls_124 (by decide) ?_
    refine x_sub [3, 4, 5, 2, 1, 0, 6] rfl ?_
    exact s_X7_rolls_j7 a1 a2 k64 hk64 v10 0 0 x6 im
def f_X7_rolls_l2b (a1 : Int32) (a2 : Int32)   (k64 : Int32 → Int32 → Int32 → Int32 → IM → Option (IM)) (x3 : Int32) (x4 : Int32) (x5 : Int32) (x6 : Int32) (im : IM) : Option (IM) :=
  if x6 ≤ 0 then
    f_X7_rolls_j3 a1 a2 x3 x4 x5 im
  else
    if x5 = 1 then
      if x4 ≤ 0 then
        f_X7_rolls_j3 a1 a2 x3 x4 x5 im
      else
        if inb ((36 + x3) + 1) 167 = true then
          if (im 83 (ix ((36 + x3) + 1))) = 4 then
            if (f_X7_isShut a2 im) = 0 then
              f_X7_rolls_j6 a1 a2 k64 x3 x4 x5 x6 im
            else
              f_X7_rolls_j7 a1 a2 k64 x3 0 x5 x6 im
          else
            f_X7_rolls_j6 a1 a2 k64 x3 x4 x5 x6 im
        else none
    else
      f_X7_rolls_j3 a1 a2 x3 x4 x5 im
def f_X7_rolls_l2 (a1 : Int32) (a2 : Int32)   : Nat → Int32 → Int32 → Int32 → Int32 → IM → Option (IM)
  | 0, _, _, _, _, _ => none
  | n + 1, x3, x4, x5, x6, im => f_X7_rolls_l2b a1 a2 (f_X7_rolls_l2 a1 a2 n) x3 x4 x5 x6 im
set_option maxRecDepth 20000 in
set_option maxHeartbeats 4000000 in
theorem s_X7_rolls_l2b {g : GX} (a1 : Int32) (a2 : Int32)    (k64 : Int32 → Int32 → Int32 → Int32 → IM → Option (IM)) (hk64 : ∀ (x3 : Int32) (x4 : Int32) (x5 : Int32) (x6 : Int32) (im : IM), X g md_X7_rolls eV 64 [(0, .ref (g.1 82)), (1, .int a1), (2, .int a2), (3, .int x3), (4, .int x4), (5, .int x5), (6, .int x6)] [] im (k64 x3 x4 x5 x6 im)) (x3 : Int32) (x4 : Int32) (x5 : Int32) (x6 : Int32)  (im : IM) : X g md_X7_rolls eV 64 [(0, .ref (g.1 82)), (1, .int a1), (2, .int a2), (3, .int x3), (4, .int x4), (5, .int x5), (6, .int x6)] [] im (f_X7_rolls_l2b a1 a2 k64 x3 x4 x5 x6 im) := by
  refine x_iload (q := 6) rfl dX7_rolls_64 ?_
  refine x_if_le (tgt := 159) dX7_rolls_66 (by decide) ?_ ?_
  · refine x_sub [0, 1, 3, 4, 5] rfl ?_
    exact s_X7_rolls_j3 a1 a2 x3 x4 x5 im
  · refine x_iload (q := 5) rfl dX7_rolls_69 ?_
    refine x_iconst (v := (1)) (by decide) dX7_rolls_71 ?_
    refine x_icmp_ne (tgt := 159) dX7_rolls_72 (by decide) ?_ ?_
    · refine x_sub [0, 1, 3, 4, 5] rfl ?_
      exact s_X7_rolls_j3 a1 a2 x3 x4 x5 im
    · refine x_iload (q := 4) rfl dX7_rolls_75 ?_
      refine x_if_le (tgt := 159) dX7_rolls_77 (by decide) ?_ ?_
      · refine x_sub [0, 1, 3, 4, 5] rfl ?_
        exact s_X7_rolls_j3 a1 a2 x3 x4 x5 im
      · refine x_aload_n (q := 0) rfl rfl dX7_rolls_80 ?_
        refine x_get (C := RX7) (T := TX7) sh_82 (by decide) rfl in_X7 0 (by decide) fl_X7_7 xf_7_0 dX7_rolls_81 ?_
        refine x_bipush (v := (36)) (by decide) dX7_rolls_84 ?_
        refine x_iload_n (q := 3) rfl rfl dX7_rolls_86 ?_
        refine x_iadd dX7_rolls_87 ?_
        refine x_iconst (v := (1)) (by decide) dX7_rolls_88 ?_
        refine x_iadd dX7_rolls_89 ?_
        refine x_iald sh_83 dX7_rolls_90 ?_
        refine x_iconst (v := (4)) (by decide) dX7_rolls_91 ?_
        refine x_icmp_ne (tgt := 109) dX7_rolls_92 (by decide) ?_ ?_
        · refine x_sub [0, 1, 2, 3, 4, 5, 6] rfl ?_
          exact s_X7_rolls_j6 a1 a2 k64 hk64 x3 x4 x5 x6 im
        · refine x_aload_n (q := 0) rfl rfl dX7_rolls_95 ?_
          refine x_iload_n (q := 2) rfl rfl dX7_rolls_96 ?_
          refine x_callVR (av := [.int a2]) (st := []) (m_X7_isShut  a2 im) sh_82 (by decide) rfl rfl (by decide) (by decide) lk_X7_69 cd_X7_isShut xd_X7_isShut rfl (Nat.le_of_ble_eq_true rfl) dX7_rolls_97 ?_
          refine x_if_eq (tgt := 109) dX7_rolls_100 (by decide) ?_ ?_
          · refine x_sub [0, 1, 2, 3, 4, 5, 6] rfl ?_
            exact s_X7_rolls_j6 a1 a2 k64 hk64 x3 x4 x5 x6 im
          · refine x_iconst (v := (0)) (by decide) dX7_rolls_103 ?_
            refine x_istore (lv' := [(4, .int 0), (0, .ref (g.1 82)), (1, .int a1), (2, .int a2), (3, .int x3), (5, .int x5), (6, .int x6)]) dX7_rolls_104 (by decide) rfl ?_
            refine x_goto (tgt := 153) dX7_rolls_106 (by decide) ?_
            refine x_sub [1, 2, 3, 4, 0, 5, 6] rfl ?_
            exact s_X7_rolls_j7 a1 a2 k64 hk64 x3 0 x5 x6 im
set_option maxRecDepth 20000 in
set_option maxHeartbeats 4000000 in
theorem s_X7_rolls_l2 {g : GX} (a1 : Int32) (a2 : Int32)    (n : Nat) : ∀ (x3 : Int32) (x4 : Int32) (x5 : Int32) (x6 : Int32) (im : IM), X g md_X7_rolls eV 64 [(0, .ref (g.1 82)), (1, .int a1), (2, .int a2), (3, .int x3), (4, .int x4), (5, .int x5), (6, .int x6)] [] im (f_X7_rolls_l2 a1 a2 n x3 x4 x5 x6 im) := by
  induction n with
  | zero => intro x3 x4 x5 x6 im; exact x_none
  | succ n ih => intro x3 x4 x5 x6 im; exact s_X7_rolls_l2b a1 a2 (f_X7_rolls_l2 a1 a2 n) ih x3 x4 x5 x6 im
def f_X7_rolls_j1 (a1 : Int32) (a2 : Int32)  (x3 : Int32) (s0 : Int32) (im : IM) : Option (IM) :=
  bnd (s0 / 10) fun v6 =>
  f_X7_rolls_l2 a1 a2 xF x3 s0 1 v6 im
set_option maxRecDepth 20000 in
set_option maxHeartbeats 4000000 in
theorem s_X7_rolls_j1 {g : GX} (a1 : Int32) (a2 : Int32)    (x3 : Int32) (s0 : Int32)  (im : IM) : X g md_X7_rolls eV 52 [(0, .ref (g.1 82)), (1, .int a1), (2, .int a2), (3, .int x3)] [.int s0] im (f_X7_rolls_j1 a1 a2 x3 s0 im) := by
  refine x_istore (lv' := [(4, .int s0), (0, .ref (g.1 82)), (1, .int a1), (2, .int a2), (3, .int x3)]) dX7_rolls_52 (by decide) rfl ?_
  refine x_iconst (v := (1)) (by decide) dX7_rolls_54 ?_
  refine x_istore (lv' := [(5, .int 1), (4, .int s0), (0, .ref (g.1 82)), (1, .int a1), (2, .int a2), (3, .int x3)]) dX7_rolls_55 (by decide) rfl ?_
  refine x_iload (q := 1) rfl dX7_rolls_57 ?_
  refine x_bipush (v := (10)) (by decide) dX7_rolls_59 ?_
  refine x_idiv (by decide) dX7_rolls_61 ?_
  refine x_bi (fun v6 => ?_)
  refine x_istore (lv' := [(6, .int v6), (5, .int 1), (4, .int s0), (0, .ref (g.1 82)), (1, .int a1), (2, .int a2), (3, .int x3)]) dX7_rolls_62 (by decide) rfl ?_
  refine x_sub [3, 4, 5, 6, 2, 1, 0] rfl ?_
  exact s_X7_rolls_l2 a1 a2 xF x3 s0 1 v6 im
def f_X7_rolls (a1 : Int32) (a2 : Int32) (im : IM) : Option (IM) :=
  (f_X7_its a1 4 im).bind fun r1 =>
  (f_X7_its a1 5 im).bind fun r2 =>
  (f_X7_gain a1 r1 im).bind fun r3 =>
  (f_X7_drag a1 r1 im).bind fun r4 =>
  bnd ((r2 + r3) - r4) fun v5 =>
  if 0 ≤ v5 then
    if v5 ≤ 99 then
      f_X7_rolls_j1 a1 a2 r1 v5 im
    else
      f_X7_rolls_j1 a1 a2 r1 99 im
  else
    f_X7_rolls_j1 a1 a2 r1 0 im
set_option maxRecDepth 20000 in
set_option maxHeartbeats 4000000 in
theorem s_X7_rolls {g : GX}   (a1 : Int32) (a2 : Int32) (im : IM) : X g md_X7_rolls eV 0 [(0, .ref (g.1 82)), (1, .int a1), (2, .int a2)] [] im (f_X7_rolls a1 a2 im) := by
  refine x_aload_n (q := 0) rfl rfl dX7_rolls_0 ?_
  refine x_iload_n (q := 1) rfl rfl dX7_rolls_1 ?_
  refine x_iconst (v := (4)) (by decide) dX7_rolls_2 ?_
  refine x_bind (fun r1 er1 => ?_)
  refine x_callVR (av := [.int a1, .int 4]) (st := []) (m_X7_its  a1 4 im r1 er1) sh_82 (by decide) rfl rfl (by decide) (by decide) lk_X7_89 cd_X7_its xd_X7_its rfl (Nat.le_of_ble_eq_true rfl) dX7_rolls_3 ?_
  refine x_istore_n (lv' := [(3, .int r1), (0, .ref (g.1 82)), (1, .int a1), (2, .int a2)]) rfl dX7_rolls_6 (by decide) rfl ?_
  refine x_aload_n (q := 1) rfl rfl dX7_rolls_7 ?_
  refine x_iload_n (q := 2) rfl rfl dX7_rolls_8 ?_
  refine x_iconst (v := (5)) (by decide) dX7_rolls_9 ?_
  refine x_bind (fun r2 er2 => ?_)
  refine x_callVR (av := [.int a1, .int 5]) (st := []) (m_X7_its  a1 5 im r2 er2) sh_82 (by decide) rfl rfl (by decide) (by decide) lk_X7_89 cd_X7_its xd_X7_its rfl (Nat.le_of_ble_eq_true rfl) dX7_rolls_10 ?_
  refine x_aload_n (q := 1) rfl rfl dX7_rolls_13 ?_
  refine x_iload_n (q := 2) rfl rfl dX7_rolls_14 ?_
  refine x_iload_n (q := 0) rfl rfl dX7_rolls_15 ?_
  refine x_bind (fun r3 er3 => ?_)
  refine x_callVR (av := [.int a1, .int r1]) (st := [.int r2]) (m_X7_gain  a1 r1 im r3 er3) sh_82 (by decide) rfl rfl (by decide) (by decide) lk_X7_100 cd_X7_gain xd_X7_gain rfl (Nat.le_of_ble_eq_true rfl) dX7_rolls_16 ?_
  refine x_iadd dX7_rolls_19 ?_
  refine x_aload_n (q := 1) rfl rfl dX7_rolls_20 ?_
  refine x_iload_n (q := 2) rfl rfl dX7_rolls_21 ?_
  refine x_iload_n (q := 0) rfl rfl dX7_rolls_22 ?_
  refine x_bind (fun r4 er4 => ?_)
  refine x_callVR (av := [.int a1, .int r1]) (st := [.int (r2 + r3)]) (m_X7_drag  a1 r1 im r4 er4) sh_82 (by decide) rfl rfl (by decide) (by decide) lk_X7_103 cd_X7_drag xd_X7_drag rfl (Nat.le_of_ble_eq_true rfl) dX7_rolls_23 ?_
  refine x_isub dX7_rolls_26 ?_
  refine x_bi (fun v5 => ?_)
  refine x_istore (lv' := [(4, .int v5), (3, .int r1), (0, .ref (g.1 82)), (1, .int a1), (2, .int a2)]) dX7_rolls_27 (by decide) rfl ?_
  refine x_iload (q := 0) rfl dX7_rolls_29 ?_
  refine x_if_ge (tgt := 38) dX7_rolls_31 (by decide) ?_ ?_
  · refine x_iload (q := 0) rfl dX7_rolls_38 ?_
    refine x_bipush (v := (99)) (by decide) dX7_rolls_40 ?_
    refine x_icmp_le (tgt := 50) dX7_rolls_42 (by decide) ?_ ?_
    · refine x_iload (q := 0) rfl dX7_rolls_50 ?_
      refine x_sub [2, 3, 4, 1] rfl ?_
      exact s_X7_rolls_j1 a1 a2 r1 v5 im
    · refine x_bipush (v := (99)) (by decide) dX7_rolls_45 ?_
      refine x_goto (tgt := 52) dX7_rolls_47 (by decide) ?_
      refine x_sub [2, 3, 4, 1] rfl ?_
      exact s_X7_rolls_j1 a1 a2 r1 99 im
  · refine x_iconst (v := (0)) (by decide) dX7_rolls_34 ?_
    refine x_goto (tgt := 52) dX7_rolls_35 (by decide) ?_
    refine x_sub [2, 3, 4, 1] rfl ?_
    exact s_X7_rolls_j1 a1 a2 r1 0 im
theorem m_X7_rolls {g : GX}   (a1 : Int32) (a2 : Int32) (im : IM) (r : IM) (hr : f_X7_rolls a1 a2 im = some r) : xMet g 3 yX7_rolls cX7_rolls 7 none [.ref (g.1 82), .int a1, .int a2] im (eV r) := x_met (by decide) (Nat.le_of_ble_eq_true rfl) rfl (s_X7_rolls a1 a2 im) r hr
abbrev md_X7_isOnLane : xM := (2, 2, RX7, cX7_isOnLane, (some .boolean))
def f_X7_isOnLane_j1 (a1 : Int32)   (im : IM) : Option (Int32) :=
  some 1
set_option maxRecDepth 20000 in
set_option maxHeartbeats 4000000 in
theorem s_X7_isOnLane_j1 {g : GX} (a1 : Int32)   (im : IM)    : X g md_X7_isOnLane (eR im) 21 [] [] im (f_X7_isOnLane_j1 a1 im) := by
  refine x_iconst (v := (1)) (by decide) dX7_isOnLane_21 ?_
  refine x_goto (tgt := 26) dX7_isOnLane_22 (by decide) ?_
  exact x_nret (y := 1) rfl rfl (by decide) dX7_isOnLane_26
def f_X7_isOnLane (a1 : Int32) (im : IM) : Option (Int32) :=
  (f_X7_its a1 6 im).bind fun r1 =>
  if r1 = 0 then
    f_X7_isOnLane_j1 a1 im
  else
    (f_X7_its a1 6 im).bind fun r2 =>
    if r2 = 1 then
      f_X7_isOnLane_j1 a1 im
    else
      some 0
set_option maxRecDepth 20000 in
set_option maxHeartbeats 4000000 in
theorem s_X7_isOnLane {g : GX}  (a1 : Int32) (im : IM) : X g md_X7_isOnLane (eR im) 0 [(0, .ref (g.1 82)), (1, .int a1)] [] im (f_X7_isOnLane a1 im) := by
  refine x_aload_n (q := 0) rfl rfl dX7_isOnLane_0 ?_
  refine x_iload_n (q := 1) rfl rfl dX7_isOnLane_1 ?_
  refine x_bipush (v := (6)) (by decide) dX7_isOnLane_2 ?_
  refine x_bind (fun r1 er1 => ?_)
  refine x_callVR (av := [.int a1, .int 6]) (st := []) (m_X7_its  a1 6 im r1 er1) sh_82 (by decide) rfl rfl (by decide) (by decide) lk_X7_89 cd_X7_its xd_X7_its rfl (Nat.le_of_ble_eq_true rfl) dX7_isOnLane_4 ?_
  refine x_if_eq (tgt := 21) dX7_isOnLane_7 (by decide) ?_ ?_
  · refine x_sub [] rfl ?_
    exact s_X7_isOnLane_j1 a1 im
  · refine x_aload_n (q := 0) rfl rfl dX7_isOnLane_10 ?_
    refine x_iload_n (q := 1) rfl rfl dX7_isOnLane_11 ?_
    refine x_bipush (v := (6)) (by decide) dX7_isOnLane_12 ?_
    refine x_bind (fun r2 er2 => ?_)
    refine x_callVR (av := [.int a1, .int 6]) (st := []) (m_X7_its  a1 6 im r2 er2) sh_82 (by decide) rfl rfl (by decide) (by decide) lk_X7_89 cd_X7_its xd_X7_its rfl (Nat.le_of_ble_eq_true rfl) dX7_isOnLane_14 ?_
    refine x_iconst (v := (1)) (by decide) dX7_isOnLane_17 ?_
    refine x_icmp_ne (tgt := 25) dX7_isOnLane_18 (by decide) ?_ ?_
    · refine x_iconst (v := (0)) (by decide) dX7_isOnLane_25 ?_
      exact x_nret (y := 0) rfl rfl (by decide) dX7_isOnLane_26
    · refine x_sub [] rfl ?_
      exact s_X7_isOnLane_j1 a1 im
theorem m_X7_isOnLane {g : GX}  (a1 : Int32) (im : IM) (r : Int32) (hr : f_X7_isOnLane a1 im = some r) : xMet g 2 yX7_isOnLane cX7_isOnLane 2 (some .boolean) [.ref (g.1 82), .int a1] im ((eR im) r) := x_met (by decide) (Nat.le_of_ble_eq_true rfl) rfl (s_X7_isOnLane a1 im) r hr
abbrev md_X7_meets : xM := (3, 6, RX7, cX7_meets, (some .int))
def f_X7_meets_j2 (a1 : Int32)   (im : IM) : Option (Int32 × IM) :=
  some ((0, im))
set_option maxRecDepth 20000 in
set_option maxHeartbeats 4000000 in
theorem s_X7_meets_j2 {g : GX} (a1 : Int32)      (im : IM) : X g md_X7_meets eI 100 [] [] im (f_X7_meets_j2 a1 im) := by
  refine x_iconst (v := (0)) (by decide) dX7_meets_100 ?_
  exact x_iret rfl rfl dX7_meets_101
def f_X7_meets_j4 (a1 : Int32) (k105 : Int32 → Int32 → IM → Option (Int32 × IM)) (x2 : Int32) (x4 : Int32) (im : IM) : Option (Int32 × IM) :=
  bnd (x4 + 1) fun v2 =>
  k105 x2 v2 im
set_option maxRecDepth 20000 in
set_option maxHeartbeats 4000000 in
theorem s_X7_meets_j4 {g : GX} (a1 : Int32)  (k105 : Int32 → Int32 → IM → Option (Int32 × IM)) (hk105 : ∀ (x2 : Int32) (x4 : Int32) (im : IM), X g md_X7_meets eI 105 [(0, .ref (g.1 82)), (1, .int a1), (2, .int x2), (4, .int x4)] [] im (k105 x2 x4 im)) (x2 : Int32) (x4 : Int32)  (im : IM) : X g md_X7_meets eI 177 [(0, .ref (g.1 82)), (1, .int a1), (2, .int x2), (4, .int x4)] [] im (f_X7_meets_j4 a1 k105 x2 x4 im) := by
  refine x_iinc (q := 3) (a := 1) (lv' := fun v2 => [(4, .int v2), (0, .ref (g.1 82)), (1, .int a1), (2, .int x2)]) dX7_meets_177 rfl (by decide) (by decide) (fun _ => rfl) (fun v2 => ?_)
  refine x_goto (tgt := 105) dX7_meets_180 (by decide) ?_
  refine x_sub [1, 2, 3, 0] rfl ?_
  exact hk105 x2 v2 im
def f_X7_meets_l3b (a1 : Int32)   (k105 : Int32 → Int32 → IM → Option (Int32 × IM)) (x2 : Int32) (x4 : Int32) (im : IM) : Option (Int32 × IM) :=
  if (im 83 1) ≤ x4 then
    some ((x2, im))
  else
    (f_X7_isOnLane x4 im).bind fun r1 =>
    if r1 = 0 then
      f_X7_meets_j4 a1 k105 x2 x4 im
    else
      (f_X7_its x4 4 im).bind fun r3 =>
      if r3 = a1 then
        if inb (f_X7_at x4 5) 167 = true then
          bnd (up im 83 (ix (f_X7_at x4 5)) 0) fun m4 =>
          if inb (f_X7_at x4 6) 167 = true then
            bnd (up m4 83 (ix (f_X7_at x4 6)) 0) fun m5 =>
            bnd (f_X7_at x4 7) fun v6 =>
            if inb v6 167 = true then
              if inb v6 167 = true then
                bnd (up m5 83 (ix v6) ((m5 83 (ix v6)) + 1)) fun m7 =>
                f_X7_meets_j4 a1 k105 x2 x4 m7
              else none
            else none
          else none
        else none
      else
        f_X7_meets_j4 a1 k105 x2 x4 im
def f_X7_meets_l3 (a1 : Int32)   : Nat → Int32 → Int32 → IM → Option (Int32 × IM)
  | 0, _, _, _ => none
  | n + 1, x2, x4, im => f_X7_meets_l3b a1 (f_X7_meets_l3 a1 n) x2 x4 im
set_option maxRecDepth 20000 in
set_option maxHeartbeats 4000000 in
theorem s_X7_meets_l3b {g : GX} (a1 : Int32)    (k105 : Int32 → Int32 → IM → Option (Int32 × IM)) (hk105 : ∀ (x2 : Int32) (x4 : Int32) (im : IM), X g md_X7_meets eI 105 [(0, .ref (g.1 82)), (1, .int a1), (2, .int x2), (4, .int x4)] [] im (k105 x2 x4 im)) (x2 : Int32) (x4 : Int32)  (im : IM) : X g md_X7_meets eI 105 [(0, .ref (g.1 82)), (1, .int a1), (2, .int x2), (4, .int x4)] [] im (f_X7_meets_l3b a1 k105 x2 x4 im) := by
  refine x_iload (q := 3) rfl dX7_meets_105 ?_
  refine x_aload_n (q := 0) rfl rfl dX7_meets_107 ?_
  refine x_get (C := RX7) (T := TX7) sh_82 (by decide) rfl in_X7 0 (by decide) fl_X7_7 xf_7_0 dX7_meets_108 ?_
  refine x_iconst (v := (1)) (by decide) dX7_meets_111 ?_
  refine x_ialdc sh_83 (by decide) ix_1 dX7_meets_112 ?_
  refine x_icmp_ge (tgt := 183) dX7_meets_113 (by decide) ?_ ?_
  · refine x_iload_n (q := 2) rfl rfl dX7_meets_183 ?_
    exact x_iret rfl rfl dX7_meets_184
  · refine x_aload_n (q := 0) rfl rfl dX7_meets_116 ?_
    refine x_iload (q := 3) rfl dX7_meets_117 ?_
    refine x_bind (fun r1 er1 => ?_)
    refine x_callVR (av := [.int x4]) (st := []) (m_X7_isOnLane  x4 im r1 er1) sh_82 (by decide) rfl rfl (by decide) (by decide) lk_X7_114 cd_X7_isOnLane xd_X7_isOnLane rfl (Nat.le_of_ble_eq_true rfl) dX7_meets_119 ?_
    refine x_if_eq (tgt := 177) dX7_meets_122 (by decide) ?_ ?_
    · refine x_sub [0, 1, 2, 3] rfl ?_
      exact s_X7_meets_j4 a1 k105 hk105 x2 x4 im
    · refine x_aload_n (q := 0) rfl rfl dX7_meets_125 ?_
      refine x_iload (q := 3) rfl dX7_meets_126 ?_
      refine x_iconst (v := (4)) (by decide) dX7_meets_128 ?_
      refine x_bind (fun r3 er3 => ?_)
      refine x_callVR (av := [.int x4, .int 4]) (st := []) (m_X7_its  x4 4 im r3 er3) sh_82 (by decide) rfl rfl (by decide) (by decide) lk_X7_89 cd_X7_its xd_X7_its rfl (Nat.le_of_ble_eq_true rfl) dX7_meets_129 ?_
      refine x_iload_n (q := 1) rfl rfl dX7_meets_132 ?_
      refine x_icmp_ne (tgt := 177) dX7_meets_133 (by decide) ?_ ?_
      · refine x_sub [0, 1, 2, 3] rfl ?_
        exact s_X7_meets_j4 a1 k105 hk105 x2 x4 im
      · refine x_aload_n (q := 0) rfl rfl dX7_meets_136 ?_
        refine x_get (C := RX7) (T := TX7) sh_82 (by decide) rfl in_X7 0 (by decide) fl_X7_7 xf_7_0 dX7_meets_137 ?_
        refine x_iload (q := 3) rfl dX7_meets_140 ?_
        refine x_iconst (v := (5)) (by decide) dX7_meets_142 ?_
        refine x_callSR (av := [.int x4, .int 5]) (st := [.ref (g.1 83)]) (m_X7_at  x4 5 im) rfl (by decide) (by decide) lk_X7_72 cd_X7_at xd_X7_at rfl (Nat.le_of_ble_eq_true rfl) dX7_meets_143 ?_
        refine x_iconst (v := (0)) (by decide) dX7_meets_146 ?_
        refine x_iast sh_83 dX7_meets_147 ?_
        refine x_bm (fun m4 => ?_)
        refine x_aload_n (q := 0) rfl rfl dX7_meets_148 ?_
        refine x_get (C := RX7) (T := TX7) sh_82 (by decide) rfl in_X7 0 (by decide) fl_X7_7 xf_7_0 dX7_meets_149 ?_
        refine x_iload (q := 3) rfl dX7_meets_152 ?_
        refine x_bipush (v := (6)) (by decide) dX7_meets_154 ?_
        refine x_callSR (av := [.int x4, .int 6]) (st := [.ref (g.1 83)]) (m_X7_at  x4 6 m4) rfl (by decide) (by decide) lk_X7_72 cd_X7_at xd_X7_at rfl (Nat.le_of_ble_eq_true rfl) dX7_meets_156 ?_
        refine x_iconst (v := (0)) (by decide) dX7_meets_159 ?_
        refine x_iast sh_83 dX7_meets_160 ?_
        refine x_bm (fun m5 => ?_)
        refine x_aload_n (q := 0) rfl rfl dX7_meets_161 ?_
        refine x_get (C := RX7) (T := TX7) sh_82 (by decide) rfl in_X7 0 (by decide) fl_X7_7 xf_7_0 dX7_meets_162 ?_
        refine x_iload (q := 3) rfl dX7_meets_165 ?_
        refine x_bipush (v := (7)) (by decide) dX7_meets_167 ?_
        refine x_callSR (av := [.int x4, .int 7]) (st := [.ref (g.1 83)]) (m_X7_at  x4 7 m5) rfl (by decide) (by decide) lk_X7_72 cd_X7_at xd_X7_at rfl (Nat.le_of_ble_eq_true rfl) dX7_meets_169 ?_
        refine x_bi (fun v6 => ?_)
        refine x_dup2 rfl rfl dX7_meets_172 ?_
        refine x_iald sh_83 dX7_meets_173 ?_
        refine x_iconst (v := (1)) (by decide) dX7_meets_174 ?_
        refine x_iadd dX7_meets_175 ?_
        refine x_iast sh_83 dX7_meets_176 ?_
        refine x_bm (fun m7 => ?_)
        refine x_sub [0, 1, 2, 3] rfl ?_
        exact s_X7_meets_j4 a1 k105 hk105 x2 x4 m7
set_option maxRecDepth 20000 in
set_option maxHeartbeats 4000000 in
theorem s_X7_meets_l3 {g : GX} (a1 : Int32)    (n : Nat) : ∀ (x2 : Int32) (x4 : Int32) (im : IM), X g md_X7_meets eI 105 [(0, .ref (g.1 82)), (1, .int a1), (2, .int x2), (4, .int x4)] [] im (f_X7_meets_l3 a1 n x2 x4 im) := by
  induction n with
  | zero => intro x2 x4 im; exact x_none
  | succ n ih => intro x2 x4 im; exact s_X7_meets_l3b a1 (f_X7_meets_l3 a1 n) ih x2 x4 im
def f_X7_meets_j9 (a1 : Int32) (k7 : Int32 → Int32 → Int32 → IM → Option (Int32 × IM)) (x2 : Int32) (x4 : Int32) (s0 : Int32) (im : IM) : Option (Int32 × IM) :=
  bnd (x4 + 1) fun v10 =>
  k7 x2 s0 v10 im
set_option maxRecDepth 20000 in
set_option maxHeartbeats 4000000 in
theorem s_X7_meets_j9 {g : GX} (a1 : Int32)  (k7 : Int32 → Int32 → Int32 → IM → Option (Int32 × IM)) (hk7 : ∀ (x2 : Int32) (x3 : Int32) (x4 : Int32) (im : IM), X g md_X7_meets eI 7 [(0, .ref (g.1 82)), (1, .int a1), (2, .int x2), (3, .int x3), (4, .int x4)] [] im (k7 x2 x3 x4 im)) (x2 : Int32) (x4 : Int32) (s0 : Int32)  (im : IM) : X g md_X7_meets eI 84 [(0, .ref (g.1 82)), (1, .int a1), (2, .int x2), (4, .int x4)] [.int s0] im (f_X7_meets_j9 a1 k7 x2 x4 s0 im) := by
  refine x_istore_n (lv' := [(3, .int s0), (0, .ref (g.1 82)), (1, .int a1), (2, .int x2), (4, .int x4)]) rfl dX7_meets_84 (by decide) rfl ?_
  refine x_iinc (q := 4) (a := 1) (lv' := fun v10 => [(4, .int v10), (3, .int s0), (0, .ref (g.1 82)), (1, .int a1), (2, .int x2)]) dX7_meets_85 rfl (by decide) (by decide) (fun _ => rfl) (fun v10 => ?_)
  refine x_goto (tgt := 7) dX7_meets_88 (by decide) ?_
  refine x_sub [2, 3, 4, 1, 0] rfl ?_
  exact hk7 x2 s0 v10 im
def f_X7_meets_j8 (a1 : Int32) (k7 : Int32 → Int32 → Int32 → IM → Option (Int32 × IM)) (x2 : Int32) (x4 : Int32) (im : IM) : Option (Int32 × IM) :=
  f_X7_meets_j9 a1 k7 x2 x4 1 im
set_option maxRecDepth 20000 in
set_option maxHeartbeats 4000000 in
theorem s_X7_meets_j8 {g : GX} (a1 : Int32)  (k7 : Int32 → Int32 → Int32 → IM → Option (Int32 × IM)) (hk7 : ∀ (x2 : Int32) (x3 : Int32) (x4 : Int32) (im : IM), X g md_X7_meets eI 7 [(0, .ref (g.1 82)), (1, .int a1), (2, .int x2), (3, .int x3), (4, .int x4)] [] im (k7 x2 x3 x4 im)) (x2 : Int32) (x4 : Int32)  (im : IM) : X g md_X7_meets eI 79 [(0, .ref (g.1 82)), (1, .int a1), (2, .int x2), (4, .int x4)] [] im (f_X7_meets_j8 a1 k7 x2 x4 im) := by
  refine x_iconst (v := (1)) (by decide) dX7_meets_79 ?_
  refine x_goto (tgt := 84) dX7_meets_80 (by decide) ?_
  refine x_sub [0, 1, 2, 3] rfl ?_
  exact s_X7_meets_j9 a1 k7 hk7 x2 x4 1 im
def f_X7_meets_j10 (a1 : Int32) (k7 : Int32 → Int32 → Int32 → IM → Option (Int32 × IM)) (x2 : Int32) (x4 : Int32) (im : IM) : Option (Int32 × IM) :=
  f_X7_meets_j9 a1 k7 x2 x4 0 im
set_option maxRecDepth 20000 in
set_option maxHeartbeats 4000000 in
theorem s_X7_meets_j10 {g : GX} (a1 : Int32)  (k7 : Int32 → Int32 → Int32 → IM → Option (Int32 × IM)) (hk7 : ∀ (x2 : Int32) (x3 : Int32) (x4 : Int32) (im : IM), X g md_X7_meets eI 7 [(0, .ref (g.1 82)), (1, .int a1), (2, .int x2), (3, .int x3), (4, .int x4)] [] im (k7 x2 x3 x4 im)) (x2 : Int32) (x4 : Int32)  (im : IM) : X g md_X7_meets eI 83 [(0, .ref (g.1 82)), (1, .int a1), (2, .int x2), (4, .int x4)] [] im (f_X7_meets_j10 a1 k7 x2 x4 im) := by
  refine x_iconst (v := (0)) (by decide) dX7_meets_83 ?_
  refine x_sub [0, 1, 2, 3] rfl ?_
  exact s_X7_meets_j9 a1 k7 hk7 x2 x4 0 im
def f_X7_meets_j7 (a1 : Int32) (k7 : Int32 → Int32 → Int32 → IM → Option (Int32 × IM)) (x3 : Int32) (x4 : Int32) (x5 : Int32) (s0 : Int32) (s1 : Int32) (im : IM) : Option (Int32 × IM) :=
  bnd (s1 + s0) fun v9 =>
  if x3 = 0 then
    if x5 = 0 then
      f_X7_meets_j10 a1 k7 v9 x4 im
    else
      (f_X7_its x4 8 im).bind fun r11 =>
      if r11 = 1 then
        f_X7_meets_j8 a1 k7 v9 x4 im
      else
        f_X7_meets_j10 a1 k7 v9 x4 im
  else
    f_X7_meets_j8 a1 k7 v9 x4 im
set_option maxRecDepth 20000 in
set_option maxHeartbeats 4000000 in
theorem s_X7_meets_j7 {g : GX} (a1 : Int32)  (k7 : Int32 → Int32 → Int32 → IM → Option (Int32 × IM)) (hk7 : ∀ (x2 : Int32) (x3 : Int32) (x4 : Int32) (im : IM), X g md_X7_meets eI 7 [(0, .ref (g.1 82)), (1, .int a1), (2, .int x2), (3, .int x3), (4, .int x4)] [] im (k7 x2 x3 x4 im)) (x3 : Int32) (x4 : Int32) (x5 : Int32) (s0 : Int32) (s1 : Int32)  (im : IM) : X g md_X7_meets eI 56 [(0, .ref (g.1 82)), (1, .int a1), (3, .int x3), (4, .int x4), (5, .int x5)] [.int s0, .int s1] im (f_X7_meets_j7 a1 k7 x3 x4 x5 s0 s1 im) := by
  refine x_iadd dX7_meets_56 ?_
  refine x_bi (fun v9 => ?_)
  refine x_istore_n (lv' := [(2, .int v9), (0, .ref (g.1 82)), (1, .int a1), (3, .int x3), (4, .int x4), (5, .int x5)]) rfl dX7_meets_57 (by decide) rfl ?_
  refine x_iload_n (q := 3) rfl rfl dX7_meets_58 ?_
  refine x_if_ne (tgt := 79) dX7_meets_59 (by decide) ?_ ?_
  · refine x_sub [1, 2, 0, 4] rfl ?_
    exact s_X7_meets_j8 a1 k7 hk7 v9 x4 im
  · refine x_iload (q := 5) rfl dX7_meets_62 ?_
    refine x_if_eq (tgt := 83) dX7_meets_64 (by decide) ?_ ?_
    · refine x_sub [1, 2, 0, 4] rfl ?_
      exact s_X7_meets_j10 a1 k7 hk7 v9 x4 im
    · refine x_aload_n (q := 1) rfl rfl dX7_meets_67 ?_
      refine x_iload (q := 4) rfl dX7_meets_68 ?_
      refine x_bipush (v := (8)) (by decide) dX7_meets_70 ?_
      refine x_bind (fun r11 er11 => ?_)
      refine x_callVR (av := [.int x4, .int 8]) (st := []) (m_X7_its  x4 8 im r11 er11) sh_82 (by decide) rfl rfl (by decide) (by decide) lk_X7_89 cd_X7_its xd_X7_its rfl (Nat.le_of_ble_eq_true rfl) dX7_meets_72 ?_
      refine x_iconst (v := (1)) (by decide) dX7_meets_75 ?_
      refine x_icmp_ne (tgt := 83) dX7_meets_76 (by decide) ?_ ?_
      · refine x_sub [1, 2, 0, 4] rfl ?_
        exact s_X7_meets_j10 a1 k7 hk7 v9 x4 im
      · refine x_sub [1, 2, 0, 4] rfl ?_
        exact s_X7_meets_j8 a1 k7 hk7 v9 x4 im
def f_X7_meets_j6 (a1 : Int32) (k7 : Int32 → Int32 → Int32 → IM → Option (Int32 × IM)) (x2 : Int32) (x3 : Int32) (x4 : Int32) (s0 : Int32) (im : IM) : Option (Int32 × IM) :=
  if s0 = 0 then
    f_X7_meets_j7 a1 k7 x3 x4 s0 0 x2 im
  else
    f_X7_meets_j7 a1 k7 x3 x4 s0 1 x2 im
set_option maxRecDepth 20000 in
set_option maxHeartbeats 4000000 in
theorem s_X7_meets_j6 {g : GX} (a1 : Int32)  (k7 : Int32 → Int32 → Int32 → IM → Option (Int32 × IM)) (hk7 : ∀ (x2 : Int32) (x3 : Int32) (x4 : Int32) (im : IM), X g md_X7_meets eI 7 [(0, .ref (g.1 82)), (1, .int a1), (2, .int x2), (3, .int x3), (4, .int x4)] [] im (k7 x2 x3 x4 im)) (x2 : Int32) (x3 : Int32) (x4 : Int32) (s0 : Int32)  (im : IM) : X g md_X7_meets eI 43 [(0, .ref (g.1 82)), (1, .int a1), (2, .int x2), (3, .int x3), (4, .int x4)] [.int s0] im (f_X7_meets_j6 a1 k7 x2 x3 x4 s0 im) := by
  refine x_istore (lv' := [(5, .int s0), (0, .ref (g.1 82)), (1, .int a1), (2, .int x2), (3, .int x3), (4, .int x4)]) dX7_meets_43 (by decide) rfl ?_
  refine x_iload_n (q := 3) rfl rfl dX7_meets_45 ?_
  refine x_iload (q := 0) rfl dX7_meets_46 ?_
  refine x_if_eq (tgt := 55) dX7_meets_48 (by decide) ?_ ?_
  · refine x_iconst (v := (0)) (by decide) dX7_meets_55 ?_
    refine x_sub [1, 2, 4, 5, 0] rfl ?_
    exact s_X7_meets_j7 a1 k7 hk7 x3 x4 s0 0 x2 im
  · refine x_iconst (v := (1)) (by decide) dX7_meets_51 ?_
    refine x_goto (tgt := 56) dX7_meets_52 (by decide) ?_
    refine x_sub [1, 2, 4, 5, 0] rfl ?_
    exact s_X7_meets_j7 a1 k7 hk7 x3 x4 s0 1 x2 im
def f_X7_meets_j5 (a1 : Int32) (k7 : Int32 → Int32 → Int32 → IM → Option (Int32 × IM)) (x2 : Int32) (x3 : Int32) (x4 : Int32) (im : IM) : Option (Int32 × IM) :=
  f_X7_meets_j6 a1 k7 x2 x3 x4 0 im
set_option maxRecDepth 20000 in
set_option maxHeartbeats 4000000 in
theorem s_X7_meets_j5 {g : GX} (a1 : Int32)  (k7 : Int32 → Int32 → Int32 → IM → Option (Int32 × IM)) (hk7 : ∀ (x2 : Int32) (x3 : Int32) (x4 : Int32) (im : IM), X g md_X7_meets eI 7 [(0, .ref (g.1 82)), (1, .int a1), (2, .int x2), (3, .int x3), (4, .int x4)] [] im (k7 x2 x3 x4 im)) (x2 : Int32) (x3 : Int32) (x4 : Int32)  (im : IM) : X g md_X7_meets eI 42 [(0, .ref (g.1 82)), (1, .int a1), (2, .int x2), (3, .int x3), (4, .int x4)] [] im (f_X7_meets_j5 a1 k7 x2 x3 x4 im) := by
  refine x_iconst (v := (0)) (by decide) dX7_meets_42 ?_
  refine x_sub [0, 1, 2, 3, 4] rfl ?_
  exact s_X7_meets_j6 a1 k7 hk7 x2 x3 x4 0 im
def f_X7_meets_l1b (a1 : Int32)   (k7 : Int32 → Int32 → Int32 → IM → Option (Int32 × IM)) (x2 : Int32) (x3 : Int32) (x4 : Int32) (im : IM) : Option (Int32 × IM) :=
  if (im 83 1) ≤ x4 then
    if x2 < 2 then
      f_X7_meets_j2 a1 im
    else
      if x3 = 0 then
        f_X7_meets_j2 a1 im
      else
        f_X7_meets_l3 a1 xF x2 0 im
  else
    (f_X7_isOnLane x4 im).bind fun r8 =>
    if r8 = 0 then
      f_X7_meets_j5 a1 k7 x2 x3 x4 im
    else
      (f_X7_its x4 4 im).bind fun r12 =>
      if r12 = a1 then
        f_X7_meets_j6 a1 k7 x2 x3 x4 1 im
      else
        f_X7_meets_j5 a1 k7 x2 x3 x4 im
def f_X7_meets_l1 (a1 : Int32)   : Nat → Int32 → Int32 → Int32 → IM → Option (Int32 × IM)
  | 0, _, _, _, _ => none
  | n + 1, x2, x3, x4, im => f_X7_meets_l1b a1 (f_X7_meets_l1 a1 n) x2 x3 x4 im
set_option maxRecDepth 20000 in
set_option maxHeartbeats 4000000 in
theorem s_X7_meets_l1b {g : GX} (a1 : Int32)    (k7 : Int32 → Int32 → Int32 → IM → Option (Int32 × IM)) (hk7 : ∀ (x2 : Int32) (x3 : Int32) (x4 : Int32) (im : IM), X g md_X7_meets eI 7 [(0, .ref (g.1 82)), (1, .int a1), (2, .int x2), (3, .int x3), (4, .int x4)] [] im (k7 x2 x3 x4 im)) (x2 : Int32) (x3 : Int32) (x4 : Int32)  (im : IM) : X g md_X7_meets eI 7 [(0, .ref (g.1 82)), (1, .int a1), (2, .int x2), (3, .int x3), (4, .int x4)] [] im (f_X7_meets_l1b a1 k7 x2 x3 x4 im) := by
  refine x_iload (q := 4) rfl dX7_meets_7 ?_
  refine x_aload_n (q := 0) rfl rfl dX7_meets_9 ?_
  refine x_get (C := RX7) (T := TX7) sh_82 (by decide) rfl in_X7 0 (by decide) fl_X7_7 xf_7_0 dX7_meets_10 ?_
  refine x_iconst (v := (1)) (by decide) dX7_meets_13 ?_
  refine x_ialdc sh_83 (by decide) ix_1 dX7_meets_14 ?_
  refine x_icmp_ge (tgt := 91) dX7_meets_15 (by decide) ?_ ?_
  · refine x_iload_n (q := 2) rfl rfl dX7_meets_91 ?_
    refine x_iconst (v := (2)) (by decide) dX7_meets_92 ?_
    refine x_icmp_lt (tgt := 100) dX7_meets_93 (by decide) ?_ ?_
    · refine x_sub [] rfl ?_
      exact s_X7_meets_j2 a1 im
    · refine x_iload_n (q := 3) rfl rfl dX7_meets_96 ?_
      refine x_if_ne (tgt := 102) dX7_meets_97 (by decide) ?_ ?_
      · refine x_iconst (v := (0)) (by decide) dX7_meets_102 ?_
        refine x_istore (lv' := [(4, .int 0), (0, .ref (g.1 82)), (1, .int a1), (2, .int x2), (3, .int x3)]) dX7_meets_103 (by decide) rfl ?_
        refine x_sub [1, 2, 3, 0] rfl ?_
        exact s_X7_meets_l3 a1 xF x2 0 im
      · refine x_sub [] rfl ?_
        exact s_X7_meets_j2 a1 im
  · refine x_aload_n (q := 0) rfl rfl dX7_meets_18 ?_
    refine x_iload (q := 4) rfl dX7_meets_19 ?_
    refine x_bind (fun r8 er8 => ?_)
    refine x_callVR (av := [.int x4]) (st := []) (m_X7_isOnLane  x4 im r8 er8) sh_82 (by decide) rfl rfl (by decide) (by decide) lk_X7_114 cd_X7_isOnLane xd_X7_isOnLane rfl (Nat.le_of_ble_eq_true rfl) dX7_meets_21 ?_
    refine x_if_eq (tgt := 42) dX7_meets_24 (by decide) ?_ ?_
    · refine x_sub [0, 1, 2, 3, 4] rfl ?_
      exact s_X7_meets_j5 a1 k7 hk7 x2 x3 x4 im
    · refine x_aload_n (q := 0) rfl rfl dX7_meets_27 ?_
      refine x_iload (q := 4) rfl dX7_meets_28 ?_
      refine x_iconst (v := (4)) (by decide) dX7_meets_30 ?_
      refine x_bind (fun r12 er12 => ?_)
      refine x_callVR (av := [.int x4, .int 4]) (st := []) (m_X7_its  x4 4 im r12 er12) sh_82 (by decide) rfl rfl (by decide) (by decide) lk_X7_89 cd_X7_its xd_X7_its rfl (Nat.le_of_ble_eq_true rfl) dX7_meets_31 ?_
      refine x_iload_n (q := 1) rfl rfl dX7_meets_34 ?_
      refine x_icmp_ne (tgt := 42) dX7_meets_35 (by decide) ?_ ?_
      · refine x_sub [0, 1, 2, 3, 4] rfl ?_
        exact s_X7_meets_j5 a1 k7 hk7 x2 x3 x4 im
      · refine x_iconst (v := (1)) (by decide) dX7_meets_38 ?_
        refine x_goto (tgt := 43) dX7_meets_39 (by decide) ?_
        refine x_sub [0, 1, 2, 3, 4] rfl ?_
        exact s_X7_meets_j6 a1 k7 hk7 x2 x3 x4 1 im
set_option maxRecDepth 20000 in
set_option maxHeartbeats 4000000 in
theorem s_X7_meets_l1 {g : GX} (a1 : Int32)    (n : Nat) : ∀ (x2 : Int32) (x3 : Int32) (x4 : Int32) (im : IM), X g md_X7_meets eI 7 [(0, .ref (g.1 82)), (1, .int a1), (2, .int x2), (3, .int x3), (4, .int x4)] [] im (f_X7_meets_l1 a1 n x2 x3 x4 im) := by
  induction n with
  | zero => intro x2 x3 x4 im; exact x_none
  | succ n ih => intro x2 x3 x4 im; exact s_X7_meets_l1b a1 (f_X7_meets_l1 a1 n) ih x2 x3 x4 im
def f_X7_meets (a1 : Int32) (im : IM) : Option (Int32 × IM) :=
  f_X7_meets_l1 a1 xF 0 0 0 im
set_option maxRecDepth 20000 in
set_option maxHeartbeats 4000000 in
theorem s_X7_meets {g : GX}  (a1 : Int32) (im : IM) : X g md_X7_meets eI 0 [(0, .ref (g.1 82)), (1, .int a1)] [] im (f_X7_meets a1 im) := by
  refine x_iconst (v := (0)) (by decide) dX7_meets_0 ?_
  refine x_istore_n (lv' := [(2, .int 0), (0, .ref (g.1 82)), (1, .int a1)]) rfl dX7_meets_1 (by decide) rfl ?_
  refine x_iconst (v := (0)) (by decide) dX7_meets_2 ?_
  refine x_istore_n (lv' := [(3, .int 0), (2, .int 0), (0, .ref (g.1 82)), (1, .int a1)]) rfl dX7_meets_3 (by decide) rfl ?_
  refine x_iconst (v := (0)) (by decide) dX7_meets_4 ?_
  refine x_istore (lv' := [(4, .int 0), (3, .int 0), (2, .int 0), (0, .ref (g.1 82)), (1, .int a1)]) dX7_meets_5 (by decide) rfl ?_
  refine x_sub [3, 4, 2, 1, 0] rfl ?_
  exact s_X7_meets_l1 a1 xF 0 0 0 im
theorem m_X7_meets {g : GX}  (a1 : Int32) (im : IM) (r : Int32 × IM) (hr : f_X7_meets a1 im = some r) : xMet g 3 yX7_meets cX7_meets 6 (some .int) [.ref (g.1 82), .int a1] im (eI r) := x_met (by decide) (Nat.le_of_ble_eq_true rfl) rfl (s_X7_meets a1 im) r hr
abbrev md_X7_minute : xM := (4, 2, RX7, cX7_minute, none)
def f_X7_minute_l3b    (k132 : Int32 → IM → Option (IM)) (x1 : Int32) (im : IM) : Option (IM) :=
  if (im 83 1) ≤ x1 then
    bnd (up im 83 0 ((im 83 0) + 1)) fun m3 =>
    some m3
  else
    if inb (f_X7_at x1 8) 167 = true then
      bnd (up im 83 (ix (f_X7_at x1 8)) 0) fun m4 =>
      bnd (x1 + 1) fun v5 =>
      k132 v5 m4
    else none
def f_X7_minute_l3    : Nat → Int32 → IM → Option (IM)
  | 0, _, _ => none
  | n + 1, x1, im => f_X7_minute_l3b (f_X7_minute_l3 n) x1 im
set_option maxRecDepth 20000 in
set_option maxHeartbeats 4000000 in
theorem s_X7_minute_l3b {g : GX}    (k132 : Int32 → IM → Option (IM)) (hk132 : ∀ (x1 : Int32) (im : IM), X g md_X7_minute eV 132 [(0, .ref (g.1 82)), (1, .int x1)] [] im (k132 x1 im)) (x1 : Int32)  (im : IM) : X g md_X7_minute eV 132 [(0, .ref (g.1 82)), (1, .int x1)] [] im (f_X7_minute_l3b k132 x1 im) := by
  refine x_iload_n (q := 1) rfl rfl dX7_minute_132 ?_
  refine x_aload_n (q := 0) rfl rfl dX7_minute_133 ?_
  refine x_get (C := RX7) (T := TX7) sh_82 (by decide) rfl in_X7 0 (by decide) fl_X7_7 xf_7_0 dX7_minute_134 ?_
  refine x_iconst (v := (1)) (by decide) dX7_minute_137 ?_
  refine x_ialdc sh_83 (by decide) ix_1 dX7_minute_138 ?_
  refine x_icmp_ge (tgt := 160) dX7_minute_139 (by decide) ?_ ?_
  · refine x_aload_n (q := 0) rfl rfl dX7_minute_160 ?_
    refine x_get (C := RX7) (T := TX7) sh_82 (by decide) rfl in_X7 0 (by decide) fl_X7_7 xf_7_0 dX7_minute_161 ?_
    refine x_iconst (v := (0)) (by decide) dX7_minute_164 ?_
    refine x_dup2 rfl rfl dX7_minute_165 ?_
    refine x_ialdc sh_83 (by decide) ix_0 dX7_minute_166 ?_
    refine x_iconst (v := (1)) (by decide) dX7_minute_167 ?_
    refine x_iadd dX7_minute_168 ?_
    refine x_iastc sh_83 (by decide) ix_0 dX7_minute_169 ?_
    refine x_bm (fun m3 => ?_)
    exact x_vret rfl rfl dX7_minute_170
  · refine x_aload_n (q := 0) rfl rfl dX7_minute_142 ?_
    refine x_get (C := RX7) (T := TX7) sh_82 (by decide) rfl in_X7 0 (by decide) fl_X7_7 xf_7_0 dX7_minute_143 ?_
    refine x_iload_n (q := 1) rfl rfl dX7_minute_146 ?_
    refine x_bipush (v := (8)) (by decide) dX7_minute_147 ?_
    refine x_callSR (av := [.int x1, .int 8]) (st := [.ref (g.1 83)]) (m_X7_at  x1 8 im) rfl (by decide) (by decide) lk_X7_72 cd_X7_at xd_X7_at rfl (Nat.le_of_ble_eq_true rfl) dX7_minute_149 ?_
    refine x_iconst (v := (0)) (by decide) dX7_minute_152 ?_
    refine x_iast sh_83 dX7_minute_153 ?_
    refine x_bm (fun m4 => ?_)
    refine x_iinc (q := 1) (a := 1) (lv' := fun v5 => [(1, .int v5), (0, .ref (g.1 82))]) dX7_minute_154 rfl (by decide) (by decide) (fun _ => rfl) (fun v5 => ?_)
    refine x_goto (tgt := 132) dX7_minute_157 (by decide) ?_
    refine x_sub [1, 0] rfl ?_
    exact hk132 v5 m4
set_option maxRecDepth 20000 in
set_option maxHeartbeats 4000000 in
theorem s_X7_minute_l3 {g : GX}    (n : Nat) : ∀ (x1 : Int32) (im : IM), X g md_X7_minute eV 132 [(0, .ref (g.1 82)), (1, .int x1)] [] im (f_X7_minute_l3 n x1 im) := by
  induction n with
  | zero => intro x1 im; exact x_none
  | succ n ih => intro x1 im; exact s_X7_minute_l3b (f_X7_minute_l3 n) ih x1 im
def f_X7_minute_l2b    (k104 : Int32 → IM → Option (IM)) (x1 : Int32) (im : IM) : Option (IM) :=
  if 30 ≤ x1 then
    f_X7_minute_l3 xF 0 im
  else
    (f_X7_meets x1 im).bind fun r6 =>
    bnd (up r6.2 82 5 ((im 82 5) + r6.1)) fun m7 =>
    bnd (x1 + 1) fun v8 =>
    k104 v8 m7
def f_X7_minute_l2    : Nat → Int32 → IM → Option (IM)
  | 0, _, _ => none
  | n + 1, x1, im => f_X7_minute_l2b (f_X7_minute_l2 n) x1 im
set_option maxRecDepth 20000 in
set_option maxHeartbeats 4000000 in
theorem s_X7_minute_l2b {g : GX}    (k104 : Int32 → IM → Option (IM)) (hk104 : ∀ (x1 : Int32) (im : IM), X g md_X7_minute eV 104 [(0, .ref (g.1 82)), (1, .int x1)] [] im (k104 x1 im)) (x1 : Int32)  (im : IM) : X g md_X7_minute eV 104 [(0, .ref (g.1 82)), (1, .int x1)] [] im (f_X7_minute_l2b k104 x1 im) := by
  refine x_iload_n (q := 1) rfl rfl dX7_minute_104 ?_
  refine x_bipush (v := (30)) (by decide) dX7_minute_105 ?_
  refine x_icmp_ge (tgt := 130) dX7_minute_107 (by decide) ?_ ?_
  · refine x_iconst (v := (0)) (by decide) dX7_minute_130 ?_
    refine x_istore_n (lv' := [(1, .int 0), (0, .ref (g.1 82))]) rfl dX7_minute_131 (by decide) rfl ?_
    refine x_sub [1, 0] rfl ?_
    exact s_X7_minute_l3 xF 0 im
  · refine x_aload_n (q := 0) rfl rfl dX7_minute_110 ?_
    refine x_dup rfl dX7_minute_111 ?_
    refine x_get (C := RX7) (T := TX7) sh_82 (by decide) rfl in_X7 5 (by decide) fl_X7_117 xf_7_5 dX7_minute_112 ?_
    refine x_aload_n (q := 0) rfl rfl dX7_minute_115 ?_
    refine x_iload_n (q := 1) rfl rfl dX7_minute_116 ?_
    refine x_bind (fun r6 er6 => ?_)
    refine x_callVI (av := [.int x1]) (st := [.int (im 82 5), .ref (g.1 82)]) (m_X7_meets  x1 im r6 er6) sh_82 (by decide) rfl rfl (by decide) (by decide) lk_X7_127 cd_X7_meets xd_X7_meets rfl (Nat.le_of_ble_eq_true rfl) dX7_minute_117 ?_
    refine x_iadd dX7_minute_120 ?_
    refine x_put (C := RX7) (T := TX7) (ty := .int) tyX7 tyX7_ok nmX7 sh_82 (by decide) rfl in_X7 5 (by decide) (by decide) fl_X7_117 rfl (by decide +kernel) rfl rfl dX7_minute_121 ?_
    refine x_bm (fun m7 => ?_)
    refine x_iinc (q := 1) (a := 1) (lv' := fun v8 => [(1, .int v8), (0, .ref (g.1 82))]) dX7_minute_124 rfl (by decide) (by decide) (fun _ => rfl) (fun v8 => ?_)
    refine x_goto (tgt := 104) dX7_minute_127 (by decide) ?_
    refine x_sub [1, 0] rfl ?_
    exact hk104 v8 m7
set_option maxRecDepth 20000 in
set_option maxHeartbeats 4000000 in
theorem s_X7_minute_l2 {g : GX}    (n : Nat) : ∀ (x1 : Int32) (im : IM), X g md_X7_minute eV 104 [(0, .ref (g.1 82)), (1, .int x1)] [] im (f_X7_minute_l2 n x1 im) := by
  induction n with
  | zero => intro x1 im; exact x_none
  | succ n ih => intro x1 im; exact s_X7_minute_l2b (f_X7_minute_l2 n) ih x1 im
def f_X7_minute_j5  (k12 : Int32 → IM → Option (IM)) (x1 : Int32) (im : IM) : Option (IM) :=
  bnd (x1 + 1) fun v12 =>
  k12 v12 im
set_option maxRecDepth 20000 in
set_option maxHeartbeats 4000000 in
theorem s_X7_minute_j5 {g : GX}  (k12 : Int32 → IM → Option (IM)) (hk12 : ∀ (x1 : Int32) (im : IM), X g md_X7_minute eV 12 [(0, .ref (g.1 82)), (1, .int x1)] [] im (k12 x1 im)) (x1 : Int32)  (im : IM) : X g md_X7_minute eV 96 [(0, .ref (g.1 82)), (1, .int x1)] [] im (f_X7_minute_j5 k12 x1 im) := by
  refine x_iinc (q := 1) (a := 1) (lv' := fun v12 => [(1, .int v12), (0, .ref (g.1 82))]) dX7_minute_96 rfl (by decide) (by decide) (fun _ => rfl) (fun v12 => ?_)
  refine x_goto (tgt := 12) dX7_minute_99 (by decide) ?_
  refine x_sub [1, 0] rfl ?_
  exact hk12 v12 im
def f_X7_minute_j6  (k12 : Int32 → IM → Option (IM)) (x1 : Int32) (s0 : Int32) (s1 : Int32) (im : IM) : Option (IM) :=
  bnd (up im 82 6 (s1 + s0)) fun m15 =>
  f_X7_minute_j5 k12 x1 m15
set_option maxRecDepth 20000 in
set_option maxHeartbeats 4000000 in
theorem s_X7_minute_j6 {g : GX}  (k12 : Int32 → IM → Option (IM)) (hk12 : ∀ (x1 : Int32) (im : IM), X g md_X7_minute eV 12 [(0, .ref (g.1 82)), (1, .int x1)] [] im (k12 x1 im)) (x1 : Int32) (s0 : Int32) (s1 : Int32)  (im : IM) : X g md_X7_minute eV 92 [(0, .ref (g.1 82)), (1, .int x1)] [.int s0, .int s1, .ref (g.1 82)] im (f_X7_minute_j6 k12 x1 s0 s1 im) := by
  refine x_iadd dX7_minute_92 ?_
  refine x_put (C := RX7) (T := TX7) (ty := .int) tyX7 tyX7_ok nmX7 sh_82 (by decide) rfl in_X7 6 (by decide) (by decide) fl_X7_121 rfl (by decide +kernel) rfl rfl dX7_minute_93 ?_
  refine x_bm (fun m15 => ?_)
  refine x_sub [0, 1] rfl ?_
  exact s_X7_minute_j5 k12 hk12 x1 m15
def f_X7_minute_j4  (k12 : Int32 → IM → Option (IM)) (x1 : Int32) (s0 : Int32) (s1 : Int32) (im : IM) : Option (IM) :=
  if inb s1 167 = true then
    bnd (up im 83 (ix s1) s0) fun m10 =>
    (f_X7_its x1 6 m10).bind fun r11 =>
    if r11 = 1 then
      (f_X7_rolls x1 (m10 83 0) m10).bind fun r13 =>
      (f_X7_its x1 6 r13).bind fun r14 =>
      if r14 = 2 then
        f_X7_minute_j6 k12 x1 1 (r13 82 6) r13
      else
        f_X7_minute_j6 k12 x1 0 (r13 82 6) r13
    else
      f_X7_minute_j5 k12 x1 m10
  else none
set_option maxRecDepth 20000 in
set_option maxHeartbeats 4000000 in
theorem s_X7_minute_j4 {g : GX}  (k12 : Int32 → IM → Option (IM)) (hk12 : ∀ (x1 : Int32) (im : IM), X g md_X7_minute eV 12 [(0, .ref (g.1 82)), (1, .int x1)] [] im (k12 x1 im)) (x1 : Int32) (s0 : Int32) (s1 : Int32)  (im : IM) : X g md_X7_minute eV 48 [(0, .ref (g.1 82)), (1, .int x1)] [.int s0, .int s1, .ref (g.1 83)] im (f_X7_minute_j4 k12 x1 s0 s1 im) := by
  refine x_iast sh_83 dX7_minute_48 ?_
  refine x_bm (fun m10 => ?_)
  refine x_aload_n (q := 0) rfl rfl dX7_minute_49 ?_
  refine x_iload_n (q := 1) rfl rfl dX7_minute_50 ?_
  refine x_bipush (v := (6)) (by decide) dX7_minute_51 ?_
  refine x_bind (fun r11 er11 => ?_)
  refine x_callVR (av := [.int x1, .int 6]) (st := []) (m_X7_its  x1 6 m10 r11 er11) sh_82 (by decide) rfl rfl (by decide) (by decide) lk_X7_89 cd_X7_its xd_X7_its rfl (Nat.le_of_ble_eq_true rfl) dX7_minute_53 ?_
  refine x_iconst (v := (1)) (by decide) dX7_minute_56 ?_
  refine x_icmp_ne (tgt := 96) dX7_minute_57 (by decide) ?_ ?_
  · refine x_sub [0, 1] rfl ?_
    exact s_X7_minute_j5 k12 hk12 x1 m10
  · refine x_aload_n (q := 0) rfl rfl dX7_minute_60 ?_
    refine x_iload_n (q := 1) rfl rfl dX7_minute_61 ?_
    refine x_aload_n (q := 0) rfl rfl dX7_minute_62 ?_
    refine x_get (C := RX7) (T := TX7) sh_82 (by decide) rfl in_X7 0 (by decide) fl_X7_7 xf_7_0 dX7_minute_63 ?_
    refine x_iconst (v := (0)) (by decide) dX7_minute_66 ?_
    refine x_ialdc sh_83 (by decide) ix_0 dX7_minute_67 ?_
    refine x_bind (fun r13 er13 => ?_)
    refine x_callVV (av := [.int x1, .int (m10 83 0)]) (st := []) (m_X7_rolls  x1 ((m10 83 0)) m10 r13 er13) sh_82 (by decide) rfl rfl (by decide) (by decide) lk_X7_124 cd_X7_rolls xd_X7_rolls rfl (Nat.le_of_ble_eq_true rfl) dX7_minute_68 ?_
    refine x_aload_n (q := 0) rfl rfl dX7_minute_71 ?_
    refine x_dup rfl dX7_minute_72 ?_
    refine x_get (C := RX7) (T := TX7) sh_82 (by decide) rfl in_X7 6 (by decide) fl_X7_121 xf_7_6 dX7_minute_73 ?_
    refine x_aload_n (q := 0) rfl rfl dX7_minute_76 ?_
    refine x_iload_n (q := 1) rfl rfl dX7_minute_77 ?_
    refine x_bipush (v := (6)) (by decide) dX7_minute_78 ?_
    refine x_bind (fun r14 er14 => ?_)
    refine x_callVR (av := [.int x1, .int 6]) (st := [.int (r13 82 6), .ref (g.1 82)]) (m_X7_its  x1 6 r13 r14 er14) sh_82 (by decide) rfl rfl (by decide) (by decide) lk_X7_89 cd_X7_its xd_X7_its rfl (Nat.le_of_ble_eq_true rfl) dX7_minute_80 ?_
    refine x_iconst (v := (2)) (by decide) dX7_minute_83 ?_
    refine x_icmp_ne (tgt := 91) dX7_minute_84 (by decide) ?_ ?_
    · refine x_iconst (v := (0)) (by decide) dX7_minute_91 ?_
      refine x_sub [0, 1] rfl ?_
      exact s_X7_minute_j6 k12 hk12 x1 0 (r13 82 6) r13
    · refine x_iconst (v := (1)) (by decide) dX7_minute_87 ?_
      refine x_goto (tgt := 92) dX7_minute_88 (by decide) ?_
      refine x_sub [0, 1] rfl ?_
      exact s_X7_minute_j6 k12 hk12 x1 1 (r13 82 6) r13
def f_X7_minute_l1b    (k12 : Int32 → IM → Option (IM)) (x1 : Int32) (im : IM) : Option (IM) :=
  if (im 83 1) ≤ x1 then
    f_X7_minute_l2 xF 1 im
  else
    (f_X7_its x1 6 im).bind fun r9 =>
    if r9 = 1 then
      f_X7_minute_j4 k12 x1 1 (f_X7_at x1 8) im
    else
      f_X7_minute_j4 k12 x1 0 (f_X7_at x1 8) im
def f_X7_minute_l1    : Nat → Int32 → IM → Option (IM)
  | 0, _, _ => none
  | n + 1, x1, im => f_X7_minute_l1b (f_X7_minute_l1 n) x1 im
set_option maxRecDepth 20000 in
set_option maxHeartbeats 4000000 in
theorem s_X7_minute_l1b {g : GX}    (k12 : Int32 → IM → Option (IM)) (hk12 : ∀ (x1 : Int32) (im : IM), X g md_X7_minute eV 12 [(0, .ref (g.1 82)), (1, .int x1)] [] im (k12 x1 im)) (x1 : Int32)  (im : IM) : X g md_X7_minute eV 12 [(0, .ref (g.1 82)), (1, .int x1)] [] im (f_X7_minute_l1b k12 x1 im) := by
  refine x_iload_n (q := 1) rfl rfl dX7_minute_12 ?_
  refine x_aload_n (q := 0) rfl rfl dX7_minute_13 ?_
  refine x_get (C := RX7) (T := TX7) sh_82 (by decide) rfl in_X7 0 (by decide) fl_X7_7 xf_7_0 dX7_minute_14 ?_
  refine x_iconst (v := (1)) (by decide) dX7_minute_17 ?_
  refine x_ialdc sh_83 (by decide) ix_1 dX7_minute_18 ?_
  refine x_icmp_ge (tgt := 102) dX7_minute_19 (by decide) ?_ ?_
  · refine x_iconst (v := (1)) (by decide) dX7_minute_102 ?_
    refine x_istore_n (lv' := [(1, .int 1), (0, .ref (g.1 82))]) rfl dX7_minute_103 (by decide) rfl ?_
    refine x_sub [1, 0] rfl ?_
    exact s_X7_minute_l2 xF 1 im
  · refine x_aload_n (q := 0) rfl rfl dX7_minute_22 ?_
    refine x_get (C := RX7) (T := TX7) sh_82 (by decide) rfl in_X7 0 (by decide) fl_X7_7 xf_7_0 dX7_minute_23 ?_
    refine x_iload_n (q := 1) rfl rfl dX7_minute_26 ?_
    refine x_bipush (v := (8)) (by decide) dX7_minute_27 ?_
    refine x_callSR (av := [.int x1, .int 8]) (st := [.ref (g.1 83)]) (m_X7_at  x1 8 im) rfl (by decide) (by decide) lk_X7_72 cd_X7_at xd_X7_at rfl (Nat.le_of_ble_eq_true rfl) dX7_minute_29 ?_
    refine x_aload_n (q := 0) rfl rfl dX7_minute_32 ?_
    refine x_iload_n (q := 1) rfl rfl dX7_minute_33 ?_
    refine x_bipush (v := (6)) (by decide) dX7_minute_34 ?_
    refine x_bind (fun r9 er9 => ?_)
    refine x_callVR (av := [.int x1, .int 6]) (st := [.int (f_X7_at x1 8), .ref (g.1 83)]) (m_X7_its  x1 6 im r9 er9) sh_82 (by decide) rfl rfl (by decide) (by decide) lk_X7_89 cd_X7_its xd_X7_its rfl (Nat.le_of_ble_eq_true rfl) dX7_minute_36 ?_
    refine x_iconst (v := (1)) (by decide) dX7_minute_39 ?_
    refine x_icmp_ne (tgt := 47) dX7_minute_40 (by decide) ?_ ?_
    · refine x_iconst (v := (0)) (by decide) dX7_minute_47 ?_
      refine x_sub [0, 1] rfl ?_
      exact s_X7_minute_j4 k12 hk12 x1 0 (f_X7_at x1 8) im
    · refine x_iconst (v := (1)) (by decide) dX7_minute_43 ?_
      refine x_goto (tgt := 48) dX7_minute_44 (by decide) ?_
      refine x_sub [0, 1] rfl ?_
      exact s_X7_minute_j4 k12 hk12 x1 1 (f_X7_at x1 8) im
set_option maxRecDepth 20000 in
set_option maxHeartbeats 4000000 in
theorem s_X7_minute_l1 {g : GX}    (n : Nat) : ∀ (x1 : Int32) (im : IM), X g md_X7_minute eV 12 [(0, .ref (g.1 82)), (1, .int x1)] [] im (f_X7_minute_l1 n x1 im) := by
  induction n with
  | zero => intro x1 im; exact x_none
  | succ n ih => intro x1 im; exact s_X7_minute_l1b (f_X7_minute_l1 n) ih x1 im
def f_X7_minute  (im : IM) : Option (IM) :=
  bnd (up im 82 5 0) fun m1 =>
  bnd (up m1 82 6 0) fun m2 =>
  f_X7_minute_l1 xF 0 m2
set_option maxRecDepth 20000 in
set_option maxHeartbeats 4000000 in
theorem s_X7_minute {g : GX}   (im : IM) : X g md_X7_minute eV 0 [(0, .ref (g.1 82))] [] im (f_X7_minute im) := by
  refine x_aload_n (q := 0) rfl rfl dX7_minute_0 ?_
  refine x_iconst (v := (0)) (by decide) dX7_minute_1 ?_
  refine x_put (C := RX7) (T := TX7) (ty := .int) tyX7 tyX7_ok nmX7 sh_82 (by decide) rfl in_X7 5 (by decide) (by decide) fl_X7_117 rfl (by decide +kernel) rfl rfl dX7_minute_2 ?_
  refine x_bm (fun m1 => ?_)
  refine x_aload_n (q := 0) rfl rfl dX7_minute_5 ?_
  refine x_iconst (v := (0)) (by decide) dX7_minute_6 ?_
  refine x_put (C := RX7) (T := TX7) (ty := .int) tyX7 tyX7_ok nmX7 sh_82 (by decide) rfl in_X7 6 (by decide) (by decide) fl_X7_121 rfl (by decide +kernel) rfl rfl dX7_minute_7 ?_
  refine x_bm (fun m2 => ?_)
  refine x_iconst (v := (0)) (by decide) dX7_minute_10 ?_
  refine x_istore_n (lv' := [(1, .int 0), (0, .ref (g.1 82))]) rfl dX7_minute_11 (by decide) rfl ?_
  refine x_sub [1, 0] rfl ?_
  exact s_X7_minute_l1 xF 0 m2
theorem m_X7_minute {g : GX}   (im : IM) (r : IM) (hr : f_X7_minute im = some r) : xMet g 4 yX7_minute cX7_minute 2 none [.ref (g.1 82)] im (eV r) := x_met (by decide) (Nat.le_of_ble_eq_true rfl) rfl (s_X7_minute im) r hr
abbrev md_X7_isTooLate : xM := (0, 2, RX7, cX7_isTooLate, (some .boolean))
def f_X7_isTooLate (a1 : Int32) (im : IM) : Int32 :=
  if ((im 83 0) + a1) ≤ 9999 then
    0
  else
    1
set_option maxRecDepth 20000 in
set_option maxHeartbeats 4000000 in
theorem s_X7_isTooLate {g : GX}  (a1 : Int32) (im : IM) : X g md_X7_isTooLate (eR im) 0 [(0, .ref (g.1 82)), (1, .int a1)] [] im (some (f_X7_isTooLate a1 im)) := by
  refine x_aload_n (q := 0) rfl rfl dX7_isTooLate_0 ?_
  refine x_get (C := RX7) (T := TX7) sh_82 (by decide) rfl in_X7 0 (by decide) fl_X7_7 xf_7_0 dX7_isTooLate_1 ?_
  refine x_iconst (v := (0)) (by decide) dX7_isTooLate_4 ?_
  refine x_ialdc sh_83 (by decide) ix_0 dX7_isTooLate_5 ?_
  refine x_iload_n (q := 1) rfl rfl dX7_isTooLate_6 ?_
  refine x_iadd dX7_isTooLate_7 ?_
  refine x_sipush (v := (9999)) (by decide) dX7_isTooLate_8 ?_
  refine x_cs ?_
  refine x_icmp_le (tgt := 18) dX7_isTooLate_11 (by decide) ?_ ?_
  · refine x_iconst (v := (0)) (by decide) dX7_isTooLate_18 ?_
    exact x_nret (y := 0) rfl rfl (by decide) dX7_isTooLate_19
  · refine x_iconst (v := (1)) (by decide) dX7_isTooLate_14 ?_
    refine x_goto (tgt := 19) dX7_isTooLate_15 (by decide) ?_
    exact x_nret (y := 1) rfl rfl (by decide) dX7_isTooLate_19
theorem m_X7_isTooLate {g : GX}  (a1 : Int32) (im : IM) : xMet g 0 yX7_isTooLate cX7_isTooLate 2 (some .boolean) [.ref (g.1 82), .int a1] im ((eR im) (f_X7_isTooLate a1 im)) := x_met (by decide) (Nat.le_of_ble_eq_true rfl) rfl (s_X7_isTooLate a1 im) _ rfl
abbrev md_X7_minutes : xM := (5, 4, RX7, cX7_minutes, (some .int))
def f_X7_minutes_l1b (a1 : Int32)   (k38 : Int32 → Int32 → IM → Option (Int32 × IM)) (x2 : Int32) (x3 : Int32) (im : IM) : Option (Int32 × IM) :=
  if a1 ≤ x3 then
    some ((x2, im))
  else
    (f_X7_minute im).bind fun r1 =>
    bnd (x2 + ((r1 82 5) + (r1 82 6))) fun v2 =>
    bnd (x3 + 1) fun v3 =>
    k38 v2 v3 r1
def f_X7_minutes_l1 (a1 : Int32)   : Nat → Int32 → Int32 → IM → Option (Int32 × IM)
  | 0, _, _, _ => none
  | n + 1, x2, x3, im => f_X7_minutes_l1b a1 (f_X7_minutes_l1 a1 n) x2 x3 im
set_option maxRecDepth 20000 in
set_option maxHeartbeats 4000000 in
theorem s_X7_minutes_l1b {g : GX} (a1 : Int32)    (k38 : Int32 → Int32 → IM → Option (Int32 × IM)) (hk38 : ∀ (x2 : Int32) (x3 : Int32) (im : IM), X g md_X7_minutes eI 38 [(0, .ref (g.1 82)), (1, .int a1), (2, .int x2), (3, .int x3)] [] im (k38 x2 x3 im)) (x2 : Int32) (x3 : Int32)  (im : IM) : X g md_X7_minutes eI 38 [(0, .ref (g.1 82)), (1, .int a1), (2, .int x2), (3, .int x3)] [] im (f_X7_minutes_l1b a1 k38 x2 x3 im) := by
  refine x_iload_n (q := 3) rfl rfl dX7_minutes_38 ?_
  refine x_iload_n (q := 1) rfl rfl dX7_minutes_39 ?_
  refine x_icmp_ge (tgt := 65) dX7_minutes_40 (by decide) ?_ ?_
  · refine x_iload_n (q := 2) rfl rfl dX7_minutes_65 ?_
    exact x_iret rfl rfl dX7_minutes_66
  · refine x_aload_n (q := 0) rfl rfl dX7_minutes_43 ?_
    refine x_bind (fun r1 er1 => ?_)
    refine x_callVV (av := []) (st := []) (m_X7_minute   im r1 er1) sh_82 (by decide) rfl rfl (by decide) (by decide) lk_X7_135 cd_X7_minute xd_X7_minute rfl (Nat.le_of_ble_eq_true rfl) dX7_minutes_44 ?_
    refine x_iload_n (q := 2) rfl rfl dX7_minutes_47 ?_
    refine x_aload_n (q := 0) rfl rfl dX7_minutes_48 ?_
    refine x_get (C := RX7) (T := TX7) sh_82 (by decide) rfl in_X7 5 (by decide) fl_X7_117 xf_7_5 dX7_minutes_49 ?_
    refine x_aload_n (q := 0) rfl rfl dX7_minutes_52 ?_
    refine x_get (C := RX7) (T := TX7) sh_82 (by decide) rfl in_X7 6 (by decide) fl_X7_121 xf_7_6 dX7_minutes_53 ?_
    refine x_iadd dX7_minutes_56 ?_
    refine x_iadd dX7_minutes_57 ?_
    refine x_bi (fun v2 => ?_)
    refine x_istore_n (lv' := [(2, .int v2), (0, .ref (g.1 82)), (1, .int a1), (3, .int x3)]) rfl dX7_minutes_58 (by decide) rfl ?_
    refine x_iinc (q := 3) (a := 1) (lv' := fun v3 => [(3, .int v3), (2, .int v2), (0, .ref (g.1 82)), (1, .int a1)]) dX7_minutes_59 rfl (by decide) (by decide) (fun _ => rfl) (fun v3 => ?_)
    refine x_goto (tgt := 38) dX7_minutes_62 (by decide) ?_
    refine x_sub [2, 3, 1, 0] rfl ?_
    exact hk38 v2 v3 r1
set_option maxRecDepth 20000 in
set_option maxHeartbeats 4000000 in
theorem s_X7_minutes_l1 {g : GX} (a1 : Int32)    (n : Nat) : ∀ (x2 : Int32) (x3 : Int32) (im : IM), X g md_X7_minutes eI 38 [(0, .ref (g.1 82)), (1, .int a1), (2, .int x2), (3, .int x3)] [] im (f_X7_minutes_l1 a1 n x2 x3 im) := by
  induction n with
  | zero => intro x2 x3 im; exact x_none
  | succ n ih => intro x2 x3 im; exact s_X7_minutes_l1b a1 (f_X7_minutes_l1 a1 n) ih x2 x3 im
def f_X7_minutes (a1 : Int32) (im : IM) : Option (Int32 × IM) :=
  if (f_X7_in a1.toInt64 1 120) = 0 then
    (f_X7_finds ((-1000001)) im).bind fun r5 =>
    some ((r5.1, r5.2))
  else
    if (f_X7_isTooLate a1 im) = 0 then
      f_X7_minutes_l1 a1 xF 0 0 im
    else
      (f_X7_finds ((-1000005)) im).bind fun r4 =>
      some ((r4.1, r4.2))
set_option maxRecDepth 20000 in
set_option maxHeartbeats 4000000 in
theorem s_X7_minutes {g : GX}  (a1 : Int32) (im : IM) : X g md_X7_minutes eI 0 [(0, .ref (g.1 82)), (1, .int a1)] [] im (f_X7_minutes a1 im) := by
  refine x_iload_n (q := 1) rfl rfl dX7_minutes_0 ?_
  refine x_i2l dX7_minutes_1 ?_
  refine x_lconst (v := (1)) (by decide) dX7_minutes_2 ?_
  refine x_ldc2 cl_X7_130 dX7_minutes_3 ?_
  refine x_callSR (av := [.long a1.toInt64, .long 1, .long 120]) (st := []) (m_X7_in  a1.toInt64 1 120 im) rfl (by decide) (by decide) lk_X7_46 cd_X7_in xd_X7_in rfl (Nat.le_of_ble_eq_true rfl) dX7_minutes_6 ?_
  refine x_if_ne (tgt := 19) dX7_minutes_9 (by decide) ?_ ?_
  · refine x_aload_n (q := 0) rfl rfl dX7_minutes_19 ?_
    refine x_iload_n (q := 1) rfl rfl dX7_minutes_20 ?_
    refine x_callVR (av := [.int a1]) (st := []) (m_X7_isTooLate  a1 im) sh_82 (by decide) rfl rfl (by decide) (by decide) lk_X7_132 cd_X7_isTooLate xd_X7_isTooLate rfl (Nat.le_of_ble_eq_true rfl) dX7_minutes_21 ?_
    refine x_if_eq (tgt := 34) dX7_minutes_24 (by decide) ?_ ?_
    · refine x_iconst (v := (0)) (by decide) dX7_minutes_34 ?_
      refine x_istore_n (lv' := [(2, .int 0), (0, .ref (g.1 82)), (1, .int a1)]) rfl dX7_minutes_35 (by decide) rfl ?_
      refine x_iconst (v := (0)) (by decide) dX7_minutes_36 ?_
      refine x_istore_n (lv' := [(3, .int 0), (2, .int 0), (0, .ref (g.1 82)), (1, .int a1)]) rfl dX7_minutes_37 (by decide) rfl ?_
      refine x_sub [2, 3, 1, 0] rfl ?_
      exact s_X7_minutes_l1 a1 xF 0 0 im
    · refine x_aload_n (q := 0) rfl rfl dX7_minutes_27 ?_
      refine x_ldc co_X7_109 dX7_minutes_28 ?_
      refine x_bind (fun r4 er4 => ?_)
      refine x_callVI (av := [.int ((-1000005))]) (st := []) (m_X7_finds  (((-1000005))) im r4 er4) sh_82 (by decide) rfl rfl (by decide) (by decide) lk_X7_59 cd_X7_finds xd_X7_finds rfl (Nat.le_of_ble_eq_true rfl) dX7_minutes_30 ?_
      exact x_iret rfl rfl dX7_minutes_33
  · refine x_aload_n (q := 0) rfl rfl dX7_minutes_12 ?_
    refine x_ldc co_X7_43 dX7_minutes_13 ?_
    refine x_bind (fun r5 er5 => ?_)
    refine x_callVI (av := [.int ((-1000001))]) (st := []) (m_X7_finds  (((-1000001))) im r5 er5) sh_82 (by decide) rfl rfl (by decide) (by decide) lk_X7_59 cd_X7_finds xd_X7_finds rfl (Nat.le_of_ble_eq_true rfl) dX7_minutes_15 ?_
    exact x_iret rfl rfl dX7_minutes_18
theorem m_X7_minutes {g : GX}  (a1 : Int32) (im : IM) (r : Int32 × IM) (hr : f_X7_minutes a1 im = some r) : xMet g 5 yX7_minutes cX7_minutes 4 (some .int) [.ref (g.1 82), .int a1] im (eI r) := x_met (by decide) (Nat.le_of_ble_eq_true rfl) rfl (s_X7_minutes a1 im) r hr
abbrev md_X7_areIn : xM := (2, 4, RX7, cX7_areIn, (some .int))
def f_X7_areIn_j2 (a1 : Int32) (k4 : Int32 → Int32 → Option (Int32)) (x3 : Int32) (s0 : Int32) (s1 : Int32) (im : IM) : Option (Int32) :=
  bnd (s1 ||| s0) fun v2 =>
  bnd (x3 + 1) fun v3 =>
  k4 v2 v3
set_option maxRecDepth 20000 in
set_option maxHeartbeats 4000000 in
theorem s_X7_areIn_j2 {g : GX} (a1 : Int32)  (k4 : Int32 → Int32 → Option (Int32)) (im : IM) (hk4 : ∀ (x2 : Int32) (x3 : Int32), X g md_X7_areIn (eR im) 4 [(0, .ref (g.1 82)), (1, .int a1), (2, .int x2), (3, .int x3)] [] im (k4 x2 x3)) (x3 : Int32) (s0 : Int32) (s1 : Int32)  : X g md_X7_areIn (eR im) 33 [(0, .ref (g.1 82)), (1, .int a1), (3, .int x3)] [.int s0, .int s1] im (f_X7_areIn_j2 a1 k4 x3 s0 s1 im) := by
  refine x_ior dX7_areIn_33 ?_
  refine x_bi (fun v2 => ?_)
  refine x_istore_n (lv' := [(2, .int v2), (0, .ref (g.1 82)), (1, .int a1), (3, .int x3)]) rfl dX7_areIn_34 (by decide) rfl ?_
  refine x_iinc (q := 3) (a := 1) (lv' := fun v3 => [(3, .int v3), (2, .int v2), (0, .ref (g.1 82)), (1, .int a1)]) dX7_areIn_35 rfl (by decide) (by decide) (fun _ => rfl) (fun v3 => ?_)
  refine x_goto (tgt := 4) dX7_areIn_38 (by decide) ?_
  refine x_sub [2, 3, 1, 0] rfl ?_
  exact hk4 v2 v3
def f_X7_areIn_l1b (a1 : Int32)  (im : IM) (k4 : Int32 → Int32 → Option (Int32)) (x2 : Int32) (x3 : Int32)  : Option (Int32) :=
  if (im 83 1) ≤ x3 then
    some x2
  else
    (f_X7_its x3 6 im).bind fun r1 =>
    if r1 = a1 then
      f_X7_areIn_j2 a1 k4 x3 (jshl 1 x3) x2 im
    else
      f_X7_areIn_j2 a1 k4 x3 0 x2 im
def f_X7_areIn_l1 (a1 : Int32)  (im : IM) : Nat → Int32 → Int32 → Option (Int32)
  | 0, _, _ => none
  | n + 1, x2, x3 => f_X7_areIn_l1b a1 im (f_X7_areIn_l1 a1 im n) x2 x3
set_option maxRecDepth 20000 in
set_option maxHeartbeats 4000000 in
theorem s_X7_areIn_l1b {g : GX} (a1 : Int32)   (im : IM)  (k4 : Int32 → Int32 → Option (Int32)) (hk4 : ∀ (x2 : Int32) (x3 : Int32), X g md_X7_areIn (eR im) 4 [(0, .ref (g.1 82)), (1, .int a1), (2, .int x2), (3, .int x3)] [] im (k4 x2 x3)) (x2 : Int32) (x3 : Int32)  : X g md_X7_areIn (eR im) 4 [(0, .ref (g.1 82)), (1, .int a1), (2, .int x2), (3, .int x3)] [] im (f_X7_areIn_l1b a1 im k4 x2 x3) := by
  refine x_iload_n (q := 3) rfl rfl dX7_areIn_4 ?_
  refine x_aload_n (q := 0) rfl rfl dX7_areIn_5 ?_
  refine x_get (C := RX7) (T := TX7) sh_82 (by decide) rfl in_X7 0 (by decide) fl_X7_7 xf_7_0 dX7_areIn_6 ?_
  refine x_iconst (v := (1)) (by decide) dX7_areIn_9 ?_
  refine x_ialdc sh_83 (by decide) ix_1 dX7_areIn_10 ?_
  refine x_icmp_ge (tgt := 41) dX7_areIn_11 (by decide) ?_ ?_
  · refine x_iload_n (q := 2) rfl rfl dX7_areIn_41 ?_
    exact x_iret rfl rfl dX7_areIn_42
  · refine x_iload_n (q := 2) rfl rfl dX7_areIn_14 ?_
    refine x_aload_n (q := 0) rfl rfl dX7_areIn_15 ?_
    refine x_iload_n (q := 3) rfl rfl dX7_areIn_16 ?_
    refine x_bipush (v := (6)) (by decide) dX7_areIn_17 ?_
    refine x_bind (fun r1 er1 => ?_)
    refine x_callVR (av := [.int x3, .int 6]) (st := [.int x2]) (m_X7_its  x3 6 im r1 er1) sh_82 (by decide) rfl rfl (by decide) (by decide) lk_X7_89 cd_X7_its xd_X7_its rfl (Nat.le_of_ble_eq_true rfl) dX7_areIn_19 ?_
    refine x_iload_n (q := 1) rfl rfl dX7_areIn_22 ?_
    refine x_icmp_ne (tgt := 32) dX7_areIn_23 (by decide) ?_ ?_
    · refine x_iconst (v := (0)) (by decide) dX7_areIn_32 ?_
      refine x_sub [0, 1, 3] rfl ?_
      exact s_X7_areIn_j2 a1 k4 im hk4 x3 0 x2
    · refine x_iconst (v := (1)) (by decide) dX7_areIn_26 ?_
      refine x_iload_n (q := 3) rfl rfl dX7_areIn_27 ?_
      refine x_ishl dX7_areIn_28 ?_
      refine x_goto (tgt := 33) dX7_areIn_29 (by decide) ?_
      refine x_sub [0, 1, 3] rfl ?_
      exact s_X7_areIn_j2 a1 k4 im hk4 x3 (jshl 1 x3) x2
set_option maxRecDepth 20000 in
set_option maxHeartbeats 4000000 in
theorem s_X7_areIn_l1 {g : GX} (a1 : Int32)   (im : IM)  (n : Nat) : ∀ (x2 : Int32) (x3 : Int32), X g md_X7_areIn (eR im) 4 [(0, .ref (g.1 82)), (1, .int a1), (2, .int x2), (3, .int x3)] [] im (f_X7_areIn_l1 a1 im n x2 x3) := by
  induction n with
  | zero => intro x2 x3; exact x_none
  | succ n ih => intro x2 x3; exact s_X7_areIn_l1b a1 im (f_X7_areIn_l1 a1 im n) ih x2 x3
def f_X7_areIn (a1 : Int32) (im : IM) : Option (Int32) :=
  f_X7_areIn_l1 a1 im xF 0 0
set_option maxRecDepth 20000 in
set_option maxHeartbeats 4000000 in
theorem s_X7_areIn {g : GX}  (a1 : Int32) (im : IM) : X g md_X7_areIn (eR im) 0 [(0, .ref (g.1 82)), (1, .int a1)] [] im (f_X7_areIn a1 im) := by
  refine x_iconst (v := (0)) (by decide) dX7_areIn_0 ?_
  refine x_istore_n (lv' := [(2, .int 0), (0, .ref (g.1 82)), (1, .int a1)]) rfl dX7_areIn_1 (by decide) rfl ?_
  refine x_iconst (v := (0)) (by decide) dX7_areIn_2 ?_
  refine x_istore_n (lv' := [(3, .int 0), (2, .int 0), (0, .ref (g.1 82)), (1, .int a1)]) rfl dX7_areIn_3 (by decide) rfl ?_
  refine x_sub [2, 3, 1, 0] rfl ?_
  exact s_X7_areIn_l1 a1 im xF 0 0
theorem m_X7_areIn {g : GX}  (a1 : Int32) (im : IM) (r : Int32) (hr : f_X7_areIn a1 im = some r) : xMet g 2 yX7_areIn cX7_areIn 4 (some .int) [.ref (g.1 82), .int a1] im ((eR im) r) := x_met (by decide) (Nat.le_of_ble_eq_true rfl) rfl (s_X7_areIn a1 im) r hr
abbrev md_X7_are : xM := (3, 2, RX7, cX7_are, (some .int))
def f_X7_are (a1 : Int32) (im : IM) : Option (Int32 × IM) :=
  if (f_X7_in a1.toInt64 0 3) = 0 then
    (f_X7_finds ((-1000001)) im).bind fun r1 =>
    some ((r1.1, r1.2))
  else
    (f_X7_areIn a1 im).bind fun r2 =>
    some ((r2, im))
set_option maxRecDepth 20000 in
set_option maxHeartbeats 4000000 in
theorem s_X7_are {g : GX}  (a1 : Int32) (im : IM) : X g md_X7_are eI 0 [(0, .ref (g.1 82)), (1, .int a1)] [] im (f_X7_are a1 im) := by
  refine x_iload_n (q := 1) rfl rfl dX7_are_0 ?_
  refine x_i2l dX7_are_1 ?_
  refine x_lconst (v := (0)) (by decide) dX7_are_2 ?_
  refine x_ldc2 cl_X7_138 dX7_are_3 ?_
  refine x_callSR (av := [.long a1.toInt64, .long 0, .long 3]) (st := []) (m_X7_in  a1.toInt64 0 3 im) rfl (by decide) (by decide) lk_X7_46 cd_X7_in xd_X7_in rfl (Nat.le_of_ble_eq_true rfl) dX7_are_6 ?_
  refine x_if_eq (tgt := 20) dX7_are_9 (by decide) ?_ ?_
  · refine x_aload_n (q := 0) rfl rfl dX7_are_20 ?_
    refine x_ldc co_X7_43 dX7_are_21 ?_
    refine x_bind (fun r1 er1 => ?_)
    refine x_callVI (av := [.int ((-1000001))]) (st := []) (m_X7_finds  (((-1000001))) im r1 er1) sh_82 (by decide) rfl rfl (by decide) (by decide) lk_X7_59 cd_X7_finds xd_X7_finds rfl (Nat.le_of_ble_eq_true rfl) dX7_are_23 ?_
    exact x_iret rfl rfl dX7_are_26
  · refine x_aload_n (q := 0) rfl rfl dX7_are_12 ?_
    refine x_iload_n (q := 1) rfl rfl dX7_are_13 ?_
    refine x_bind (fun r2 er2 => ?_)
    refine x_callVR (av := [.int a1]) (st := []) (m_X7_areIn  a1 im r2 er2) sh_82 (by decide) rfl rfl (by decide) (by decide) lk_X7_140 cd_X7_areIn xd_X7_areIn rfl (Nat.le_of_ble_eq_true rfl) dX7_are_14 ?_
    refine x_goto (tgt := 26) dX7_are_17 (by decide) ?_
    exact x_iret rfl rfl dX7_are_26
theorem m_X7_are {g : GX}  (a1 : Int32) (im : IM) (r : Int32 × IM) (hr : f_X7_are a1 im = some r) : xMet g 3 yX7_are cX7_are 2 (some .int) [.ref (g.1 82), .int a1] im (eI r) := x_met (by decide) (Nat.le_of_ble_eq_true rfl) rfl (s_X7_are a1 im) r hr
abbrev md_X7_onCell : xM := (3, 4, RX7, cX7_onCell, (some .int))
def f_X7_onCell_j3 (a1 : Int32) (k4 : Int32 → Int32 → Option (Int32)) (x3 : Int32) (s0 : Int32) (s1 : Int32) (im : IM) : Option (Int32) :=
  bnd (s1 ||| s0) fun v2 =>
  bnd (x3 + 1) fun v3 =>
  k4 v2 v3
set_option maxRecDepth 20000 in
set_option maxHeartbeats 4000000 in
theorem s_X7_onCell_j3 {g : GX} (a1 : Int32)  (k4 : Int32 → Int32 → Option (Int32)) (im : IM) (hk4 : ∀ (x2 : Int32) (x3 : Int32), X g md_X7_onCell (eR im) 4 [(0, .ref (g.1 82)), (1, .int a1), (2, .int x2), (3, .int x3)] [] im (k4 x2 x3)) (x3 : Int32) (s0 : Int32) (s1 : Int32)  : X g md_X7_onCell (eR im) 40 [(0, .ref (g.1 82)), (1, .int a1), (3, .int x3)] [.int s0, .int s1] im (f_X7_onCell_j3 a1 k4 x3 s0 s1 im) := by
  refine x_ior dX7_onCell_40 ?_
  refine x_bi (fun v2 => ?_)
  refine x_istore_n (lv' := [(2, .int v2), (0, .ref (g.1 82)), (1, .int a1), (3, .int x3)]) rfl dX7_onCell_41 (by decide) rfl ?_
  refine x_iinc (q := 3) (a := 1) (lv' := fun v3 => [(3, .int v3), (2, .int v2), (0, .ref (g.1 82)), (1, .int a1)]) dX7_onCell_42 rfl (by decide) (by decide) (fun _ => rfl) (fun v3 => ?_)
  refine x_goto (tgt := 4) dX7_onCell_45 (by decide) ?_
  refine x_sub [2, 3, 1, 0] rfl ?_
  exact hk4 v2 v3
def f_X7_onCell_j2 (a1 : Int32) (k4 : Int32 → Int32 → Option (Int32)) (x3 : Int32) (s0 : Int32) (im : IM) : Option (Int32) :=
  f_X7_onCell_j3 a1 k4 x3 0 s0 im
set_option maxRecDepth 20000 in
set_option maxHeartbeats 4000000 in
theorem s_X7_onCell_j2 {g : GX} (a1 : Int32)  (k4 : Int32 → Int32 → Option (Int32)) (im : IM) (hk4 : ∀ (x2 : Int32) (x3 : Int32), X g md_X7_onCell (eR im) 4 [(0, .ref (g.1 82)), (1, .int a1), (2, .int x2), (3, .int x3)] [] im (k4 x2 x3)) (x3 : Int32) (s0 : Int32)  : X g md_X7_onCell (eR im) 39 [(0, .ref (g.1 82)), (1, .int a1), (3, .int x3)] [.int s0] im (f_X7_onCell_j2 a1 k4 x3 s0 im) := by
  refine x_iconst (v := (0)) (by decide) dX7_onCell_39 ?_
  refine x_sub [0, 1, 2] rfl ?_
  exact s_X7_onCell_j3 a1 k4 im hk4 x3 0 s0
def f_X7_onCell_l1b (a1 : Int32)  (im : IM) (k4 : Int32 → Int32 → Option (Int32)) (x2 : Int32) (x3 : Int32)  : Option (Int32) :=
  if (im 83 1) ≤ x3 then
    some x2
  else
    (f_X7_isOnLane x3 im).bind fun r1 =>
    if r1 = 0 then
      f_X7_onCell_j2 a1 k4 x3 x2 im
    else
      (f_X7_its x3 4 im).bind fun r4 =>
      if r4 = a1 then
        f_X7_onCell_j3 a1 k4 x3 (jshl 1 x3) x2 im
      else
        f_X7_onCell_j2 a1 k4 x3 x2 im
def f_X7_onCell_l1 (a1 : Int32)  (im : IM) : Nat → Int32 → Int32 → Option (Int32)
  | 0, _, _ => none
  | n + 1, x2, x3 => f_X7_onCell_l1b a1 im (f_X7_onCell_l1 a1 im n) x2 x3
set_option maxRecDepth 20000 in
set_option maxHeartbeats 4000000 in
theorem s_X7_onCell_l1b {g : GX} (a1 : Int32)   (im : IM)  (k4 : Int32 → Int32 → Option (Int32)) (hk4 : ∀ (x2 : Int32) (x3 : Int32), X g md_X7_onCell (eR im) 4 [(0, .ref (g.1 82)), (1, .int a1), (2, .int x2), (3, .int x3)] [] im (k4 x2 x3)) (x2 : Int32) (x3 : Int32)  : X g md_X7_onCell (eR im) 4 [(0, .ref (g.1 82)), (1, .int a1), (2, .int x2), (3, .int x3)] [] im (f_X7_onCell_l1b a1 im k4 x2 x3) := by
  refine x_iload_n (q := 3) rfl rfl dX7_onCell_4 ?_
  refine x_aload_n (q := 0) rfl rfl dX7_onCell_5 ?_
  refine x_get (C := RX7) (T := TX7) sh_82 (by decide) rfl in_X7 0 (by decide) fl_X7_7 xf_7_0 dX7_onCell_6 ?_
  refine x_iconst (v := (1)) (by decide) dX7_onCell_9 ?_
  refine x_ialdc sh_83 (by decide) ix_1 dX7_onCell_10 ?_
  refine x_icmp_ge (tgt := 48) dX7_onCell_11 (by decide) ?_ ?_
  · refine x_iload_n (q := 2) rfl rfl dX7_onCell_48 ?_
    exact x_iret rfl rfl dX7_onCell_49
  · refine x_iload_n (q := 2) rfl rfl dX7_onCell_14 ?_
    refine x_aload_n (q := 0) rfl rfl dX7_onCell_15 ?_
    refine x_iload_n (q := 3) rfl rfl dX7_onCell_16 ?_
    refine x_bind (fun r1 er1 => ?_)
    refine x_callVR (av := [.int x3]) (st := [.int x2]) (m_X7_isOnLane  x3 im r1 er1) sh_82 (by decide) rfl rfl (by decide) (by decide) lk_X7_114 cd_X7_isOnLane xd_X7_isOnLane rfl (Nat.le_of_ble_eq_true rfl) dX7_onCell_17 ?_
    refine x_if_eq (tgt := 39) dX7_onCell_20 (by decide) ?_ ?_
    · refine x_sub [0, 1, 3] rfl ?_
      exact s_X7_onCell_j2 a1 k4 im hk4 x3 x2
    · refine x_aload_n (q := 0) rfl rfl dX7_onCell_23 ?_
      refine x_iload_n (q := 3) rfl rfl dX7_onCell_24 ?_
      refine x_iconst (v := (4)) (by decide) dX7_onCell_25 ?_
      refine x_bind (fun r4 er4 => ?_)
      refine x_callVR (av := [.int x3, .int 4]) (st := [.int x2]) (m_X7_its  x3 4 im r4 er4) sh_82 (by decide) rfl rfl (by decide) (by decide) lk_X7_89 cd_X7_its xd_X7_its rfl (Nat.le_of_ble_eq_true rfl) dX7_onCell_26 ?_
      refine x_iload_n (q := 1) rfl rfl dX7_onCell_29 ?_
      refine x_icmp_ne (tgt := 39) dX7_onCell_30 (by decide) ?_ ?_
      · refine x_sub [0, 1, 3] rfl ?_
        exact s_X7_onCell_j2 a1 k4 im hk4 x3 x2
      · refine x_iconst (v := (1)) (by decide) dX7_onCell_33 ?_
        refine x_iload_n (q := 3) rfl rfl dX7_onCell_34 ?_
        refine x_ishl dX7_onCell_35 ?_
        refine x_goto (tgt := 40) dX7_onCell_36 (by decide) ?_
        refine x_sub [0, 1, 3] rfl ?_
        exact s_X7_onCell_j3 a1 k4 im hk4 x3 (jshl 1 x3) x2
set_option maxRecDepth 20000 in
set_option maxHeartbeats 4000000 in
theorem s_X7_onCell_l1 {g : GX} (a1 : Int32)   (im : IM)  (n : Nat) : ∀ (x2 : Int32) (x3 : Int32), X g md_X7_onCell (eR im) 4 [(0, .ref (g.1 82)), (1, .int a1), (2, .int x2), (3, .int x3)] [] im (f_X7_onCell_l1 a1 im n x2 x3) := by
  induction n with
  | zero => intro x2 x3; exact x_none
  | succ n ih => intro x2 x3; exact s_X7_onCell_l1b a1 im (f_X7_onCell_l1 a1 im n) ih x2 x3
def f_X7_onCell (a1 : Int32) (im : IM) : Option (Int32) :=
  f_X7_onCell_l1 a1 im xF 0 0
set_option maxRecDepth 20000 in
set_option maxHeartbeats 4000000 in
theorem s_X7_onCell {g : GX}  (a1 : Int32) (im : IM) : X g md_X7_onCell (eR im) 0 [(0, .ref (g.1 82)), (1, .int a1)] [] im (f_X7_onCell a1 im) := by
  refine x_iconst (v := (0)) (by decide) dX7_onCell_0 ?_
  refine x_istore_n (lv' := [(2, .int 0), (0, .ref (g.1 82)), (1, .int a1)]) rfl dX7_onCell_1 (by decide) rfl ?_
  refine x_iconst (v := (0)) (by decide) dX7_onCell_2 ?_
  refine x_istore_n (lv' := [(3, .int 0), (2, .int 0), (0, .ref (g.1 82)), (1, .int a1)]) rfl dX7_onCell_3 (by decide) rfl ?_
  refine x_sub [2, 3, 1, 0] rfl ?_
  exact s_X7_onCell_l1 a1 im xF 0 0
theorem m_X7_onCell {g : GX}  (a1 : Int32) (im : IM) (r : Int32) (hr : f_X7_onCell a1 im = some r) : xMet g 3 yX7_onCell cX7_onCell 4 (some .int) [.ref (g.1 82), .int a1] im ((eR im) r) := x_met (by decide) (Nat.le_of_ble_eq_true rfl) rfl (s_X7_onCell a1 im) r hr
abbrev md_X7_on : xM := (4, 2, RX7, cX7_on, (some .int))
def f_X7_on (a1 : Int32) (im : IM) : Option (Int32 × IM) :=
  if (f_X7_isCell a1) = 0 then
    (f_X7_finds ((-1000001)) im).bind fun r1 =>
    some ((r1.1, r1.2))
  else
    (f_X7_onCell a1 im).bind fun r2 =>
    some ((r2, im))
set_option maxRecDepth 20000 in
set_option maxHeartbeats 4000000 in
theorem s_X7_on {g : GX}  (a1 : Int32) (im : IM) : X g md_X7_on eI 0 [(0, .ref (g.1 82)), (1, .int a1)] [] im (f_X7_on a1 im) := by
  refine x_iload_n (q := 1) rfl rfl dX7_on_0 ?_
  refine x_callSR (av := [.int a1]) (st := []) (m_X7_isCell  a1 im) rfl (by decide) (by decide) lk_X7_51 cd_X7_isCell xd_X7_isCell rfl (Nat.le_of_ble_eq_true rfl) dX7_on_1 ?_
  refine x_if_eq (tgt := 15) dX7_on_4 (by decide) ?_ ?_
  · refine x_aload_n (q := 0) rfl rfl dX7_on_15 ?_
    refine x_ldc co_X7_43 dX7_on_16 ?_
    refine x_bind (fun r1 er1 => ?_)
    refine x_callVI (av := [.int ((-1000001))]) (st := []) (m_X7_finds  (((-1000001))) im r1 er1) sh_82 (by decide) rfl rfl (by decide) (by decide) lk_X7_59 cd_X7_finds xd_X7_finds rfl (Nat.le_of_ble_eq_true rfl) dX7_on_18 ?_
    exact x_iret rfl rfl dX7_on_21
  · refine x_aload_n (q := 0) rfl rfl dX7_on_7 ?_
    refine x_iload_n (q := 1) rfl rfl dX7_on_8 ?_
    refine x_bind (fun r2 er2 => ?_)
    refine x_callVR (av := [.int a1]) (st := []) (m_X7_onCell  a1 im r2 er2) sh_82 (by decide) rfl rfl (by decide) (by decide) lk_X7_143 cd_X7_onCell xd_X7_onCell rfl (Nat.le_of_ble_eq_true rfl) dX7_on_9 ?_
    refine x_goto (tgt := 21) dX7_on_12 (by decide) ?_
    exact x_iret rfl rfl dX7_on_21
theorem m_X7_on {g : GX}  (a1 : Int32) (im : IM) (r : Int32 × IM) (hr : f_X7_on a1 im = some r) : xMet g 4 yX7_on cX7_on 2 (some .int) [.ref (g.1 82), .int a1] im (eI r) := x_met (by decide) (Nat.le_of_ble_eq_true rfl) rfl (s_X7_on a1 im) r hr
abbrev md_X7_sumOf : xM := (2, 4, RX7, cX7_sumOf, (some .int))
def f_X7_sumOf_l1b (a1 : Int32)  (im : IM) (k4 : Int32 → Int32 → Option (Int32)) (x2 : Int32) (x3 : Int32)  : Option (Int32) :=
  if (im 83 1) ≤ x3 then
    some x2
  else
    (f_X7_its x3 a1 im).bind fun r1 =>
    bnd (x2 + r1) fun v2 =>
    bnd (x3 + 1) fun v3 =>
    k4 v2 v3
def f_X7_sumOf_l1 (a1 : Int32)  (im : IM) : Nat → Int32 → Int32 → Option (Int32)
  | 0, _, _ => none
  | n + 1, x2, x3 => f_X7_sumOf_l1b a1 im (f_X7_sumOf_l1 a1 im n) x2 x3
set_option maxRecDepth 20000 in
set_option maxHeartbeats 4000000 in
theorem s_X7_sumOf_l1b {g : GX} (a1 : Int32)   (im : IM)  (k4 : Int32 → Int32 → Option (Int32)) (hk4 : ∀ (x2 : Int32) (x3 : Int32), X g md_X7_sumOf (eR im) 4 [(0, .ref (g.1 82)), (1, .int a1), (2, .int x2), (3, .int x3)] [] im (k4 x2 x3)) (x2 : Int32) (x3 : Int32)  : X g md_X7_sumOf (eR im) 4 [(0, .ref (g.1 82)), (1, .int a1), (2, .int x2), (3, .int x3)] [] im (f_X7_sumOf_l1b a1 im k4 x2 x3) := by
  refine x_iload_n (q := 3) rfl rfl dX7_sumOf_4 ?_
  refine x_aload_n (q := 0) rfl rfl dX7_sumOf_5 ?_
  refine x_get (C := RX7) (T := TX7) sh_82 (by decide) rfl in_X7 0 (by decide) fl_X7_7 xf_7_0 dX7_sumOf_6 ?_
  refine x_iconst (v := (1)) (by decide) dX7_sumOf_9 ?_
  refine x_ialdc sh_83 (by decide) ix_1 dX7_sumOf_10 ?_
  refine x_icmp_ge (tgt := 29) dX7_sumOf_11 (by decide) ?_ ?_
  · refine x_iload_n (q := 2) rfl rfl dX7_sumOf_29 ?_
    exact x_iret rfl rfl dX7_sumOf_30
  · refine x_iload_n (q := 2) rfl rfl dX7_sumOf_14 ?_
    refine x_aload_n (q := 0) rfl rfl dX7_sumOf_15 ?_
    refine x_iload_n (q := 3) rfl rfl dX7_sumOf_16 ?_
    refine x_iload_n (q := 1) rfl rfl dX7_sumOf_17 ?_
    refine x_bind (fun r1 er1 => ?_)
    refine x_callVR (av := [.int x3, .int a1]) (st := [.int x2]) (m_X7_its  x3 a1 im r1 er1) sh_82 (by decide) rfl rfl (by decide) (by decide) lk_X7_89 cd_X7_its xd_X7_its rfl (Nat.le_of_ble_eq_true rfl) dX7_sumOf_18 ?_
    refine x_iadd dX7_sumOf_21 ?_
    refine x_bi (fun v2 => ?_)
    refine x_istore_n (lv' := [(2, .int v2), (0, .ref (g.1 82)), (1, .int a1), (3, .int x3)]) rfl dX7_sumOf_22 (by decide) rfl ?_
    refine x_iinc (q := 3) (a := 1) (lv' := fun v3 => [(3, .int v3), (2, .int v2), (0, .ref (g.1 82)), (1, .int a1)]) dX7_sumOf_23 rfl (by decide) (by decide) (fun _ => rfl) (fun v3 => ?_)
    refine x_goto (tgt := 4) dX7_sumOf_26 (by decide) ?_
    refine x_sub [2, 3, 1, 0] rfl ?_
    exact hk4 v2 v3
set_option maxRecDepth 20000 in
set_option maxHeartbeats 4000000 in
theorem s_X7_sumOf_l1 {g : GX} (a1 : Int32)   (im : IM)  (n : Nat) : ∀ (x2 : Int32) (x3 : Int32), X g md_X7_sumOf (eR im) 4 [(0, .ref (g.1 82)), (1, .int a1), (2, .int x2), (3, .int x3)] [] im (f_X7_sumOf_l1 a1 im n x2 x3) := by
  induction n with
  | zero => intro x2 x3; exact x_none
  | succ n ih => intro x2 x3; exact s_X7_sumOf_l1b a1 im (f_X7_sumOf_l1 a1 im n) ih x2 x3
def f_X7_sumOf (a1 : Int32) (im : IM) : Option (Int32) :=
  f_X7_sumOf_l1 a1 im xF 0 0
set_option maxRecDepth 20000 in
set_option maxHeartbeats 4000000 in
theorem s_X7_sumOf {g : GX}  (a1 : Int32) (im : IM) : X g md_X7_sumOf (eR im) 0 [(0, .ref (g.1 82)), (1, .int a1)] [] im (f_X7_sumOf a1 im) := by
  refine x_iconst (v := (0)) (by decide) dX7_sumOf_0 ?_
  refine x_istore_n (lv' := [(2, .int 0), (0, .ref (g.1 82)), (1, .int a1)]) rfl dX7_sumOf_1 (by decide) rfl ?_
  refine x_iconst (v := (0)) (by decide) dX7_sumOf_2 ?_
  refine x_istore_n (lv' := [(3, .int 0), (2, .int 0), (0, .ref (g.1 82)), (1, .int a1)]) rfl dX7_sumOf_3 (by decide) rfl ?_
  refine x_sub [2, 3, 1, 0] rfl ?_
  exact s_X7_sumOf_l1 a1 im xF 0 0
theorem m_X7_sumOf {g : GX}  (a1 : Int32) (im : IM) (r : Int32) (hr : f_X7_sumOf a1 im = some r) : xMet g 2 yX7_sumOf cX7_sumOf 4 (some .int) [.ref (g.1 82), .int a1] im ((eR im) r) := x_met (by decide) (Nat.le_of_ble_eq_true rfl) rfl (s_X7_sumOf a1 im) r hr
abbrev md_X7_ahead : xM := (5, 4, RX7, cX7_ahead, (some .int))
def f_X7_ahead_j1 (a1 : Int32) (a2 : Int32)   (im : IM) : Option (Int32 × IM) :=
  (f_X7_finds ((-1000001)) im).bind fun r1 =>
  some ((r1.1, r1.2))
set_option maxRecDepth 20000 in
set_option maxHeartbeats 4000000 in
theorem s_X7_ahead_j1 {g : GX} (a1 : Int32) (a2 : Int32)      (im : IM) : X g md_X7_ahead eI 30 [(0, .ref (g.1 82))] [] im (f_X7_ahead_j1 a1 a2 im) := by
  refine x_aload_n (q := 0) rfl rfl dX7_ahead_30 ?_
  refine x_ldc co_X7_43 dX7_ahead_31 ?_
  refine x_bind (fun r1 er1 => ?_)
  refine x_callVI (av := [.int ((-1000001))]) (st := []) (m_X7_finds  (((-1000001))) im r1 er1) sh_82 (by decide) rfl rfl (by decide) (by decide) lk_X7_59 cd_X7_finds xd_X7_finds rfl (Nat.le_of_ble_eq_true rfl) dX7_ahead_33 ?_
  exact x_iret rfl rfl dX7_ahead_36
def f_X7_ahead_j3 (a1 : Int32) (a2 : Int32)  (s0 : Int32) (im : IM) : Option (Int32 × IM) :=
  (f_X7_putsBack im).bind fun r4 =>
  some ((s0, r4))
set_option maxRecDepth 20000 in
set_option maxHeartbeats 4000000 in
theorem s_X7_ahead_j3 {g : GX} (a1 : Int32) (a2 : Int32)    (s0 : Int32)  (im : IM) : X g md_X7_ahead eI 134 [(0, .ref (g.1 82))] [.int s0] im (f_X7_ahead_j3 a1 a2 s0 im) := by
  refine x_istore_n (lv' := [(3, .int s0), (0, .ref (g.1 82))]) rfl dX7_ahead_134 (by decide) rfl ?_
  refine x_aload_n (q := 1) rfl rfl dX7_ahead_135 ?_
  refine x_bind (fun r4 er4 => ?_)
  refine x_callVV (av := []) (st := []) (m_X7_putsBack   im r4 er4) sh_82 (by decide) rfl rfl (by decide) (by decide) lk_X7_154 cd_X7_putsBack xd_X7_putsBack rfl (Nat.le_of_ble_eq_true rfl) dX7_ahead_136 ?_
  refine x_iload_n (q := 0) rfl rfl dX7_ahead_139 ?_
  exact x_iret rfl rfl dX7_ahead_140
def f_X7_ahead_l2b (a1 : Int32) (a2 : Int32)   (k58 : Int32 → IM → Option (Int32 × IM)) (x3 : Int32) (im : IM) : Option (Int32 × IM) :=
  if a1 ≤ x3 then
    if a2 = 0 then
      (f_X7_areIn 1 im).bind fun r8 =>
      f_X7_ahead_j3 a1 a2 r8 im
    else
      if a2 = 1 then
        (f_X7_areIn 2 im).bind fun r7 =>
        f_X7_ahead_j3 a1 a2 r7 im
      else
        if a2 = 2 then
          (f_X7_onCell 30 im).bind fun r6 =>
          f_X7_ahead_j3 a1 a2 r6 im
        else
          if a2 = 3 then
            (f_X7_sumOf 7 im).bind fun r5 =>
            f_X7_ahead_j3 a1 a2 r5 im
          else
            (f_X7_its (a2 - 4) 4 im).bind fun r3 =>
            f_X7_ahead_j3 a1 a2 r3 im
  else
    (f_X7_minute im).bind fun r9 =>
    bnd (x3 + 1) fun v10 =>
    k58 v10 r9
def f_X7_ahead_l2 (a1 : Int32) (a2 : Int32)   : Nat → Int32 → IM → Option (Int32 × IM)
  | 0, _, _ => none
  | n + 1, x3, im => f_X7_ahead_l2b a1 a2 (f_X7_ahead_l2 a1 a2 n) x3 im
set_option maxRecDepth 20000 in
set_option maxHeartbeats 4000000 in
theorem s_X7_ahead_l2b {g : GX} (a1 : Int32) (a2 : Int32)    (k58 : Int32 → IM → Option (Int32 × IM)) (hk58 : ∀ (x3 : Int32) (im : IM), X g md_X7_ahead eI 58 [(0, .ref (g.1 82)), (1, .int a1), (2, .int a2), (3, .int x3)] [] im (k58 x3 im)) (x3 : Int32)  (im : IM) : X g md_X7_ahead eI 58 [(0, .ref (g.1 82)), (1, .int a1), (2, .int a2), (3, .int x3)] [] im (f_X7_ahead_l2b a1 a2 k58 x3 im) := by
  refine x_iload_n (q := 3) rfl rfl dX7_ahead_58 ?_
  refine x_iload_n (q := 1) rfl rfl dX7_ahead_59 ?_
  refine x_icmp_ge (tgt := 73) dX7_ahead_60 (by decide) ?_ ?_
  · refine x_iload_n (q := 2) rfl rfl dX7_ahead_73 ?_
    refine x_if_ne (tgt := 85) dX7_ahead_74 (by decide) ?_ ?_
    · refine x_iload_n (q := 2) rfl rfl dX7_ahead_85 ?_
      refine x_iconst (v := (1)) (by decide) dX7_ahead_86 ?_
      refine x_icmp_ne (tgt := 98) dX7_ahead_87 (by decide) ?_ ?_
      · refine x_iload_n (q := 2) rfl rfl dX7_ahead_98 ?_
        refine x_iconst (v := (2)) (by decide) dX7_ahead_99 ?_
        refine x_icmp_ne (tgt := 112) dX7_ahead_100 (by decide) ?_ ?_
        · refine x_iload_n (q := 2) rfl rfl dX7_ahead_112 ?_
          refine x_iconst (v := (3)) (by decide) dX7_ahead_113 ?_
          refine x_icmp_ne (tgt := 126) dX7_ahead_114 (by decide) ?_ ?_
          · refine x_aload_n (q := 0) rfl rfl dX7_ahead_126 ?_
            refine x_iload_n (q := 2) rfl rfl dX7_ahead_127 ?_
            refine x_iconst (v := (4)) (by decide) dX7_ahead_128 ?_
            refine x_isub dX7_ahead_129 ?_
            refine x_iconst (v := (4)) (by decide) dX7_ahead_130 ?_
            refine x_bind (fun r3 er3 => ?_)
            refine x_callVR (av := [.int (a2 - 4), .int 4]) (st := []) (m_X7_its  ((a2 - 4)) 4 im r3 er3) sh_82 (by decide) rfl rfl (by decide) (by decide) lk_X7_89 cd_X7_its xd_X7_its rfl (Nat.le_of_ble_eq_true rfl) dX7_ahead_131 ?_
            refine x_sub [0] rfl ?_
            exact s_X7_ahead_j3 a1 a2 r3 im
          · refine x_aload_n (q := 0) rfl rfl dX7_ahead_117 ?_
            refine x_bipush (v := (7)) (by decide) dX7_ahead_118 ?_
            refine x_bind (fun r5 er5 => ?_)
            refine x_callVR (av := [.int 7]) (st := []) (m_X7_sumOf  7 im r5 er5) sh_82 (by decide) rfl rfl (by decide) (by decide) lk_X7_151 cd_X7_sumOf xd_X7_sumOf rfl (Nat.le_of_ble_eq_true rfl) dX7_ahead_120 ?_
            refine x_goto (tgt := 134) dX7_ahead_123 (by decide) ?_
            refine x_sub [0] rfl ?_
            exact s_X7_ahead_j3 a1 a2 r5 im
        · refine x_aload_n (q := 0) rfl rfl dX7_ahead_103 ?_
          refine x_bipush (v := (30)) (by decide) dX7_ahead_104 ?_
          refine x_bind (fun r6 er6 => ?_)
          refine x_callVR (av := [.int 30]) (st := []) (m_X7_onCell  30 im r6 er6) sh_82 (by decide) rfl rfl (by decide) (by decide) lk_X7_143 cd_X7_onCell xd_X7_onCell rfl (Nat.le_of_ble_eq_true rfl) dX7_ahead_106 ?_
          refine x_goto (tgt := 134) dX7_ahead_109 (by decide) ?_
          refine x_sub [0] rfl ?_
          exact s_X7_ahead_j3 a1 a2 r6 im
      · refine x_aload_n (q := 0) rfl rfl dX7_ahead_90 ?_
        refine x_iconst (v := (2)) (by decide) dX7_ahead_91 ?_
        refine x_bind (fun r7 er7 => ?_)
        refine x_callVR (av := [.int 2]) (st := []) (m_X7_areIn  2 im r7 er7) sh_82 (by decide) rfl rfl (by decide) (by decide) lk_X7_140 cd_X7_areIn xd_X7_areIn rfl (Nat.le_of_ble_eq_true rfl) dX7_ahead_92 ?_
        refine x_goto (tgt := 134) dX7_ahead_95 (by decide) ?_
        refine x_sub [0] rfl ?_
        exact s_X7_ahead_j3 a1 a2 r7 im
    · refine x_aload_n (q := 0) rfl rfl dX7_ahead_77 ?_
      refine x_iconst (v := (1)) (by decide) dX7_ahead_78 ?_
      refine x_bind (fun r8 er8 => ?_)
      refine x_callVR (av := [.int 1]) (st := []) (m_X7_areIn  1 im r8 er8) sh_82 (by decide) rfl rfl (by decide) (by decide) lk_X7_140 cd_X7_areIn xd_X7_areIn rfl (Nat.le_of_ble_eq_true rfl) dX7_ahead_79 ?_
      refine x_goto (tgt := 134) dX7_ahead_82 (by decide) ?_
      refine x_sub [0] rfl ?_
      exact s_X7_ahead_j3 a1 a2 r8 im
  · refine x_aload_n (q := 0) rfl rfl dX7_ahead_63 ?_
    refine x_bind (fun r9 er9 => ?_)
    refine x_callVV (av := []) (st := []) (m_X7_minute   im r9 er9) sh_82 (by decide) rfl rfl (by decide) (by decide) lk_X7_135 cd_X7_minute xd_X7_minute rfl (Nat.le_of_ble_eq_true rfl) dX7_ahead_64 ?_
    refine x_iinc (q := 3) (a := 1) (lv' := fun v10 => [(3, .int v10), (0, .ref (g.1 82)), (1, .int a1), (2, .int a2)]) dX7_ahead_67 rfl (by decide) (by decide) (fun _ => rfl) (fun v10 => ?_)
    refine x_goto (tgt := 58) dX7_ahead_70 (by decide) ?_
    refine x_sub [1, 2, 3, 0] rfl ?_
    exact hk58 v10 r9
set_option maxRecDepth 20000 in
set_option maxHeartbeats 4000000 in
theorem s_X7_ahead_l2 {g : GX} (a1 : Int32) (a2 : Int32)    (n : Nat) : ∀ (x3 : Int32) (im : IM), X g md_X7_ahead eI 58 [(0, .ref (g.1 82)), (1, .int a1), (2, .int a2), (3, .int x3)] [] im (f_X7_ahead_l2 a1 a2 n x3 im) := by
  induction n with
  | zero => intro x3 im; exact x_none
  | succ n ih => intro x3 im; exact s_X7_ahead_l2b a1 a2 (f_X7_ahead_l2 a1 a2 n) ih x3 im
def f_X7_ahead (a1 : Int32) (a2 : Int32) (im : IM) : Option (Int32 × IM) :=
  if (f_X7_in a1.toInt64 0 200) = 0 then
    f_X7_ahead_j1 a1 a2 im
  else
    if (f_X7_in a2.toInt64 0 (((3 + (im 83 1) : Int32).toInt64))) = 0 then
      f_X7_ahead_j1 a1 a2 im
    else
      if (f_X7_isTooLate a1 im) = 0 then
        (f_X7_puts im).bind fun r2 =>
        f_X7_ahead_l2 a1 a2 xF 0 r2
      else
        (f_X7_finds ((-1000005)) im).bind fun r11 =>
        some ((r11.1, r11.2))
set_option maxRecDepth 20000 in
set_option maxHeartbeats 4000000 in
theorem s_X7_ahead {g : GX}   (a1 : Int32) (a2 : Int32) (im : IM) : X g md_X7_ahead eI 0 [(0, .ref (g.1 82)), (1, .int a1), (2, .int a2)] [] im (f_X7_ahead a1 a2 im) := by
  refine x_iload_n (q := 1) rfl rfl dX7_ahead_0 ?_
  refine x_i2l dX7_ahead_1 ?_
  refine x_lconst (v := (0)) (by decide) dX7_ahead_2 ?_
  refine x_ldc2 cl_X7_146 dX7_ahead_3 ?_
  refine x_callSR (av := [.long a1.toInt64, .long 0, .long 200]) (st := []) (m_X7_in  a1.toInt64 0 200 im) rfl (by decide) (by decide) lk_X7_46 cd_X7_in xd_X7_in rfl (Nat.le_of_ble_eq_true rfl) dX7_ahead_6 ?_
  refine x_if_eq (tgt := 30) dX7_ahead_9 (by decide) ?_ ?_
  · refine x_sub [0] rfl ?_
    exact s_X7_ahead_j1 a1 a2 im
  · refine x_iload_n (q := 2) rfl rfl dX7_ahead_12 ?_
    refine x_i2l dX7_ahead_13 ?_
    refine x_lconst (v := (0)) (by decide) dX7_ahead_14 ?_
    refine x_iconst (v := (3)) (by decide) dX7_ahead_15 ?_
    refine x_aload_n (q := 0) rfl rfl dX7_ahead_16 ?_
    refine x_get (C := RX7) (T := TX7) sh_82 (by decide) rfl in_X7 0 (by decide) fl_X7_7 xf_7_0 dX7_ahead_17 ?_
    refine x_iconst (v := (1)) (by decide) dX7_ahead_20 ?_
    refine x_ialdc sh_83 (by decide) ix_1 dX7_ahead_21 ?_
    refine x_iadd dX7_ahead_22 ?_
    refine x_i2l dX7_ahead_23 ?_
    refine x_callSR (av := [.long a2.toInt64, .long 0, .long (((3 + (im 83 1) : Int32).toInt64))]) (st := []) (m_X7_in  a2.toInt64 0 ((((3 + (im 83 1) : Int32).toInt64))) im) rfl (by decide) (by decide) lk_X7_46 cd_X7_in xd_X7_in rfl (Nat.le_of_ble_eq_true rfl) dX7_ahead_24 ?_
    refine x_if_ne (tgt := 37) dX7_ahead_27 (by decide) ?_ ?_
    · refine x_aload_n (q := 0) rfl rfl dX7_ahead_37 ?_
      refine x_iload_n (q := 1) rfl rfl dX7_ahead_38 ?_
      refine x_callVR (av := [.int a1]) (st := []) (m_X7_isTooLate  a1 im) sh_82 (by decide) rfl rfl (by decide) (by decide) lk_X7_132 cd_X7_isTooLate xd_X7_isTooLate rfl (Nat.le_of_ble_eq_true rfl) dX7_ahead_39 ?_
      refine x_if_eq (tgt := 52) dX7_ahead_42 (by decide) ?_ ?_
      · refine x_aload_n (q := 0) rfl rfl dX7_ahead_52 ?_
        refine x_bind (fun r2 er2 => ?_)
        refine x_callVV (av := []) (st := []) (m_X7_puts   im r2 er2) sh_82 (by decide) rfl rfl (by decide) (by decide) lk_X7_148 cd_X7_puts xd_X7_puts rfl (Nat.le_of_ble_eq_true rfl) dX7_ahead_53 ?_
        refine x_iconst (v := (0)) (by decide) dX7_ahead_56 ?_
        refine x_istore_n (lv' := [(3, .int 0), (0, .ref (g.1 82)), (1, .int a1), (2, .int a2)]) rfl dX7_ahead_57 (by decide) rfl ?_
        refine x_sub [1, 2, 3, 0] rfl ?_
        exact s_X7_ahead_l2 a1 a2 xF 0 r2
      · refine x_aload_n (q := 0) rfl rfl dX7_ahead_45 ?_
        refine x_ldc co_X7_109 dX7_ahead_46 ?_
        refine x_bind (fun r11 er11 => ?_)
        refine x_callVI (av := [.int ((-1000005))]) (st := []) (m_X7_finds  (((-1000005))) im r11 er11) sh_82 (by decide) rfl rfl (by decide) (by decide) lk_X7_59 cd_X7_finds xd_X7_finds rfl (Nat.le_of_ble_eq_true rfl) dX7_ahead_48 ?_
        exact x_iret rfl rfl dX7_ahead_51
    · refine x_sub [0] rfl ?_
      exact s_X7_ahead_j1 a1 a2 im
theorem m_X7_ahead {g : GX}   (a1 : Int32) (a2 : Int32) (im : IM) (r : Int32 × IM) (hr : f_X7_ahead a1 a2 im = some r) : xMet g 5 yX7_ahead cX7_ahead 4 (some .int) [.ref (g.1 82), .int a1, .int a2] im (eI r) := x_met (by decide) (Nat.le_of_ble_eq_true rfl) rfl (s_X7_ahead a1 a2 im) r hr
abbrev md_X7_meet : xM := (5, 3, RX7, cX7_meet, (some .int))
def f_X7_meet_j3   (x1 : Int32) (s0 : Int32) (im : IM) : Option (Int32 × IM) :=
  (f_X7_putsBack im).bind fun r3 =>
  if s0 = 0 then
    (f_X7_finds ((-1000004)) r3).bind fun r4 =>
    some ((r4.1, r4.2))
  else
    some ((x1, r3))
set_option maxRecDepth 20000 in
set_option maxHeartbeats 4000000 in
theorem s_X7_meet_j3 {g : GX}    (x1 : Int32) (s0 : Int32)  (im : IM) : X g md_X7_meet eI 64 [(0, .ref (g.1 82)), (1, .int x1)] [.int s0] im (f_X7_meet_j3 x1 s0 im) := by
  refine x_istore_n (lv' := [(2, .int s0), (0, .ref (g.1 82)), (1, .int x1)]) rfl dX7_meet_64 (by decide) rfl ?_
  refine x_aload_n (q := 1) rfl rfl dX7_meet_65 ?_
  refine x_bind (fun r3 er3 => ?_)
  refine x_callVV (av := []) (st := []) (m_X7_putsBack   im r3 er3) sh_82 (by decide) rfl rfl (by decide) (by decide) lk_X7_154 cd_X7_putsBack xd_X7_putsBack rfl (Nat.le_of_ble_eq_true rfl) dX7_meet_66 ?_
  refine x_iload_n (q := 0) rfl rfl dX7_meet_69 ?_
  refine x_if_eq (tgt := 77) dX7_meet_70 (by decide) ?_ ?_
  · refine x_aload_n (q := 1) rfl rfl dX7_meet_77 ?_
    refine x_ldc co_X7_157 dX7_meet_78 ?_
    refine x_bind (fun r4 er4 => ?_)
    refine x_callVI (av := [.int ((-1000004))]) (st := []) (m_X7_finds  (((-1000004))) r3 r4 er4) sh_82 (by decide) rfl rfl (by decide) (by decide) lk_X7_59 cd_X7_finds xd_X7_finds rfl (Nat.le_of_ble_eq_true rfl) dX7_meet_80 ?_
    exact x_iret rfl rfl dX7_meet_83
  · refine x_iload_n (q := 2) rfl rfl dX7_meet_73 ?_
    refine x_goto (tgt := 83) dX7_meet_74 (by decide) ?_
    exact x_iret rfl rfl dX7_meet_83
def f_X7_meet_j2   (x1 : Int32) (im : IM) : Option (Int32 × IM) :=
  if (im 82 5) ≤ 0 then
    f_X7_meet_j3 x1 0 im
  else
    f_X7_meet_j3 x1 1 im
set_option maxRecDepth 20000 in
set_option maxHeartbeats 4000000 in
theorem s_X7_meet_j2 {g : GX}    (x1 : Int32)  (im : IM) : X g md_X7_meet eI 52 [(0, .ref (g.1 82)), (1, .int x1)] [] im (f_X7_meet_j2 x1 im) := by
  refine x_aload_n (q := 0) rfl rfl dX7_meet_52 ?_
  refine x_get (C := RX7) (T := TX7) sh_82 (by decide) rfl in_X7 5 (by decide) fl_X7_117 xf_7_5 dX7_meet_53 ?_
  refine x_if_le (tgt := 63) dX7_meet_56 (by decide) ?_ ?_
  · refine x_iconst (v := (0)) (by decide) dX7_meet_63 ?_
    refine x_sub [0, 1] rfl ?_
    exact s_X7_meet_j3 x1 0 im
  · refine x_iconst (v := (1)) (by decide) dX7_meet_59 ?_
    refine x_goto (tgt := 64) dX7_meet_60 (by decide) ?_
    refine x_sub [0, 1] rfl ?_
    exact s_X7_meet_j3 x1 1 im
def f_X7_meet_l1b    (k28 : Int32 → IM → Option (Int32 × IM)) (x1 : Int32) (im : IM) : Option (Int32 × IM) :=
  if 200 ≤ x1 then
    f_X7_meet_j2 x1 im
  else
    if (im 82 5) = 0 then
      (f_X7_minute im).bind fun r5 =>
      bnd (x1 + 1) fun v6 =>
      k28 v6 r5
    else
      f_X7_meet_j2 x1 im
def f_X7_meet_l1    : Nat → Int32 → IM → Option (Int32 × IM)
  | 0, _, _ => none
  | n + 1, x1, im => f_X7_meet_l1b (f_X7_meet_l1 n) x1 im
set_option maxRecDepth 20000 in
set_option maxHeartbeats 4000000 in
theorem s_X7_meet_l1b {g : GX}    (k28 : Int32 → IM → Option (Int32 × IM)) (hk28 : ∀ (x1 : Int32) (im : IM), X g md_X7_meet eI 28 [(0, .ref (g.1 82)), (1, .int x1)] [] im (k28 x1 im)) (x1 : Int32)  (im : IM) : X g md_X7_meet eI 28 [(0, .ref (g.1 82)), (1, .int x1)] [] im (f_X7_meet_l1b k28 x1 im) := by
  refine x_iload_n (q := 1) rfl rfl dX7_meet_28 ?_
  refine x_sipush (v := (200)) (by decide) dX7_meet_29 ?_
  refine x_icmp_ge (tgt := 52) dX7_meet_32 (by decide) ?_ ?_
  · refine x_sub [0, 1] rfl ?_
    exact s_X7_meet_j2 x1 im
  · refine x_aload_n (q := 0) rfl rfl dX7_meet_35 ?_
    refine x_get (C := RX7) (T := TX7) sh_82 (by decide) rfl in_X7 5 (by decide) fl_X7_117 xf_7_5 dX7_meet_36 ?_
    refine x_if_ne (tgt := 52) dX7_meet_39 (by decide) ?_ ?_
    · refine x_sub [0, 1] rfl ?_
      exact s_X7_meet_j2 x1 im
    · refine x_aload_n (q := 0) rfl rfl dX7_meet_42 ?_
      refine x_bind (fun r5 er5 => ?_)
      refine x_callVV (av := []) (st := []) (m_X7_minute   im r5 er5) sh_82 (by decide) rfl rfl (by decide) (by decide) lk_X7_135 cd_X7_minute xd_X7_minute rfl (Nat.le_of_ble_eq_true rfl) dX7_meet_43 ?_
      refine x_iinc (q := 1) (a := 1) (lv' := fun v6 => [(1, .int v6), (0, .ref (g.1 82))]) dX7_meet_46 rfl (by decide) (by decide) (fun _ => rfl) (fun v6 => ?_)
      refine x_goto (tgt := 28) dX7_meet_49 (by decide) ?_
      refine x_sub [1, 0] rfl ?_
      exact hk28 v6 r5
set_option maxRecDepth 20000 in
set_option maxHeartbeats 4000000 in
theorem s_X7_meet_l1 {g : GX}    (n : Nat) : ∀ (x1 : Int32) (im : IM), X g md_X7_meet eI 28 [(0, .ref (g.1 82)), (1, .int x1)] [] im (f_X7_meet_l1 n x1 im) := by
  induction n with
  | zero => intro x1 im; exact x_none
  | succ n ih => intro x1 im; exact s_X7_meet_l1b (f_X7_meet_l1 n) ih x1 im
def f_X7_meet  (im : IM) : Option (Int32 × IM) :=
  if (f_X7_isTooLate 200 im) = 0 then
    (f_X7_puts im).bind fun r1 =>
    bnd (up r1 82 5 0) fun m2 =>
    f_X7_meet_l1 xF 0 m2
  else
    (f_X7_finds ((-1000005)) im).bind fun r7 =>
    some ((r7.1, r7.2))
set_option maxRecDepth 20000 in
set_option maxHeartbeats 4000000 in
theorem s_X7_meet {g : GX}   (im : IM) : X g md_X7_meet eI 0 [(0, .ref (g.1 82))] [] im (f_X7_meet im) := by
  refine x_aload_n (q := 0) rfl rfl dX7_meet_0 ?_
  refine x_sipush (v := (200)) (by decide) dX7_meet_1 ?_
  refine x_callVR (av := [.int 200]) (st := []) (m_X7_isTooLate  200 im) sh_82 (by decide) rfl rfl (by decide) (by decide) lk_X7_132 cd_X7_isTooLate xd_X7_isTooLate rfl (Nat.le_of_ble_eq_true rfl) dX7_meet_4 ?_
  refine x_if_eq (tgt := 17) dX7_meet_7 (by decide) ?_ ?_
  · refine x_aload_n (q := 0) rfl rfl dX7_meet_17 ?_
    refine x_bind (fun r1 er1 => ?_)
    refine x_callVV (av := []) (st := []) (m_X7_puts   im r1 er1) sh_82 (by decide) rfl rfl (by decide) (by decide) lk_X7_148 cd_X7_puts xd_X7_puts rfl (Nat.le_of_ble_eq_true rfl) dX7_meet_18 ?_
    refine x_iconst (v := (0)) (by decide) dX7_meet_21 ?_
    refine x_istore_n (lv' := [(1, .int 0), (0, .ref (g.1 82))]) rfl dX7_meet_22 (by decide) rfl ?_
    refine x_aload_n (q := 1) rfl rfl dX7_meet_23 ?_
    refine x_iconst (v := (0)) (by decide) dX7_meet_24 ?_
    refine x_put (C := RX7) (T := TX7) (ty := .int) tyX7 tyX7_ok nmX7 sh_82 (by decide) rfl in_X7 5 (by decide) (by decide) fl_X7_117 rfl (by decide +kernel) rfl rfl dX7_meet_25 ?_
    refine x_bm (fun m2 => ?_)
    refine x_sub [1, 0] rfl ?_
    exact s_X7_meet_l1 xF 0 m2
  · refine x_aload_n (q := 0) rfl rfl dX7_meet_10 ?_
    refine x_ldc co_X7_109 dX7_meet_11 ?_
    refine x_bind (fun r7 er7 => ?_)
    refine x_callVI (av := [.int ((-1000005))]) (st := []) (m_X7_finds  (((-1000005))) im r7 er7) sh_82 (by decide) rfl rfl (by decide) (by decide) lk_X7_59 cd_X7_finds xd_X7_finds rfl (Nat.le_of_ble_eq_true rfl) dX7_meet_13 ?_
    exact x_iret rfl rfl dX7_meet_16
theorem m_X7_meet {g : GX}   (im : IM) (r : Int32 × IM) (hr : f_X7_meet im = some r) : xMet g 5 yX7_meet cX7_meet 3 (some .int) [.ref (g.1 82)] im (eI r) := x_met (by decide) (Nat.le_of_ble_eq_true rfl) rfl (s_X7_meet im) r hr
abbrev md_X7_alone : xM := (4, 6, RX7, cX7_alone, none)
def f_X7_alone_j4 (a1 : Int32) (a2 : Int32)  (x3 : Int32) (x4 : Int32) (x5 : Int32) (s0 : Int32) (im : IM) : Option (IM) :=
  bnd (up im 82 7 s0) fun m12 =>
  if inb (f_X7_at a1 4) 167 = true then
    bnd (up m12 83 (ix (f_X7_at a1 4)) x3) fun m13 =>
    if inb (f_X7_at a1 5) 167 = true then
      bnd (up m13 83 (ix (f_X7_at a1 5)) x4) fun m14 =>
      if inb (f_X7_at a1 6) 167 = true then
        bnd (up m14 83 (ix (f_X7_at a1 6)) x5) fun m15 =>
        some m15
      else none
    else none
  else none
set_option maxRecDepth 20000 in
set_option maxHeartbeats 4000000 in
theorem s_X7_alone_j4 {g : GX} (a1 : Int32) (a2 : Int32)    (x3 : Int32) (x4 : Int32) (x5 : Int32) (s0 : Int32)  (im : IM) : X g md_X7_alone eV 199 [(0, .ref (g.1 82)), (1, .int a1), (3, .int x3), (4, .int x4), (5, .int x5)] [.int s0, .ref (g.1 82)] im (f_X7_alone_j4 a1 a2 x3 x4 x5 s0 im) := by
  refine x_put (C := RX7) (T := TX7) (ty := .int) tyX7 tyX7_ok nmX7 sh_82 (by decide) rfl in_X7 7 (by decide) (by decide) fl_X7_170 rfl (by decide +kernel) rfl rfl dX7_alone_199 ?_
  refine x_bm (fun m12 => ?_)
  refine x_aload_n (q := 0) rfl rfl dX7_alone_202 ?_
  refine x_get (C := RX7) (T := TX7) sh_82 (by decide) rfl in_X7 0 (by decide) fl_X7_7 xf_7_0 dX7_alone_203 ?_
  refine x_iload_n (q := 1) rfl rfl dX7_alone_206 ?_
  refine x_iconst (v := (4)) (by decide) dX7_alone_207 ?_
  refine x_callSR (av := [.int a1, .int 4]) (st := [.ref (g.1 83)]) (m_X7_at  a1 4 m12) rfl (by decide) (by decide) lk_X7_72 cd_X7_at xd_X7_at rfl (Nat.le_of_ble_eq_true rfl) dX7_alone_208 ?_
  refine x_iload_n (q := 2) rfl rfl dX7_alone_211 ?_
  refine x_iast sh_83 dX7_alone_212 ?_
  refine x_bm (fun m13 => ?_)
  refine x_aload_n (q := 0) rfl rfl dX7_alone_213 ?_
  refine x_get (C := RX7) (T := TX7) sh_82 (by decide) rfl in_X7 0 (by decide) fl_X7_7 xf_7_0 dX7_alone_214 ?_
  refine x_iload_n (q := 1) rfl rfl dX7_alone_217 ?_
  refine x_iconst (v := (5)) (by decide) dX7_alone_218 ?_
  refine x_callSR (av := [.int a1, .int 5]) (st := [.ref (g.1 83)]) (m_X7_at  a1 5 m13) rfl (by decide) (by decide) lk_X7_72 cd_X7_at xd_X7_at rfl (Nat.le_of_ble_eq_true rfl) dX7_alone_219 ?_
  refine x_iload (q := 3) rfl dX7_alone_222 ?_
  refine x_iast sh_83 dX7_alone_224 ?_
  refine x_bm (fun m14 => ?_)
  refine x_aload_n (q := 0) rfl rfl dX7_alone_225 ?_
  refine x_get (C := RX7) (T := TX7) sh_82 (by decide) rfl in_X7 0 (by decide) fl_X7_7 xf_7_0 dX7_alone_226 ?_
  refine x_iload_n (q := 1) rfl rfl dX7_alone_229 ?_
  refine x_bipush (v := (6)) (by decide) dX7_alone_230 ?_
  refine x_callSR (av := [.int a1, .int 6]) (st := [.ref (g.1 83)]) (m_X7_at  a1 6 m14) rfl (by decide) (by decide) lk_X7_72 cd_X7_at xd_X7_at rfl (Nat.le_of_ble_eq_true rfl) dX7_alone_232 ?_
  refine x_iload (q := 4) rfl dX7_alone_235 ?_
  refine x_iast sh_83 dX7_alone_237 ?_
  refine x_bm (fun m15 => ?_)
  exact x_vret rfl rfl dX7_alone_238
def f_X7_alone_j3 (a1 : Int32) (a2 : Int32)  (x3 : Int32) (x4 : Int32) (x5 : Int32) (im : IM) : Option (IM) :=
  (f_X7_its a1 6 im).bind fun r9 =>
  bnd (up im 82 8 r9) fun m10 =>
  if (m10 82 8) = 2 then
    f_X7_alone_j4 a1 a2 x3 x4 x5 ((-1)) m10
  else
    (f_X7_its a1 4 m10).bind fun r11 =>
    f_X7_alone_j4 a1 a2 x3 x4 x5 r11 m10
set_option maxRecDepth 20000 in
set_option maxHeartbeats 4000000 in
theorem s_X7_alone_j3 {g : GX} (a1 : Int32) (a2 : Int32)    (x3 : Int32) (x4 : Int32) (x5 : Int32)  (im : IM) : X g md_X7_alone eV 169 [(0, .ref (g.1 82)), (1, .int a1), (3, .int x3), (4, .int x4), (5, .int x5)] [] im (f_X7_alone_j3 a1 a2 x3 x4 x5 im) := by
  refine x_aload_n (q := 0) rfl rfl dX7_alone_169 ?_
  refine x_aload_n (q := 0) rfl rfl dX7_alone_170 ?_
  refine x_iload_n (q := 1) rfl rfl dX7_alone_171 ?_
  refine x_bipush (v := (6)) (by decide) dX7_alone_172 ?_
  refine x_bind (fun r9 er9 => ?_)
  refine x_callVR (av := [.int a1, .int 6]) (st := [.ref (g.1 82)]) (m_X7_its  a1 6 im r9 er9) sh_82 (by decide) rfl rfl (by decide) (by decide) lk_X7_89 cd_X7_its xd_X7_its rfl (Nat.le_of_ble_eq_true rfl) dX7_alone_174 ?_
  refine x_put (C := RX7) (T := TX7) (ty := .int) tyX7 tyX7_ok nmX7 sh_82 (by decide) rfl in_X7 8 (by decide) (by decide) fl_X7_167 rfl (by decide +kernel) rfl rfl dX7_alone_177 ?_
  refine x_bm (fun m10 => ?_)
  refine x_aload_n (q := 0) rfl rfl dX7_alone_180 ?_
  refine x_aload_n (q := 0) rfl rfl dX7_alone_181 ?_
  refine x_get (C := RX7) (T := TX7) sh_82 (by decide) rfl in_X7 8 (by decide) fl_X7_167 xf_7_8 dX7_alone_182 ?_
  refine x_iconst (v := (2)) (by decide) dX7_alone_185 ?_
  refine x_icmp_ne (tgt := 193) dX7_alone_186 (by decide) ?_ ?_
  · refine x_aload_n (q := 0) rfl rfl dX7_alone_193 ?_
    refine x_iload_n (q := 1) rfl rfl dX7_alone_194 ?_
    refine x_iconst (v := (4)) (by decide) dX7_alone_195 ?_
    refine x_bind (fun r11 er11 => ?_)
    refine x_callVR (av := [.int a1, .int 4]) (st := [.ref (g.1 82)]) (m_X7_its  a1 4 m10 r11 er11) sh_82 (by decide) rfl rfl (by decide) (by decide) lk_X7_89 cd_X7_its xd_X7_its rfl (Nat.le_of_ble_eq_true rfl) dX7_alone_196 ?_
    refine x_sub [0, 1, 2, 3, 4] rfl ?_
    exact s_X7_alone_j4 a1 a2 x3 x4 x5 r11 m10
  · refine x_iconst (v := (-1)) (by decide) dX7_alone_189 ?_
    refine x_goto (tgt := 199) dX7_alone_190 (by decide) ?_
    refine x_sub [0, 1, 2, 3, 4] rfl ?_
    exact s_X7_alone_j4 a1 a2 x3 x4 x5 ((-1)) m10
def f_X7_alone_j6 (a1 : Int32) (a2 : Int32) (k57 : Int32 → Int32 → Int32 → IM → Option (IM)) (x3 : Int32) (x4 : Int32) (x5 : Int32) (s0 : Int32) (s1 : Int32) (im : IM) : Option (IM) :=
  bnd (up im 82 11 (s1 ||| s0)) fun m22 =>
  k57 x3 x4 x5 m22
set_option maxRecDepth 20000 in
set_option maxHeartbeats 4000000 in
theorem s_X7_alone_j6 {g : GX} (a1 : Int32) (a2 : Int32)  (k57 : Int32 → Int32 → Int32 → IM → Option (IM)) (hk57 : ∀ (x3 : Int32) (x4 : Int32) (x5 : Int32) (im : IM), X g md_X7_alone eV 57 [(0, .ref (g.1 82)), (1, .int a1), (3, .int x3), (4, .int x4), (5, .int x5)] [] im (k57 x3 x4 x5 im)) (x3 : Int32) (x4 : Int32) (x5 : Int32) (s0 : Int32) (s1 : Int32)  (im : IM) : X g md_X7_alone eV 162 [(0, .ref (g.1 82)), (1, .int a1), (3, .int x3), (4, .int x4), (5, .int x5)] [.int s0, .int s1, .ref (g.1 82)] im (f_X7_alone_j6 a1 a2 k57 x3 x4 x5 s0 s1 im) := by
  refine x_ior dX7_alone_162 ?_
  refine x_put (C := RX7) (T := TX7) (ty := .int) tyX7 tyX7_ok nmX7 sh_82 (by decide) rfl in_X7 11 (by decide) (by decide) fl_X7_164 rfl (by decide +kernel) rfl rfl dX7_alone_163 ?_
  refine x_bm (fun m22 => ?_)
  refine x_goto (tgt := 57) dX7_alone_166 (by decide) ?_
  refine x_sub [0, 1, 2, 3, 4] rfl ?_
  exact hk57 x3 x4 x5 m22
def f_X7_alone_j5 (a1 : Int32) (a2 : Int32) (k57 : Int32 → Int32 → Int32 → IM → Option (IM)) (x3 : Int32) (x4 : Int32) (x5 : Int32) (s0 : Int32) (im : IM) : Option (IM) :=
  bnd (up im 82 10 s0) fun m19 =>
  (f_X7_its a1 6 m19).bind fun r20 =>
  if r20 = 2 then
    f_X7_alone_j6 a1 a2 k57 x3 x4 x5 0 (m19 82 11) m19
  else
    (f_X7_its a1 4 m19).bind fun r21 =>
    f_X7_alone_j6 a1 a2 k57 x3 x4 x5 (jshl 1 r21) (m19 82 11) m19
set_option maxRecDepth 20000 in
set_option maxHeartbeats 4000000 in
theorem s_X7_alone_j5 {g : GX} (a1 : Int32) (a2 : Int32)  (k57 : Int32 → Int32 → Int32 → IM → Option (IM)) (hk57 : ∀ (x3 : Int32) (x4 : Int32) (x5 : Int32) (im : IM), X g md_X7_alone eV 57 [(0, .ref (g.1 82)), (1, .int a1), (3, .int x3), (4, .int x4), (5, .int x5)] [] im (k57 x3 x4 x5 im)) (x3 : Int32) (x4 : Int32) (x5 : Int32) (s0 : Int32)  (im : IM) : X g md_X7_alone eV 131 [(0, .ref (g.1 82)), (1, .int a1), (3, .int x3), (4, .int x4), (5, .int x5)] [.int s0, .ref (g.1 82)] im (f_X7_alone_j5 a1 a2 k57 x3 x4 x5 s0 im) := by
  refine x_put (C := RX7) (T := TX7) (ty := .int) tyX7 tyX7_ok nmX7 sh_82 (by decide) rfl in_X7 10 (by decide) (by decide) fl_X7_161 rfl (by decide +kernel) rfl rfl dX7_alone_131 ?_
  refine x_bm (fun m19 => ?_)
  refine x_aload_n (q := 0) rfl rfl dX7_alone_134 ?_
  refine x_dup rfl dX7_alone_135 ?_
  refine x_get (C := RX7) (T := TX7) sh_82 (by decide) rfl in_X7 11 (by decide) fl_X7_164 xf_7_11 dX7_alone_136 ?_
  refine x_aload_n (q := 0) rfl rfl dX7_alone_139 ?_
  refine x_iload_n (q := 1) rfl rfl dX7_alone_140 ?_
  refine x_bipush (v := (6)) (by decide) dX7_alone_141 ?_
  refine x_bind (fun r20 er20 => ?_)
  refine x_callVR (av := [.int a1, .int 6]) (st := [.int (m19 82 11), .ref (g.1 82)]) (m_X7_its  a1 6 m19 r20 er20) sh_82 (by decide) rfl rfl (by decide) (by decide) lk_X7_89 cd_X7_its xd_X7_its rfl (Nat.le_of_ble_eq_true rfl) dX7_alone_143 ?_
  refine x_iconst (v := (2)) (by decide) dX7_alone_146 ?_
  refine x_icmp_ne (tgt := 154) dX7_alone_147 (by decide) ?_ ?_
  · refine x_iconst (v := (1)) (by decide) dX7_alone_154 ?_
    refine x_aload_n (q := 0) rfl rfl dX7_alone_155 ?_
    refine x_iload_n (q := 1) rfl rfl dX7_alone_156 ?_
    refine x_iconst (v := (4)) (by decide) dX7_alone_157 ?_
    refine x_bind (fun r21 er21 => ?_)
    refine x_callVR (av := [.int a1, .int 4]) (st := [.int 1, .int (m19 82 11), .ref (g.1 82)]) (m_X7_its  a1 4 m19 r21 er21) sh_82 (by decide) rfl rfl (by decide) (by decide) lk_X7_89 cd_X7_its xd_X7_its rfl (Nat.le_of_ble_eq_true rfl) dX7_alone_158 ?_
    refine x_ishl dX7_alone_161 ?_
    refine x_sub [0, 1, 2, 3, 4] rfl ?_
    exact s_X7_alone_j6 a1 a2 k57 hk57 x3 x4 x5 (jshl 1 r21) (m19 82 11) m19
  · refine x_iconst (v := (0)) (by decide) dX7_alone_150 ?_
    refine x_goto (tgt := 162) dX7_alone_151 (by decide) ?_
    refine x_sub [0, 1, 2, 3, 4] rfl ?_
    exact s_X7_alone_j6 a1 a2 k57 hk57 x3 x4 x5 0 (m19 82 11) m19
def f_X7_alone_l2b (a1 : Int32) (a2 : Int32)   (k57 : Int32 → Int32 → Int32 → IM → Option (IM)) (x3 : Int32) (x4 : Int32) (x5 : Int32) (im : IM) : Option (IM) :=
  (f_X7_its a1 6 im).bind fun r8 =>
  if r8 = 1 then
    if 200 ≤ (im 82 9) then
      f_X7_alone_j3 a1 a2 x3 x4 x5 im
    else
      (f_X7_rolls a1 ((im 83 0) + (im 82 9)) im).bind fun r16 =>
      bnd (up r16 82 9 ((r16 82 9) + 1)) fun m17 =>
      (f_X7_its a1 5 m17).bind fun r18 =>
      if r18 ≤ (m17 82 10) then
        f_X7_alone_j5 a1 a2 k57 x3 x4 x5 (m17 82 10) m17
      else
        (f_X7_its a1 5 m17).bind fun r23 =>
        f_X7_alone_j5 a1 a2 k57 x3 x4 x5 r23 m17
  else
    f_X7_alone_j3 a1 a2 x3 x4 x5 im
def f_X7_alone_l2 (a1 : Int32) (a2 : Int32)   : Nat → Int32 → Int32 → Int32 → IM → Option (IM)
  | 0, _, _, _, _ => none
  | n + 1, x3, x4, x5, im => f_X7_alone_l2b a1 a2 (f_X7_alone_l2 a1 a2 n) x3 x4 x5 im
set_option maxRecDepth 20000 in
set_option maxHeartbeats 4000000 in
theorem s_X7_alone_l2b {g : GX} (a1 : Int32) (a2 : Int32)    (k57 : Int32 → Int32 → Int32 → IM → Option (IM)) (hk57 : ∀ (x3 : Int32) (x4 : Int32) (x5 : Int32) (im : IM), X g md_X7_alone eV 57 [(0, .ref (g.1 82)), (1, .int a1), (3, .int x3), (4, .int x4), (5, .int x5)] [] im (k57 x3 x4 x5 im)) (x3 : Int32) (x4 : Int32) (x5 : Int32)  (im : IM) : X g md_X7_alone eV 57 [(0, .ref (g.1 82)), (1, .int a1), (3, .int x3), (4, .int x4), (5, .int x5)] [] im (f_X7_alone_l2b a1 a2 k57 x3 x4 x5 im) := by
  refine x_aload_n (q := 0) rfl rfl dX7_alone_57 ?_
  refine x_iload_n (q := 1) rfl rfl dX7_alone_58 ?_
  refine x_bipush (v := (6)) (by decide) dX7_alone_59 ?_
  refine x_bind (fun r8 er8 => ?_)
  refine x_callVR (av := [.int a1, .int 6]) (st := []) (m_X7_its  a1 6 im r8 er8) sh_82 (by decide) rfl rfl (by decide) (by decide) lk_X7_89 cd_X7_its xd_X7_its rfl (Nat.le_of_ble_eq_true rfl) dX7_alone_61 ?_
  refine x_iconst (v := (1)) (by decide) dX7_alone_64 ?_
  refine x_icmp_ne (tgt := 169) dX7_alone_65 (by decide) ?_ ?_
  · refine x_sub [0, 1, 2, 3, 4] rfl ?_
    exact s_X7_alone_j3 a1 a2 x3 x4 x5 im
  · refine x_aload_n (q := 0) rfl rfl dX7_alone_68 ?_
    refine x_get (C := RX7) (T := TX7) sh_82 (by decide) rfl in_X7 9 (by decide) fl_X7_158 xf_7_9 dX7_alone_69 ?_
    refine x_sipush (v := (200)) (by decide) dX7_alone_72 ?_
    refine x_icmp_ge (tgt := 169) dX7_alone_75 (by decide) ?_ ?_
    · refine x_sub [0, 1, 2, 3, 4] rfl ?_
      exact s_X7_alone_j3 a1 a2 x3 x4 x5 im
    · refine x_aload_n (q := 0) rfl rfl dX7_alone_78 ?_
      refine x_iload_n (q := 1) rfl rfl dX7_alone_79 ?_
      refine x_aload_n (q := 0) rfl rfl dX7_alone_80 ?_
      refine x_get (C := RX7) (T := TX7) sh_82 (by decide) rfl in_X7 0 (by decide) fl_X7_7 xf_7_0 dX7_alone_81 ?_
      refine x_iconst (v := (0)) (by decide) dX7_alone_84 ?_
      refine x_ialdc sh_83 (by decide) ix_0 dX7_alone_85 ?_
      refine x_aload_n (q := 0) rfl rfl dX7_alone_86 ?_
      refine x_get (C := RX7) (T := TX7) sh_82 (by decide) rfl in_X7 9 (by decide) fl_X7_158 xf_7_9 dX7_alone_87 ?_
      refine x_iadd dX7_alone_90 ?_
      refine x_bind (fun r16 er16 => ?_)
      refine x_callVV (av := [.int a1, .int ((im 83 0) + (im 82 9))]) (st := []) (m_X7_rolls  a1 (((im 83 0) + (im 82 9))) im r16 er16) sh_82 (by decide) rfl rfl (by decide) (by decide) lk_X7_124 cd_X7_rolls xd_X7_rolls rfl (Nat.le_of_ble_eq_true rfl) dX7_alone_91 ?_
      refine x_aload_n (q := 0) rfl rfl dX7_alone_94 ?_
      refine x_dup rfl dX7_alone_95 ?_
      refine x_get (C := RX7) (T := TX7) sh_82 (by decide) rfl in_X7 9 (by decide) fl_X7_158 xf_7_9 dX7_alone_96 ?_
      refine x_iconst (v := (1)) (by decide) dX7_alone_99 ?_
      refine x_iadd dX7_alone_100 ?_
      refine x_put (C := RX7) (T := TX7) (ty := .int) tyX7 tyX7_ok nmX7 sh_82 (by decide) rfl in_X7 9 (by decide) (by decide) fl_X7_158 rfl (by decide +kernel) rfl rfl dX7_alone_101 ?_
      refine x_bm (fun m17 => ?_)
      refine x_aload_n (q := 0) rfl rfl dX7_alone_104 ?_
      refine x_aload_n (q := 0) rfl rfl dX7_alone_105 ?_
      refine x_iload_n (q := 1) rfl rfl dX7_alone_106 ?_
      refine x_iconst (v := (5)) (by decide) dX7_alone_107 ?_
      refine x_bind (fun r18 er18 => ?_)
      refine x_callVR (av := [.int a1, .int 5]) (st := [.ref (g.1 82)]) (m_X7_its  a1 5 m17 r18 er18) sh_82 (by decide) rfl rfl (by decide) (by decide) lk_X7_89 cd_X7_its xd_X7_its rfl (Nat.le_of_ble_eq_true rfl) dX7_alone_108 ?_
      refine x_aload_n (q := 0) rfl rfl dX7_alone_111 ?_
      refine x_get (C := RX7) (T := TX7) sh_82 (by decide) rfl in_X7 10 (by decide) fl_X7_161 xf_7_10 dX7_alone_112 ?_
      refine x_icmp_le (tgt := 127) dX7_alone_115 (by decide) ?_ ?_
      · refine x_aload_n (q := 0) rfl rfl dX7_alone_127 ?_
        refine x_get (C := RX7) (T := TX7) sh_82 (by decide) rfl in_X7 10 (by decide) fl_X7_161 xf_7_10 dX7_alone_128 ?_
        refine x_sub [0, 1, 2, 3, 4] rfl ?_
        exact s_X7_alone_j5 a1 a2 k57 hk57 x3 x4 x5 (m17 82 10) m17
      · refine x_aload_n (q := 0) rfl rfl dX7_alone_118 ?_
        refine x_iload_n (q := 1) rfl rfl dX7_alone_119 ?_
        refine x_iconst (v := (5)) (by decide) dX7_alone_120 ?_
        refine x_bind (fun r23 er23 => ?_)
        refine x_callVR (av := [.int a1, .int 5]) (st := [.ref (g.1 82)]) (m_X7_its  a1 5 m17 r23 er23) sh_82 (by decide) rfl rfl (by decide) (by decide) lk_X7_89 cd_X7_its xd_X7_its rfl (Nat.le_of_ble_eq_true rfl) dX7_alone_121 ?_
        refine x_goto (tgt := 131) dX7_alone_124 (by decide) ?_
        refine x_sub [0, 1, 2, 3, 4] rfl ?_
        exact s_X7_alone_j5 a1 a2 k57 hk57 x3 x4 x5 r23 m17
set_option maxRecDepth 20000 in
set_option maxHeartbeats 4000000 in
theorem s_X7_alone_l2 {g : GX} (a1 : Int32) (a2 : Int32)    (n : Nat) : ∀ (x3 : Int32) (x4 : Int32) (x5 : Int32) (im : IM), X g md_X7_alone eV 57 [(0, .ref (g.1 82)), (1, .int a1), (3, .int x3), (4, .int x4), (5, .int x5)] [] im (f_X7_alone_l2 a1 a2 n x3 x4 x5 im) := by
  induction n with
  | zero => intro x3 x4 x5 im; exact x_none
  | succ n ih => intro x3 x4 x5 im; exact s_X7_alone_l2b a1 a2 (f_X7_alone_l2 a1 a2 n) ih x3 x4 x5 im
def f_X7_alone_j1 (a1 : Int32) (a2 : Int32)  (x3 : Int32) (x4 : Int32) (x5 : Int32) (im : IM) : Option (IM) :=
  bnd (up im 82 9 0) fun m4 =>
  (f_X7_its a1 5 m4).bind fun r5 =>
  bnd (up m4 82 10 r5) fun m6 =>
  bnd (up m6 82 11 (jshl 1 x3)) fun m7 =>
  f_X7_alone_l2 a1 a2 xF x3 x4 x5 m7
set_option maxRecDepth 20000 in
set_option maxHeartbeats 4000000 in
theorem s_X7_alone_j1 {g : GX} (a1 : Int32) (a2 : Int32)    (x3 : Int32) (x4 : Int32) (x5 : Int32)  (im : IM) : X g md_X7_alone eV 35 [(0, .ref (g.1 82)), (1, .int a1), (3, .int x3), (4, .int x4), (5, .int x5)] [] im (f_X7_alone_j1 a1 a2 x3 x4 x5 im) := by
  refine x_aload_n (q := 0) rfl rfl dX7_alone_35 ?_
  refine x_iconst (v := (0)) (by decide) dX7_alone_36 ?_
  refine x_put (C := RX7) (T := TX7) (ty := .int) tyX7 tyX7_ok nmX7 sh_82 (by decide) rfl in_X7 9 (by decide) (by decide) fl_X7_158 rfl (by decide +kernel) rfl rfl dX7_alone_37 ?_
  refine x_bm (fun m4 => ?_)
  refine x_aload_n (q := 0) rfl rfl dX7_alone_40 ?_
  refine x_aload_n (q := 0) rfl rfl dX7_alone_41 ?_
  refine x_iload_n (q := 1) rfl rfl dX7_alone_42 ?_
  refine x_iconst (v := (5)) (by decide) dX7_alone_43 ?_
  refine x_bind (fun r5 er5 => ?_)
  refine x_callVR (av := [.int a1, .int 5]) (st := [.ref (g.1 82)]) (m_X7_its  a1 5 m4 r5 er5) sh_82 (by decide) rfl rfl (by decide) (by decide) lk_X7_89 cd_X7_its xd_X7_its rfl (Nat.le_of_ble_eq_true rfl) dX7_alone_44 ?_
  refine x_put (C := RX7) (T := TX7) (ty := .int) tyX7 tyX7_ok nmX7 sh_82 (by decide) rfl in_X7 10 (by decide) (by decide) fl_X7_161 rfl (by decide +kernel) rfl rfl dX7_alone_47 ?_
  refine x_bm (fun m6 => ?_)
  refine x_aload_n (q := 0) rfl rfl dX7_alone_50 ?_
  refine x_iconst (v := (1)) (by decide) dX7_alone_51 ?_
  refine x_iload_n (q := 2) rfl rfl dX7_alone_52 ?_
  refine x_ishl dX7_alone_53 ?_
  refine x_put (C := RX7) (T := TX7) (ty := .int) tyX7 tyX7_ok nmX7 sh_82 (by decide) rfl in_X7 11 (by decide) (by decide) fl_X7_164 rfl (by decide +kernel) rfl rfl dX7_alone_54 ?_
  refine x_bm (fun m7 => ?_)
  refine x_sub [0, 1, 2, 3, 4] rfl ?_
  exact s_X7_alone_l2 a1 a2 xF x3 x4 x5 m7
def f_X7_alone (a1 : Int32) (a2 : Int32) (im : IM) : Option (IM) :=
  (f_X7_its a1 4 im).bind fun r1 =>
  (f_X7_its a1 5 im).bind fun r2 =>
  (f_X7_its a1 6 im).bind fun r3 =>
  if r3 = 0 then
    (f_X7_letsGo a1 a2 im).bind fun r24 =>
    f_X7_alone_j1 a1 a2 r1 r2 r3 r24
  else
    f_X7_alone_j1 a1 a2 r1 r2 r3 im
set_option maxRecDepth 20000 in
set_option maxHeartbeats 4000000 in
theorem s_X7_alone {g : GX}   (a1 : Int32) (a2 : Int32) (im : IM) : X g md_X7_alone eV 0 [(0, .ref (g.1 82)), (1, .int a1), (2, .int a2)] [] im (f_X7_alone a1 a2 im) := by
  refine x_aload_n (q := 0) rfl rfl dX7_alone_0 ?_
  refine x_iload_n (q := 1) rfl rfl dX7_alone_1 ?_
  refine x_iconst (v := (4)) (by decide) dX7_alone_2 ?_
  refine x_bind (fun r1 er1 => ?_)
  refine x_callVR (av := [.int a1, .int 4]) (st := []) (m_X7_its  a1 4 im r1 er1) sh_82 (by decide) rfl rfl (by decide) (by decide) lk_X7_89 cd_X7_its xd_X7_its rfl (Nat.le_of_ble_eq_true rfl) dX7_alone_3 ?_
  refine x_istore_n (lv' := [(3, .int r1), (0, .ref (g.1 82)), (1, .int a1), (2, .int a2)]) rfl dX7_alone_6 (by decide) rfl ?_
  refine x_aload_n (q := 1) rfl rfl dX7_alone_7 ?_
  refine x_iload_n (q := 2) rfl rfl dX7_alone_8 ?_
  refine x_iconst (v := (5)) (by decide) dX7_alone_9 ?_
  refine x_bind (fun r2 er2 => ?_)
  refine x_callVR (av := [.int a1, .int 5]) (st := []) (m_X7_its  a1 5 im r2 er2) sh_82 (by decide) rfl rfl (by decide) (by decide) lk_X7_89 cd_X7_its xd_X7_its rfl (Nat.le_of_ble_eq_true rfl) dX7_alone_10 ?_
  refine x_istore (lv' := [(4, .int r2), (3, .int r1), (0, .ref (g.1 82)), (1, .int a1), (2, .int a2)]) dX7_alone_13 (by decide) rfl ?_
  refine x_aload_n (q := 2) rfl rfl dX7_alone_15 ?_
  refine x_iload_n (q := 3) rfl rfl dX7_alone_16 ?_
  refine x_bipush (v := (6)) (by decide) dX7_alone_17 ?_
  refine x_bind (fun r3 er3 => ?_)
  refine x_callVR (av := [.int a1, .int 6]) (st := []) (m_X7_its  a1 6 im r3 er3) sh_82 (by decide) rfl rfl (by decide) (by decide) lk_X7_89 cd_X7_its xd_X7_its rfl (Nat.le_of_ble_eq_true rfl) dX7_alone_19 ?_
  refine x_istore (lv' := [(5, .int r3), (4, .int r2), (3, .int r1), (0, .ref (g.1 82)), (1, .int a1), (2, .int a2)]) dX7_alone_22 (by decide) rfl ?_
  refine x_iload (q := 0) rfl dX7_alone_24 ?_
  refine x_if_ne (tgt := 35) dX7_alone_26 (by decide) ?_ ?_
  · refine x_sub [3, 4, 2, 1, 0] rfl ?_
    exact s_X7_alone_j1 a1 a2 r1 r2 r3 im
  · refine x_aload_n (q := 3) rfl rfl dX7_alone_29 ?_
    refine x_iload_n (q := 4) rfl rfl dX7_alone_30 ?_
    refine x_iload_n (q := 5) rfl rfl dX7_alone_31 ?_
    refine x_bind (fun r24 er24 => ?_)
    refine x_callVV (av := [.int a1, .int a2]) (st := []) (m_X7_letsGo  a1 a2 im r24 er24) sh_82 (by decide) rfl rfl (by decide) (by decide) lk_X7_110 cd_X7_letsGo xd_X7_letsGo rfl (Nat.le_of_ble_eq_true rfl) dX7_alone_32 ?_
    refine x_sub [3, 4, 2, 1, 0] rfl ?_
    exact s_X7_alone_j1 a1 a2 r1 r2 r3 r24
theorem m_X7_alone {g : GX}   (a1 : Int32) (a2 : Int32) (im : IM) (r : IM) (hr : f_X7_alone a1 a2 im = some r) : xMet g 4 yX7_alone cX7_alone 6 none [.ref (g.1 82), .int a1, .int a2] im (eV r) := x_met (by decide) (Nat.le_of_ble_eq_true rfl) rfl (s_X7_alone a1 a2 im) r hr
abbrev md_X7_rollWrong : xM := (5, 2, RX7, cX7_rollWrong, (some .int))
def f_X7_rollWrong_j1 (a1 : Int32)   (im : IM) : Option (Int32 × IM) :=
  some (((-1000005), im))
set_option maxRecDepth 20000 in
set_option maxHeartbeats 4000000 in
theorem s_X7_rollWrong_j1 {g : GX} (a1 : Int32)      (im : IM) : X g md_X7_rollWrong eI 40 [] [] im (f_X7_rollWrong_j1 a1 im) := by
  refine x_ldc co_X7_109 dX7_rollWrong_40 ?_
  exact x_iret rfl rfl dX7_rollWrong_42
def f_X7_rollWrong (a1 : Int32) (im : IM) : Option (Int32 × IM) :=
  if (f_X7_isThing a1 im) = 0 then
    some (((-1000001), im))
  else
    (f_X7_isOnLane a1 im).bind fun r1 =>
    if r1 = 0 then
      f_X7_rollWrong_j1 a1 im
    else
      (f_X7_its a1 4 im).bind fun r2 =>
      if r2 = 30 then
        f_X7_rollWrong_j1 a1 im
      else
        if (f_X7_isTooLate 200 im) = 0 then
          (f_X7_alone a1 10 im).bind fun r3 =>
          some ((0, r3))
        else
          f_X7_rollWrong_j1 a1 im
set_option maxRecDepth 20000 in
set_option maxHeartbeats 4000000 in
theorem s_X7_rollWrong {g : GX}  (a1 : Int32) (im : IM) : X g md_X7_rollWrong eI 0 [(0, .ref (g.1 82)), (1, .int a1)] [] im (f_X7_rollWrong a1 im) := by
  refine x_aload_n (q := 0) rfl rfl dX7_rollWrong_0 ?_
  refine x_iload_n (q := 1) rfl rfl dX7_rollWrong_1 ?_
  refine x_callVR (av := [.int a1]) (st := []) (m_X7_isThing  a1 im) sh_82 (by decide) rfl rfl (by decide) (by decide) lk_X7_92 cd_X7_isThing xd_X7_isThing rfl (Nat.le_of_ble_eq_true rfl) dX7_rollWrong_2 ?_
  refine x_if_ne (tgt := 11) dX7_rollWrong_5 (by decide) ?_ ?_
  · refine x_aload_n (q := 0) rfl rfl dX7_rollWrong_11 ?_
    refine x_iload_n (q := 1) rfl rfl dX7_rollWrong_12 ?_
    refine x_bind (fun r1 er1 => ?_)
    refine x_callVR (av := [.int a1]) (st := []) (m_X7_isOnLane  a1 im r1 er1) sh_82 (by decide) rfl rfl (by decide) (by decide) lk_X7_114 cd_X7_isOnLane xd_X7_isOnLane rfl (Nat.le_of_ble_eq_true rfl) dX7_rollWrong_13 ?_
    refine x_if_eq (tgt := 40) dX7_rollWrong_16 (by decide) ?_ ?_
    · refine x_sub [] rfl ?_
      exact s_X7_rollWrong_j1 a1 im
    · refine x_aload_n (q := 0) rfl rfl dX7_rollWrong_19 ?_
      refine x_iload_n (q := 1) rfl rfl dX7_rollWrong_20 ?_
      refine x_iconst (v := (4)) (by decide) dX7_rollWrong_21 ?_
      refine x_bind (fun r2 er2 => ?_)
      refine x_callVR (av := [.int a1, .int 4]) (st := []) (m_X7_its  a1 4 im r2 er2) sh_82 (by decide) rfl rfl (by decide) (by decide) lk_X7_89 cd_X7_its xd_X7_its rfl (Nat.le_of_ble_eq_true rfl) dX7_rollWrong_22 ?_
      refine x_bipush (v := (30)) (by decide) dX7_rollWrong_25 ?_
      refine x_icmp_eq (tgt := 40) dX7_rollWrong_27 (by decide) ?_ ?_
      · refine x_sub [] rfl ?_
        exact s_X7_rollWrong_j1 a1 im
      · refine x_aload_n (q := 0) rfl rfl dX7_rollWrong_30 ?_
        refine x_sipush (v := (200)) (by decide) dX7_rollWrong_31 ?_
        refine x_callVR (av := [.int 200]) (st := []) (m_X7_isTooLate  200 im) sh_82 (by decide) rfl rfl (by decide) (by decide) lk_X7_132 cd_X7_isTooLate xd_X7_isTooLate rfl (Nat.le_of_ble_eq_true rfl) dX7_rollWrong_34 ?_
        refine x_if_eq (tgt := 43) dX7_rollWrong_37 (by decide) ?_ ?_
        · refine x_aload_n (q := 0) rfl rfl dX7_rollWrong_43 ?_
          refine x_iload_n (q := 1) rfl rfl dX7_rollWrong_44 ?_
          refine x_bipush (v := (10)) (by decide) dX7_rollWrong_45 ?_
          refine x_bind (fun r3 er3 => ?_)
          refine x_callVV (av := [.int a1, .int 10]) (st := []) (m_X7_alone  a1 10 im r3 er3) sh_82 (by decide) rfl rfl (by decide) (by decide) lk_X7_173 cd_X7_alone xd_X7_alone rfl (Nat.le_of_ble_eq_true rfl) dX7_rollWrong_47 ?_
          refine x_iconst (v := (0)) (by decide) dX7_rollWrong_50 ?_
          exact x_iret rfl rfl dX7_rollWrong_51
        · refine x_sub [] rfl ?_
          exact s_X7_rollWrong_j1 a1 im
  · refine x_ldc co_X7_43 dX7_rollWrong_8 ?_
    exact x_iret rfl rfl dX7_rollWrong_10
theorem m_X7_rollWrong {g : GX}  (a1 : Int32) (im : IM) (r : Int32 × IM) (hr : f_X7_rollWrong a1 im = some r) : xMet g 5 yX7_rollWrong cX7_rollWrong 2 (some .int) [.ref (g.1 82), .int a1] im (eI r) := x_met (by decide) (Nat.le_of_ble_eq_true rfl) rfl (s_X7_rollWrong a1 im) r hr
abbrev md_X7_ends : xM := (6, 3, RX7, cX7_ends, (some .int))
def f_X7_ends (a1 : Int32) (im : IM) : Option (Int32 × IM) :=
  (f_X7_rollWrong a1 im).bind fun r1 =>
  if r1.1 = 0 then
    if (r1.2 82 8) = 1 then
      (f_X7_finds ((-1000004)) r1.2).bind fun r2 =>
      some ((r2.1, r2.2))
    else
      some ((r1.2 82 7, r1.2))
  else
    (f_X7_finds r1.1 r1.2).bind fun r3 =>
    some ((r3.1, r3.2))
set_option maxRecDepth 20000 in
set_option maxHeartbeats 4000000 in
theorem s_X7_ends {g : GX}  (a1 : Int32) (im : IM) : X g md_X7_ends eI 0 [(0, .ref (g.1 82)), (1, .int a1)] [] im (f_X7_ends a1 im) := by
  refine x_aload_n (q := 0) rfl rfl dX7_ends_0 ?_
  refine x_iload_n (q := 1) rfl rfl dX7_ends_1 ?_
  refine x_bind (fun r1 er1 => ?_)
  refine x_callVI (av := [.int a1]) (st := []) (m_X7_rollWrong  a1 im r1 er1) sh_82 (by decide) rfl rfl (by decide) (by decide) lk_X7_176 cd_X7_rollWrong xd_X7_rollWrong rfl (Nat.le_of_ble_eq_true rfl) dX7_ends_2 ?_
  refine x_istore_n (lv' := [(2, .int r1.1), (0, .ref (g.1 82)), (1, .int a1)]) rfl dX7_ends_5 (by decide) rfl ?_
  refine x_iload_n (q := 0) rfl rfl dX7_ends_6 ?_
  refine x_if_eq (tgt := 16) dX7_ends_7 (by decide) ?_ ?_
  · refine x_aload_n (q := 1) rfl rfl dX7_ends_16 ?_
    refine x_get (C := RX7) (T := TX7) sh_82 (by decide) rfl in_X7 8 (by decide) fl_X7_167 xf_7_8 dX7_ends_17 ?_
    refine x_iconst (v := (1)) (by decide) dX7_ends_20 ?_
    refine x_icmp_ne (tgt := 33) dX7_ends_21 (by decide) ?_ ?_
    · refine x_aload_n (q := 1) rfl rfl dX7_ends_33 ?_
      refine x_get (C := RX7) (T := TX7) sh_82 (by decide) rfl in_X7 7 (by decide) fl_X7_170 xf_7_7 dX7_ends_34 ?_
      exact x_iret rfl rfl dX7_ends_37
    · refine x_aload_n (q := 1) rfl rfl dX7_ends_24 ?_
      refine x_ldc co_X7_157 dX7_ends_25 ?_
      refine x_bind (fun r2 er2 => ?_)
      refine x_callVI (av := [.int ((-1000004))]) (st := []) (m_X7_finds  (((-1000004))) r1.2 r2 er2) sh_82 (by decide) rfl rfl (by decide) (by decide) lk_X7_59 cd_X7_finds xd_X7_finds rfl (Nat.le_of_ble_eq_true rfl) dX7_ends_27 ?_
      refine x_goto (tgt := 37) dX7_ends_30 (by decide) ?_
      exact x_iret rfl rfl dX7_ends_37
  · refine x_aload_n (q := 1) rfl rfl dX7_ends_10 ?_
    refine x_iload_n (q := 0) rfl rfl dX7_ends_11 ?_
    refine x_bind (fun r3 er3 => ?_)
    refine x_callVI (av := [.int r1.1]) (st := []) (m_X7_finds  r1.1 r1.2 r3 er3) sh_82 (by decide) rfl rfl (by decide) (by decide) lk_X7_59 cd_X7_finds xd_X7_finds rfl (Nat.le_of_ble_eq_true rfl) dX7_ends_12 ?_
    exact x_iret rfl rfl dX7_ends_15
theorem m_X7_ends {g : GX}  (a1 : Int32) (im : IM) (r : Int32 × IM) (hr : f_X7_ends a1 im = some r) : xMet g 6 yX7_ends cX7_ends 3 (some .int) [.ref (g.1 82), .int a1] im (eI r) := x_met (by decide) (Nat.le_of_ble_eq_true rfl) rfl (s_X7_ends a1 im) r hr
abbrev md_X7_takes : xM := (6, 3, RX7, cX7_takes, (some .int))
def f_X7_takes (a1 : Int32) (im : IM) : Option (Int32 × IM) :=
  (f_X7_rollWrong a1 im).bind fun r1 =>
  if r1.1 = 0 then
    if (r1.2 82 8) = 1 then
      (f_X7_finds ((-1000004)) r1.2).bind fun r2 =>
      some ((r2.1, r2.2))
    else
      some ((r1.2 82 9, r1.2))
  else
    (f_X7_finds r1.1 r1.2).bind fun r3 =>
    some ((r3.1, r3.2))
set_option maxRecDepth 20000 in
set_option maxHeartbeats 4000000 in
theorem s_X7_takes {g : GX}  (a1 : Int32) (im : IM) : X g md_X7_takes eI 0 [(0, .ref (g.1 82)), (1, .int a1)] [] im (f_X7_takes a1 im) := by
  refine x_aload_n (q := 0) rfl rfl dX7_takes_0 ?_
  refine x_iload_n (q := 1) rfl rfl dX7_takes_1 ?_
  refine x_bind (fun r1 er1 => ?_)
  refine x_callVI (av := [.int a1]) (st := []) (m_X7_rollWrong  a1 im r1 er1) sh_82 (by decide) rfl rfl (by decide) (by decide) lk_X7_176 cd_X7_rollWrong xd_X7_rollWrong rfl (Nat.le_of_ble_eq_true rfl) dX7_takes_2 ?_
  refine x_istore_n (lv' := [(2, .int r1.1), (0, .ref (g.1 82)), (1, .int a1)]) rfl dX7_takes_5 (by decide) rfl ?_
  refine x_iload_n (q := 0) rfl rfl dX7_takes_6 ?_
  refine x_if_eq (tgt := 16) dX7_takes_7 (by decide) ?_ ?_
  · refine x_aload_n (q := 1) rfl rfl dX7_takes_16 ?_
    refine x_get (C := RX7) (T := TX7) sh_82 (by decide) rfl in_X7 8 (by decide) fl_X7_167 xf_7_8 dX7_takes_17 ?_
    refine x_iconst (v := (1)) (by decide) dX7_takes_20 ?_
    refine x_icmp_ne (tgt := 33) dX7_takes_21 (by decide) ?_ ?_
    · refine x_aload_n (q := 1) rfl rfl dX7_takes_33 ?_
      refine x_get (C := RX7) (T := TX7) sh_82 (by decide) rfl in_X7 9 (by decide) fl_X7_158 xf_7_9 dX7_takes_34 ?_
      exact x_iret rfl rfl dX7_takes_37
    · refine x_aload_n (q := 1) rfl rfl dX7_takes_24 ?_
      refine x_ldc co_X7_157 dX7_takes_25 ?_
      refine x_bind (fun r2 er2 => ?_)
      refine x_callVI (av := [.int ((-1000004))]) (st := []) (m_X7_finds  (((-1000004))) r1.2 r2 er2) sh_82 (by decide) rfl rfl (by decide) (by decide) lk_X7_59 cd_X7_finds xd_X7_finds rfl (Nat.le_of_ble_eq_true rfl) dX7_takes_27 ?_
      refine x_goto (tgt := 37) dX7_takes_30 (by decide) ?_
      exact x_iret rfl rfl dX7_takes_37
  · refine x_aload_n (q := 1) rfl rfl dX7_takes_10 ?_
    refine x_iload_n (q := 0) rfl rfl dX7_takes_11 ?_
    refine x_bind (fun r3 er3 => ?_)
    refine x_callVI (av := [.int r1.1]) (st := []) (m_X7_finds  r1.1 r1.2 r3 er3) sh_82 (by decide) rfl rfl (by decide) (by decide) lk_X7_59 cd_X7_finds xd_X7_finds rfl (Nat.le_of_ble_eq_true rfl) dX7_takes_12 ?_
    exact x_iret rfl rfl dX7_takes_15
theorem m_X7_takes {g : GX}  (a1 : Int32) (im : IM) (r : Int32 × IM) (hr : f_X7_takes a1 im = some r) : xMet g 6 yX7_takes cX7_takes 3 (some .int) [.ref (g.1 82), .int a1] im (eI r) := x_met (by decide) (Nat.le_of_ble_eq_true rfl) rfl (s_X7_takes a1 im) r hr
abbrev md_X7_speed : xM := (6, 3, RX7, cX7_speed, (some .int))
def f_X7_speed (a1 : Int32) (im : IM) : Option (Int32 × IM) :=
  (f_X7_rollWrong a1 im).bind fun r1 =>
  if r1.1 = 0 then
    some ((r1.2 82 10, r1.2))
  else
    (f_X7_finds r1.1 r1.2).bind fun r2 =>
    some ((r2.1, r2.2))
set_option maxRecDepth 20000 in
set_option maxHeartbeats 4000000 in
theorem s_X7_speed {g : GX}  (a1 : Int32) (im : IM) : X g md_X7_speed eI 0 [(0, .ref (g.1 82)), (1, .int a1)] [] im (f_X7_speed a1 im) := by
  refine x_aload_n (q := 0) rfl rfl dX7_speed_0 ?_
  refine x_iload_n (q := 1) rfl rfl dX7_speed_1 ?_
  refine x_bind (fun r1 er1 => ?_)
  refine x_callVI (av := [.int a1]) (st := []) (m_X7_rollWrong  a1 im r1 er1) sh_82 (by decide) rfl rfl (by decide) (by decide) lk_X7_176 cd_X7_rollWrong xd_X7_rollWrong rfl (Nat.le_of_ble_eq_true rfl) dX7_speed_2 ?_
  refine x_istore_n (lv' := [(2, .int r1.1), (0, .ref (g.1 82)), (1, .int a1)]) rfl dX7_speed_5 (by decide) rfl ?_
  refine x_iload_n (q := 0) rfl rfl dX7_speed_6 ?_
  refine x_if_eq (tgt := 18) dX7_speed_7 (by decide) ?_ ?_
  · refine x_aload_n (q := 1) rfl rfl dX7_speed_18 ?_
    refine x_get (C := RX7) (T := TX7) sh_82 (by decide) rfl in_X7 10 (by decide) fl_X7_161 xf_7_10 dX7_speed_19 ?_
    exact x_iret rfl rfl dX7_speed_22
  · refine x_aload_n (q := 1) rfl rfl dX7_speed_10 ?_
    refine x_iload_n (q := 0) rfl rfl dX7_speed_11 ?_
    refine x_bind (fun r2 er2 => ?_)
    refine x_callVI (av := [.int r1.1]) (st := []) (m_X7_finds  r1.1 r1.2 r2 er2) sh_82 (by decide) rfl rfl (by decide) (by decide) lk_X7_59 cd_X7_finds xd_X7_finds rfl (Nat.le_of_ble_eq_true rfl) dX7_speed_12 ?_
    refine x_goto (tgt := 22) dX7_speed_15 (by decide) ?_
    exact x_iret rfl rfl dX7_speed_22
theorem m_X7_speed {g : GX}  (a1 : Int32) (im : IM) (r : Int32 × IM) (hr : f_X7_speed a1 im = some r) : xMet g 6 yX7_speed cX7_speed 3 (some .int) [.ref (g.1 82), .int a1] im (eI r) := x_met (by decide) (Nat.le_of_ble_eq_true rfl) rfl (s_X7_speed a1 im) r hr
abbrev md_X7_seen : xM := (6, 3, RX7, cX7_seen, (some .int))
def f_X7_seen (a1 : Int32) (im : IM) : Option (Int32 × IM) :=
  (f_X7_rollWrong a1 im).bind fun r1 =>
  if r1.1 = 0 then
    some ((r1.2 82 11, r1.2))
  else
    (f_X7_finds r1.1 r1.2).bind fun r2 =>
    some ((r2.1, r2.2))
set_option maxRecDepth 20000 in
set_option maxHeartbeats 4000000 in
theorem s_X7_seen {g : GX}  (a1 : Int32) (im : IM) : X g md_X7_seen eI 0 [(0, .ref (g.1 82)), (1, .int a1)] [] im (f_X7_seen a1 im) := by
  refine x_aload_n (q := 0) rfl rfl dX7_seen_0 ?_
  refine x_iload_n (q := 1) rfl rfl dX7_seen_1 ?_
  refine x_bind (fun r1 er1 => ?_)
  refine x_callVI (av := [.int a1]) (st := []) (m_X7_rollWrong  a1 im r1 er1) sh_82 (by decide) rfl rfl (by decide) (by decide) lk_X7_176 cd_X7_rollWrong xd_X7_rollWrong rfl (Nat.le_of_ble_eq_true rfl) dX7_seen_2 ?_
  refine x_istore_n (lv' := [(2, .int r1.1), (0, .ref (g.1 82)), (1, .int a1)]) rfl dX7_seen_5 (by decide) rfl ?_
  refine x_iload_n (q := 0) rfl rfl dX7_seen_6 ?_
  refine x_if_eq (tgt := 18) dX7_seen_7 (by decide) ?_ ?_
  · refine x_aload_n (q := 1) rfl rfl dX7_seen_18 ?_
    refine x_get (C := RX7) (T := TX7) sh_82 (by decide) rfl in_X7 11 (by decide) fl_X7_164 xf_7_11 dX7_seen_19 ?_
    exact x_iret rfl rfl dX7_seen_22
  · refine x_aload_n (q := 1) rfl rfl dX7_seen_10 ?_
    refine x_iload_n (q := 0) rfl rfl dX7_seen_11 ?_
    refine x_bind (fun r2 er2 => ?_)
    refine x_callVI (av := [.int r1.1]) (st := []) (m_X7_finds  r1.1 r1.2 r2 er2) sh_82 (by decide) rfl rfl (by decide) (by decide) lk_X7_59 cd_X7_finds xd_X7_finds rfl (Nat.le_of_ble_eq_true rfl) dX7_seen_12 ?_
    refine x_goto (tgt := 22) dX7_seen_15 (by decide) ?_
    exact x_iret rfl rfl dX7_seen_22
theorem m_X7_seen {g : GX}  (a1 : Int32) (im : IM) (r : Int32 × IM) (hr : f_X7_seen a1 im = some r) : xMet g 6 yX7_seen cX7_seen 3 (some .int) [.ref (g.1 82), .int a1] im (eI r) := x_met (by decide) (Nat.le_of_ble_eq_true rfl) rfl (s_X7_seen a1 im) r hr
abbrev md_X7_sand : xM := (6, 7, RX7, cX7_sand, (some .int))
def f_X7_sand_j2 (a1 : Int32) (a2 : Int32)  (x4 : Int32) (im : IM) : Option (Int32 × IM) :=
  if 0 ≤ x4 then
    some ((x4, im))
  else
    (f_X7_finds ((-1000004)) im).bind fun r2 =>
    some ((r2.1, r2.2))
set_option maxRecDepth 20000 in
set_option maxHeartbeats 4000000 in
theorem s_X7_sand_j2 {g : GX} (a1 : Int32) (a2 : Int32)    (x4 : Int32)  (im : IM) : X g md_X7_sand eI 119 [(0, .ref (g.1 82)), (4, .int x4)] [] im (f_X7_sand_j2 a1 a2 x4 im) := by
  refine x_iload (q := 1) rfl dX7_sand_119 ?_
  refine x_if_ge (tgt := 133) dX7_sand_121 (by decide) ?_ ?_
  · refine x_iload (q := 1) rfl dX7_sand_133 ?_
    exact x_iret rfl rfl dX7_sand_135
  · refine x_aload_n (q := 0) rfl rfl dX7_sand_124 ?_
    refine x_ldc co_X7_157 dX7_sand_125 ?_
    refine x_bind (fun r2 er2 => ?_)
    refine x_callVI (av := [.int ((-1000004))]) (st := []) (m_X7_finds  (((-1000004))) im r2 er2) sh_82 (by decide) rfl rfl (by decide) (by decide) lk_X7_59 cd_X7_finds xd_X7_finds rfl (Nat.le_of_ble_eq_true rfl) dX7_sand_127 ?_
    refine x_goto (tgt := 135) dX7_sand_130 (by decide) ?_
    exact x_iret rfl rfl dX7_sand_135
def f_X7_sand_j4 (a1 : Int32) (a2 : Int32) (k36 : Int32 → Int32 → IM → Option (Int32 × IM)) (x5 : Int32) (s0 : Int32) (im : IM) : Option (Int32 × IM) :=
  bnd (x5 + 1) fun v7 =>
  k36 s0 v7 im
set_option maxRecDepth 20000 in
set_option maxHeartbeats 4000000 in
theorem s_X7_sand_j4 {g : GX} (a1 : Int32) (a2 : Int32)  (k36 : Int32 → Int32 → IM → Option (Int32 × IM)) (hk36 : ∀ (x4 : Int32) (x5 : Int32) (im : IM), X g md_X7_sand eI 36 [(0, .ref (g.1 82)), (1, .int a1), (2, .int a2), (4, .int x4), (5, .int x5)] [] im (k36 x4 x5 im)) (x5 : Int32) (s0 : Int32)  (im : IM) : X g md_X7_sand eI 111 [(0, .ref (g.1 82)), (1, .int a1), (2, .int a2), (5, .int x5)] [.int s0] im (f_X7_sand_j4 a1 a2 k36 x5 s0 im) := by
  refine x_istore (lv' := [(4, .int s0), (0, .ref (g.1 82)), (1, .int a1), (2, .int a2), (5, .int x5)]) dX7_sand_111 (by decide) rfl ?_
  refine x_iinc (q := 4) (a := 1) (lv' := fun v7 => [(5, .int v7), (4, .int s0), (0, .ref (g.1 82)), (1, .int a1), (2, .int a2)]) dX7_sand_113 rfl (by decide) (by decide) (fun _ => rfl) (fun v7 => ?_)
  refine x_goto (tgt := 36) dX7_sand_116 (by decide) ?_
  refine x_sub [2, 3, 4, 1, 0] rfl ?_
  exact hk36 s0 v7 im
def f_X7_sand_j3 (a1 : Int32) (a2 : Int32) (k36 : Int32 → Int32 → IM → Option (Int32 × IM)) (x5 : Int32) (im : IM) : Option (Int32 × IM) :=
  f_X7_sand_j4 a1 a2 k36 x5 ((-1)) im
set_option maxRecDepth 20000 in
set_option maxHeartbeats 4000000 in
theorem s_X7_sand_j3 {g : GX} (a1 : Int32) (a2 : Int32)  (k36 : Int32 → Int32 → IM → Option (Int32 × IM)) (hk36 : ∀ (x4 : Int32) (x5 : Int32) (im : IM), X g md_X7_sand eI 36 [(0, .ref (g.1 82)), (1, .int a1), (2, .int a2), (4, .int x4), (5, .int x5)] [] im (k36 x4 x5 im)) (x5 : Int32)  (im : IM) : X g md_X7_sand eI 110 [(0, .ref (g.1 82)), (1, .int a1), (2, .int a2), (5, .int x5)] [] im (f_X7_sand_j3 a1 a2 k36 x5 im) := by
  refine x_iconst (v := (-1)) (by decide) dX7_sand_110 ?_
  refine x_sub [0, 1, 2, 3] rfl ?_
  exact s_X7_sand_j4 a1 a2 k36 hk36 x5 ((-1)) im
def f_X7_sand_l1b (a1 : Int32) (a2 : Int32)   (k36 : Int32 → Int32 → IM → Option (Int32 × IM)) (x4 : Int32) (x5 : Int32) (im : IM) : Option (Int32 × IM) :=
  if 31 ≤ x5 then
    f_X7_sand_j2 a1 a2 x4 im
  else
    if 0 ≤ x4 then
      f_X7_sand_j2 a1 a2 x4 im
    else
      if inb (36 + x5) 167 = true then
        bnd (im 83 (ix (36 + x5))) fun v3 =>
        if inb (36 + x5) 167 = true then
          bnd (up im 83 (ix (36 + x5)) 1) fun m4 =>
          (f_X7_alone a1 10 m4).bind fun r5 =>
          if inb (36 + x5) 167 = true then
            bnd (up r5 83 (ix (36 + x5)) v3) fun m6 =>
            if (m6 82 8) = 0 then
              if (m6 82 7) = a2 then
                f_X7_sand_j4 a1 a2 k36 x5 x5 m6
              else
                f_X7_sand_j3 a1 a2 k36 x5 m6
            else
              f_X7_sand_j3 a1 a2 k36 x5 m6
          else none
        else none
      else none
def f_X7_sand_l1 (a1 : Int32) (a2 : Int32)   : Nat → Int32 → Int32 → IM → Option (Int32 × IM)
  | 0, _, _, _ => none
  | n + 1, x4, x5, im => f_X7_sand_l1b a1 a2 (f_X7_sand_l1 a1 a2 n) x4 x5 im
set_option maxRecDepth 20000 in
set_option maxHeartbeats 4000000 in
theorem s_X7_sand_l1b {g : GX} (a1 : Int32) (a2 : Int32)    (k36 : Int32 → Int32 → IM → Option (Int32 × IM)) (hk36 : ∀ (x4 : Int32) (x5 : Int32) (im : IM), X g md_X7_sand eI 36 [(0, .ref (g.1 82)), (1, .int a1), (2, .int a2), (4, .int x4), (5, .int x5)] [] im (k36 x4 x5 im)) (x4 : Int32) (x5 : Int32)  (im : IM) : X g md_X7_sand eI 36 [(0, .ref (g.1 82)), (1, .int a1), (2, .int a2), (4, .int x4), (5, .int x5)] [] im (f_X7_sand_l1b a1 a2 k36 x4 x5 im) := by
  refine x_iload (q := 4) rfl dX7_sand_36 ?_
  refine x_bipush (v := (31)) (by decide) dX7_sand_38 ?_
  refine x_icmp_ge (tgt := 119) dX7_sand_40 (by decide) ?_ ?_
  · refine x_sub [0, 3] rfl ?_
    exact s_X7_sand_j2 a1 a2 x4 im
  · refine x_iload (q := 3) rfl dX7_sand_43 ?_
    refine x_if_ge (tgt := 119) dX7_sand_45 (by decide) ?_ ?_
    · refine x_sub [0, 3] rfl ?_
      exact s_X7_sand_j2 a1 a2 x4 im
    · refine x_aload_n (q := 0) rfl rfl dX7_sand_48 ?_
      refine x_get (C := RX7) (T := TX7) sh_82 (by decide) rfl in_X7 0 (by decide) fl_X7_7 xf_7_0 dX7_sand_49 ?_
      refine x_bipush (v := (36)) (by decide) dX7_sand_52 ?_
      refine x_iload (q := 4) rfl dX7_sand_54 ?_
      refine x_iadd dX7_sand_56 ?_
      refine x_iald sh_83 dX7_sand_57 ?_
      refine x_bi (fun v3 => ?_)
      refine x_istore (lv' := [(6, .int v3), (0, .ref (g.1 82)), (1, .int a1), (2, .int a2), (4, .int x4), (5, .int x5)]) dX7_sand_58 (by decide) rfl ?_
      refine x_aload_n (q := 1) rfl rfl dX7_sand_60 ?_
      refine x_get (C := RX7) (T := TX7) sh_82 (by decide) rfl in_X7 0 (by decide) fl_X7_7 xf_7_0 dX7_sand_61 ?_
      refine x_bipush (v := (36)) (by decide) dX7_sand_64 ?_
      refine x_iload (q := 5) rfl dX7_sand_66 ?_
      refine x_iadd dX7_sand_68 ?_
      refine x_iconst (v := (1)) (by decide) dX7_sand_69 ?_
      refine x_iast sh_83 dX7_sand_70 ?_
      refine x_bm (fun m4 => ?_)
      refine x_aload_n (q := 1) rfl rfl dX7_sand_71 ?_
      refine x_iload_n (q := 2) rfl rfl dX7_sand_72 ?_
      refine x_bipush (v := (10)) (by decide) dX7_sand_73 ?_
      refine x_bind (fun r5 er5 => ?_)
      refine x_callVV (av := [.int a1, .int 10]) (st := []) (m_X7_alone  a1 10 m4 r5 er5) sh_82 (by decide) rfl rfl (by decide) (by decide) lk_X7_173 cd_X7_alone xd_X7_alone rfl (Nat.le_of_ble_eq_true rfl) dX7_sand_75 ?_
      refine x_aload_n (q := 1) rfl rfl dX7_sand_78 ?_
      refine x_get (C := RX7) (T := TX7) sh_82 (by decide) rfl in_X7 0 (by decide) fl_X7_7 xf_7_0 dX7_sand_79 ?_
      refine x_bipush (v := (36)) (by decide) dX7_sand_82 ?_
      refine x_iload (q := 5) rfl dX7_sand_84 ?_
      refine x_iadd dX7_sand_86 ?_
      refine x_iload (q := 0) rfl dX7_sand_87 ?_
      refine x_iast sh_83 dX7_sand_89 ?_
      refine x_bm (fun m6 => ?_)
      refine x_aload_n (q := 1) rfl rfl dX7_sand_90 ?_
      refine x_get (C := RX7) (T := TX7) sh_82 (by decide) rfl in_X7 8 (by decide) fl_X7_167 xf_7_8 dX7_sand_91 ?_
      refine x_if_ne (tgt := 110) dX7_sand_94 (by decide) ?_ ?_
      · refine x_sub [1, 2, 3, 5] rfl ?_
        exact s_X7_sand_j3 a1 a2 k36 hk36 x5 m6
      · refine x_aload_n (q := 1) rfl rfl dX7_sand_97 ?_
        refine x_get (C := RX7) (T := TX7) sh_82 (by decide) rfl in_X7 7 (by decide) fl_X7_170 xf_7_7 dX7_sand_98 ?_
        refine x_iload_n (q := 3) rfl rfl dX7_sand_101 ?_
        refine x_icmp_ne (tgt := 110) dX7_sand_102 (by decide) ?_ ?_
        · refine x_sub [1, 2, 3, 5] rfl ?_
          exact s_X7_sand_j3 a1 a2 k36 hk36 x5 m6
        · refine x_iload (q := 5) rfl dX7_sand_105 ?_
          refine x_goto (tgt := 111) dX7_sand_107 (by decide) ?_
          refine x_sub [1, 2, 3, 5] rfl ?_
          exact s_X7_sand_j4 a1 a2 k36 hk36 x5 x5 m6
set_option maxRecDepth 20000 in
set_option maxHeartbeats 4000000 in
theorem s_X7_sand_l1 {g : GX} (a1 : Int32) (a2 : Int32)    (n : Nat) : ∀ (x4 : Int32) (x5 : Int32) (im : IM), X g md_X7_sand eI 36 [(0, .ref (g.1 82)), (1, .int a1), (2, .int a2), (4, .int x4), (5, .int x5)] [] im (f_X7_sand_l1 a1 a2 n x4 x5 im) := by
  induction n with
  | zero => intro x4 x5 im; exact x_none
  | succ n ih => intro x4 x5 im; exact s_X7_sand_l1b a1 a2 (f_X7_sand_l1 a1 a2 n) ih x4 x5 im
def f_X7_sand (a1 : Int32) (a2 : Int32) (im : IM) : Option (Int32 × IM) :=
  if (f_X7_isCell a2) = 0 then
    (f_X7_finds ((-1000001)) im).bind fun r9 =>
    some ((r9.1, r9.2))
  else
    (f_X7_rollWrong a1 im).bind fun r1 =>
    if r1.1 = 0 then
      f_X7_sand_l1 a1 a2 xF ((-1)) 0 r1.2
    else
      (f_X7_finds r1.1 r1.2).bind fun r8 =>
      some ((r8.1, r8.2))
set_option maxRecDepth 20000 in
set_option maxHeartbeats 4000000 in
theorem s_X7_sand {g : GX}   (a1 : Int32) (a2 : Int32) (im : IM) : X g md_X7_sand eI 0 [(0, .ref (g.1 82)), (1, .int a1), (2, .int a2)] [] im (f_X7_sand a1 a2 im) := by
  refine x_iload_n (q := 2) rfl rfl dX7_sand_0 ?_
  refine x_callSR (av := [.int a2]) (st := []) (m_X7_isCell  a2 im) rfl (by decide) (by decide) lk_X7_51 cd_X7_isCell xd_X7_isCell rfl (Nat.le_of_ble_eq_true rfl) dX7_sand_1 ?_
  refine x_if_ne (tgt := 14) dX7_sand_4 (by decide) ?_ ?_
  · refine x_aload_n (q := 0) rfl rfl dX7_sand_14 ?_
    refine x_iload_n (q := 1) rfl rfl dX7_sand_15 ?_
    refine x_bind (fun r1 er1 => ?_)
    refine x_callVI (av := [.int a1]) (st := []) (m_X7_rollWrong  a1 im r1 er1) sh_82 (by decide) rfl rfl (by decide) (by decide) lk_X7_176 cd_X7_rollWrong xd_X7_rollWrong rfl (Nat.le_of_ble_eq_true rfl) dX7_sand_16 ?_
    refine x_istore_n (lv' := [(3, .int r1.1), (0, .ref (g.1 82)), (1, .int a1), (2, .int a2)]) rfl dX7_sand_19 (by decide) rfl ?_
    refine x_iload_n (q := 0) rfl rfl dX7_sand_20 ?_
    refine x_if_eq (tgt := 30) dX7_sand_21 (by decide) ?_ ?_
    · refine x_iconst (v := (-1)) (by decide) dX7_sand_30 ?_
      refine x_istore (lv' := [(4, .int ((-1))), (3, .int r1.1), (0, .ref (g.1 82)), (1, .int a1), (2, .int a2)]) dX7_sand_31 (by decide) rfl ?_
      refine x_iconst (v := (0)) (by decide) dX7_sand_33 ?_
      refine x_istore (lv' := [(5, .int 0), (4, .int ((-1))), (3, .int r1.1), (0, .ref (g.1 82)), (1, .int a1), (2, .int a2)]) dX7_sand_34 (by decide) rfl ?_
      refine x_sub [3, 4, 5, 1, 0] rfl ?_
      exact s_X7_sand_l1 a1 a2 xF ((-1)) 0 r1.2
    · refine x_aload_n (q := 1) rfl rfl dX7_sand_24 ?_
      refine x_iload_n (q := 0) rfl rfl dX7_sand_25 ?_
      refine x_bind (fun r8 er8 => ?_)
      refine x_callVI (av := [.int r1.1]) (st := []) (m_X7_finds  r1.1 r1.2 r8 er8) sh_82 (by decide) rfl rfl (by decide) (by decide) lk_X7_59 cd_X7_finds xd_X7_finds rfl (Nat.le_of_ble_eq_true rfl) dX7_sand_26 ?_
      exact x_iret rfl rfl dX7_sand_29
  · refine x_aload_n (q := 0) rfl rfl dX7_sand_7 ?_
    refine x_ldc co_X7_43 dX7_sand_8 ?_
    refine x_bind (fun r9 er9 => ?_)
    refine x_callVI (av := [.int ((-1000001))]) (st := []) (m_X7_finds  (((-1000001))) im r9 er9) sh_82 (by decide) rfl rfl (by decide) (by decide) lk_X7_59 cd_X7_finds xd_X7_finds rfl (Nat.le_of_ble_eq_true rfl) dX7_sand_10 ?_
    exact x_iret rfl rfl dX7_sand_13
theorem m_X7_sand {g : GX}   (a1 : Int32) (a2 : Int32) (im : IM) (r : Int32 × IM) (hr : f_X7_sand a1 a2 im = some r) : xMet g 6 yX7_sand cX7_sand 7 (some .int) [.ref (g.1 82), .int a1, .int a2] im (eI r) := x_met (by decide) (Nat.le_of_ble_eq_true rfl) rfl (s_X7_sand a1 a2 im) r hr
abbrev md_X7_rollsFor : xM := (6, 6, RX7, cX7_rollsFor, (some .int))
def f_X7_rollsFor_j2 (a1 : Int32)  (x3 : Int32) (x4 : Int32) (im : IM) : Option (Int32 × IM) :=
  if inb (f_X7_at a1 2) 167 = true then
    bnd (up im 83 (ix (f_X7_at a1 2)) x3) fun m3 =>
    if 0 ≤ x4 then
      some ((x4, m3))
    else
      (f_X7_finds ((-1000004)) m3).bind fun r4 =>
      some ((r4.1, r4.2))
  else none
set_option maxRecDepth 20000 in
set_option maxHeartbeats 4000000 in
theorem s_X7_rollsFor_j2 {g : GX} (a1 : Int32)    (x3 : Int32) (x4 : Int32)  (im : IM) : X g md_X7_rollsFor eI 83 [(0, .ref (g.1 82)), (1, .int a1), (3, .int x3), (4, .int x4)] [] im (f_X7_rollsFor_j2 a1 x3 x4 im) := by
  refine x_aload_n (q := 0) rfl rfl dX7_rollsFor_83 ?_
  refine x_get (C := RX7) (T := TX7) sh_82 (by decide) rfl in_X7 0 (by decide) fl_X7_7 xf_7_0 dX7_rollsFor_84 ?_
  refine x_iload_n (q := 1) rfl rfl dX7_rollsFor_87 ?_
  refine x_iconst (v := (2)) (by decide) dX7_rollsFor_88 ?_
  refine x_callSR (av := [.int a1, .int 2]) (st := [.ref (g.1 83)]) (m_X7_at  a1 2 im) rfl (by decide) (by decide) lk_X7_72 cd_X7_at xd_X7_at rfl (Nat.le_of_ble_eq_true rfl) dX7_rollsFor_89 ?_
  refine x_iload_n (q := 2) rfl rfl dX7_rollsFor_92 ?_
  refine x_iast sh_83 dX7_rollsFor_93 ?_
  refine x_bm (fun m3 => ?_)
  refine x_iload (q := 3) rfl dX7_rollsFor_94 ?_
  refine x_if_ge (tgt := 108) dX7_rollsFor_96 (by decide) ?_ ?_
  · refine x_iload (q := 3) rfl dX7_rollsFor_108 ?_
    exact x_iret rfl rfl dX7_rollsFor_110
  · refine x_aload_n (q := 0) rfl rfl dX7_rollsFor_99 ?_
    refine x_ldc co_X7_157 dX7_rollsFor_100 ?_
    refine x_bind (fun r4 er4 => ?_)
    refine x_callVI (av := [.int ((-1000004))]) (st := []) (m_X7_finds  (((-1000004))) m3 r4 er4) sh_82 (by decide) rfl rfl (by decide) (by decide) lk_X7_59 cd_X7_finds xd_X7_finds rfl (Nat.le_of_ble_eq_true rfl) dX7_rollsFor_102 ?_
    refine x_goto (tgt := 110) dX7_rollsFor_105 (by decide) ?_
    exact x_iret rfl rfl dX7_rollsFor_110
def f_X7_rollsFor_j3 (a1 : Int32) (k29 : Int32 → Int32 → Int32 → IM → Option (Int32 × IM)) (x3 : Int32) (x5 : Int32) (s0 : Int32) (im : IM) : Option (Int32 × IM) :=
  bnd (x5 + 1) fun v7 =>
  k29 x3 s0 v7 im
set_option maxRecDepth 20000 in
set_option maxHeartbeats 4000000 in
theorem s_X7_rollsFor_j3 {g : GX} (a1 : Int32)  (k29 : Int32 → Int32 → Int32 → IM → Option (Int32 × IM)) (hk29 : ∀ (x3 : Int32) (x4 : Int32) (x5 : Int32) (im : IM), X g md_X7_rollsFor eI 29 [(0, .ref (g.1 82)), (1, .int a1), (3, .int x3), (4, .int x4), (5, .int x5)] [] im (k29 x3 x4 x5 im)) (x3 : Int32) (x5 : Int32) (s0 : Int32)  (im : IM) : X g md_X7_rollsFor eI 75 [(0, .ref (g.1 82)), (1, .int a1), (3, .int x3), (5, .int x5)] [.int s0] im (f_X7_rollsFor_j3 a1 k29 x3 x5 s0 im) := by
  refine x_istore (lv' := [(4, .int s0), (0, .ref (g.1 82)), (1, .int a1), (3, .int x3), (5, .int x5)]) dX7_rollsFor_75 (by decide) rfl ?_
  refine x_iinc (q := 4) (a := 1) (lv' := fun v7 => [(5, .int v7), (4, .int s0), (0, .ref (g.1 82)), (1, .int a1), (3, .int x3)]) dX7_rollsFor_77 rfl (by decide) (by decide) (fun _ => rfl) (fun v7 => ?_)
  refine x_goto (tgt := 29) dX7_rollsFor_80 (by decide) ?_
  refine x_sub [2, 3, 4, 1, 0] rfl ?_
  exact hk29 x3 s0 v7 im
def f_X7_rollsFor_l1b (a1 : Int32)   (k29 : Int32 → Int32 → Int32 → IM → Option (Int32 × IM)) (x3 : Int32) (x4 : Int32) (x5 : Int32) (im : IM) : Option (Int32 × IM) :=
  if 10 ≤ x5 then
    f_X7_rollsFor_j2 a1 x3 x4 im
  else
    if 0 ≤ x4 then
      f_X7_rollsFor_j2 a1 x3 x4 im
    else
      if inb (f_X7_at a1 2) 167 = true then
        bnd (up im 83 (ix (f_X7_at a1 2)) x5) fun m5 =>
        (f_X7_alone a1 10 m5).bind fun r6 =>
        if (r6 82 7) = 30 then
          f_X7_rollsFor_j3 a1 k29 x3 x5 x5 r6
        else
          f_X7_rollsFor_j3 a1 k29 x3 x5 ((-1)) r6
      else none
def f_X7_rollsFor_l1 (a1 : Int32)   : Nat → Int32 → Int32 → Int32 → IM → Option (Int32 × IM)
  | 0, _, _, _, _ => none
  | n + 1, x3, x4, x5, im => f_X7_rollsFor_l1b a1 (f_X7_rollsFor_l1 a1 n) x3 x4 x5 im
set_option maxRecDepth 20000 in
set_option maxHeartbeats 4000000 in
theorem s_X7_rollsFor_l1b {g : GX} (a1 : Int32)    (k29 : Int32 → Int32 → Int32 → IM → Option (Int32 × IM)) (hk29 : ∀ (x3 : Int32) (x4 : Int32) (x5 : Int32) (im : IM), X g md_X7_rollsFor eI 29 [(0, .ref (g.1 82)), (1, .int a1), (3, .int x3), (4, .int x4), (5, .int x5)] [] im (k29 x3 x4 x5 im)) (x3 : Int32) (x4 : Int32) (x5 : Int32)  (im : IM) : X g md_X7_rollsFor eI 29 [(0, .ref (g.1 82)), (1, .int a1), (3, .int x3), (4, .int x4), (5, .int x5)] [] im (f_X7_rollsFor_l1b a1 k29 x3 x4 x5 im) := by
  refine x_iload (q := 4) rfl dX7_rollsFor_29 ?_
  refine x_bipush (v := (10)) (by decide) dX7_rollsFor_31 ?_
  refine x_icmp_ge (tgt := 83) dX7_rollsFor_33 (by decide) ?_ ?_
  · refine x_sub [0, 1, 2, 3] rfl ?_
    exact s_X7_rollsFor_j2 a1 x3 x4 im
  · refine x_iload (q := 3) rfl dX7_rollsFor_36 ?_
    refine x_if_ge (tgt := 83) dX7_rollsFor_38 (by decide) ?_ ?_
    · refine x_sub [0, 1, 2, 3] rfl ?_
      exact s_X7_rollsFor_j2 a1 x3 x4 im
    · refine x_aload_n (q := 0) rfl rfl dX7_rollsFor_41 ?_
      refine x_get (C := RX7) (T := TX7) sh_82 (by decide) rfl in_X7 0 (by decide) fl_X7_7 xf_7_0 dX7_rollsFor_42 ?_
      refine x_iload_n (q := 1) rfl rfl dX7_rollsFor_45 ?_
      refine x_iconst (v := (2)) (by decide) dX7_rollsFor_46 ?_
      refine x_callSR (av := [.int a1, .int 2]) (st := [.ref (g.1 83)]) (m_X7_at  a1 2 im) rfl (by decide) (by decide) lk_X7_72 cd_X7_at xd_X7_at rfl (Nat.le_of_ble_eq_true rfl) dX7_rollsFor_47 ?_
      refine x_iload (q := 4) rfl dX7_rollsFor_50 ?_
      refine x_iast sh_83 dX7_rollsFor_52 ?_
      refine x_bm (fun m5 => ?_)
      refine x_aload_n (q := 0) rfl rfl dX7_rollsFor_53 ?_
      refine x_iload_n (q := 1) rfl rfl dX7_rollsFor_54 ?_
      refine x_bipush (v := (10)) (by decide) dX7_rollsFor_55 ?_
      refine x_bind (fun r6 er6 => ?_)
      refine x_callVV (av := [.int a1, .int 10]) (st := []) (m_X7_alone  a1 10 m5 r6 er6) sh_82 (by decide) rfl rfl (by decide) (by decide) lk_X7_173 cd_X7_alone xd_X7_alone rfl (Nat.le_of_ble_eq_true rfl) dX7_rollsFor_57 ?_
      refine x_aload_n (q := 0) rfl rfl dX7_rollsFor_60 ?_
      refine x_get (C := RX7) (T := TX7) sh_82 (by decide) rfl in_X7 7 (by decide) fl_X7_170 xf_7_7 dX7_rollsFor_61 ?_
      refine x_bipush (v := (30)) (by decide) dX7_rollsFor_64 ?_
      refine x_icmp_ne (tgt := 74) dX7_rollsFor_66 (by decide) ?_ ?_
      · refine x_iconst (v := (-1)) (by decide) dX7_rollsFor_74 ?_
        refine x_sub [0, 1, 2, 4] rfl ?_
        exact s_X7_rollsFor_j3 a1 k29 hk29 x3 x5 ((-1)) r6
      · refine x_iload (q := 4) rfl dX7_rollsFor_69 ?_
        refine x_goto (tgt := 75) dX7_rollsFor_71 (by decide) ?_
        refine x_sub [0, 1, 2, 4] rfl ?_
        exact s_X7_rollsFor_j3 a1 k29 hk29 x3 x5 x5 r6
set_option maxRecDepth 20000 in
set_option maxHeartbeats 4000000 in
theorem s_X7_rollsFor_l1 {g : GX} (a1 : Int32)    (n : Nat) : ∀ (x3 : Int32) (x4 : Int32) (x5 : Int32) (im : IM), X g md_X7_rollsFor eI 29 [(0, .ref (g.1 82)), (1, .int a1), (3, .int x3), (4, .int x4), (5, .int x5)] [] im (f_X7_rollsFor_l1 a1 n x3 x4 x5 im) := by
  induction n with
  | zero => intro x3 x4 x5 im; exact x_none
  | succ n ih => intro x3 x4 x5 im; exact s_X7_rollsFor_l1b a1 (f_X7_rollsFor_l1 a1 n) ih x3 x4 x5 im
def f_X7_rollsFor (a1 : Int32) (im : IM) : Option (Int32 × IM) :=
  (f_X7_rollWrong a1 im).bind fun r1 =>
  if r1.1 = 0 then
    (f_X7_its a1 2 r1.2).bind fun r2 =>
    f_X7_rollsFor_l1 a1 xF r2 ((-1)) 1 r1.2
  else
    (f_X7_finds r1.1 r1.2).bind fun r8 =>
    some ((r8.1, r8.2))
set_option maxRecDepth 20000 in
set_option maxHeartbeats 4000000 in
theorem s_X7_rollsFor {g : GX}  (a1 : Int32) (im : IM) : X g md_X7_rollsFor eI 0 [(0, .ref (g.1 82)), (1, .int a1)] [] im (f_X7_rollsFor a1 im) := by
  refine x_aload_n (q := 0) rfl rfl dX7_rollsFor_0 ?_
  refine x_iload_n (q := 1) rfl rfl dX7_rollsFor_1 ?_
  refine x_bind (fun r1 er1 => ?_)
  refine x_callVI (av := [.int a1]) (st := []) (m_X7_rollWrong  a1 im r1 er1) sh_82 (by decide) rfl rfl (by decide) (by decide) lk_X7_176 cd_X7_rollWrong xd_X7_rollWrong rfl (Nat.le_of_ble_eq_true rfl) dX7_rollsFor_2 ?_
  refine x_istore_n (lv' := [(2, .int r1.1), (0, .ref (g.1 82)), (1, .int a1)]) rfl dX7_rollsFor_5 (by decide) rfl ?_
  refine x_iload_n (q := 0) rfl rfl dX7_rollsFor_6 ?_
  refine x_if_eq (tgt := 16) dX7_rollsFor_7 (by decide) ?_ ?_
  · refine x_aload_n (q := 1) rfl rfl dX7_rollsFor_16 ?_
    refine x_iload_n (q := 2) rfl rfl dX7_rollsFor_17 ?_
    refine x_iconst (v := (2)) (by decide) dX7_rollsFor_18 ?_
    refine x_bind (fun r2 er2 => ?_)
    refine x_callVR (av := [.int a1, .int 2]) (st := []) (m_X7_its  a1 2 r1.2 r2 er2) sh_82 (by decide) rfl rfl (by decide) (by decide) lk_X7_89 cd_X7_its xd_X7_its rfl (Nat.le_of_ble_eq_true rfl) dX7_rollsFor_19 ?_
    refine x_istore_n (lv' := [(3, .int r2), (2, .int r1.1), (0, .ref (g.1 82)), (1, .int a1)]) rfl dX7_rollsFor_22 (by decide) rfl ?_
    refine x_iconst (v := (-1)) (by decide) dX7_rollsFor_23 ?_
    refine x_istore (lv' := [(4, .int ((-1))), (3, .int r2), (2, .int r1.1), (0, .ref (g.1 82)), (1, .int a1)]) dX7_rollsFor_24 (by decide) rfl ?_
    refine x_iconst (v := (1)) (by decide) dX7_rollsFor_26 ?_
    refine x_istore (lv' := [(5, .int 1), (4, .int ((-1))), (3, .int r2), (2, .int r1.1), (0, .ref (g.1 82)), (1, .int a1)]) dX7_rollsFor_27 (by decide) rfl ?_
    refine x_sub [4, 5, 2, 1, 0] rfl ?_
    exact s_X7_rollsFor_l1 a1 xF r2 ((-1)) 1 r1.2
  · refine x_aload_n (q := 1) rfl rfl dX7_rollsFor_10 ?_
    refine x_iload_n (q := 0) rfl rfl dX7_rollsFor_11 ?_
    refine x_bind (fun r8 er8 => ?_)
    refine x_callVI (av := [.int r1.1]) (st := []) (m_X7_finds  r1.1 r1.2 r8 er8) sh_82 (by decide) rfl rfl (by decide) (by decide) lk_X7_59 cd_X7_finds xd_X7_finds rfl (Nat.le_of_ble_eq_true rfl) dX7_rollsFor_12 ?_
    exact x_iret rfl rfl dX7_rollsFor_15
theorem m_X7_rollsFor {g : GX}  (a1 : Int32) (im : IM) (r : Int32 × IM) (hr : f_X7_rollsFor a1 im = some r) : xMet g 6 yX7_rollsFor cX7_rollsFor 6 (some .int) [.ref (g.1 82), .int a1] im (eI r) := x_met (by decide) (Nat.le_of_ble_eq_true rfl) rfl (s_X7_rollsFor a1 im) r hr
abbrev md_X7_matters : xM := (6, 7, RX7, cX7_matters, (some .int))
def f_X7_matters_j2 (a1 : Int32) (k27 : Int32 → Int32 → Int32 → IM → Option (Int32 × IM)) (x3 : Int32) (x5 : Int32) (s0 : Int32) (s1 : Int32) (im : IM) : Option (Int32 × IM) :=
  bnd (s1 ||| s0) fun v7 =>
  bnd (x5 + 1) fun v8 =>
  k27 x3 v7 v8 im
set_option maxRecDepth 20000 in
set_option maxHeartbeats 4000000 in
theorem s_X7_matters_j2 {g : GX} (a1 : Int32)  (k27 : Int32 → Int32 → Int32 → IM → Option (Int32 × IM)) (hk27 : ∀ (x3 : Int32) (x4 : Int32) (x5 : Int32) (im : IM), X g md_X7_matters eI 27 [(0, .ref (g.1 82)), (1, .int a1), (3, .int x3), (4, .int x4), (5, .int x5)] [] im (k27 x3 x4 x5 im)) (x3 : Int32) (x5 : Int32) (s0 : Int32) (s1 : Int32)  (im : IM) : X g md_X7_matters eI 94 [(0, .ref (g.1 82)), (1, .int a1), (3, .int x3), (5, .int x5)] [.int s0, .int s1] im (f_X7_matters_j2 a1 k27 x3 x5 s0 s1 im) := by
  refine x_ior dX7_matters_94 ?_
  refine x_bi (fun v7 => ?_)
  refine x_istore (lv' := [(4, .int v7), (0, .ref (g.1 82)), (1, .int a1), (3, .int x3), (5, .int x5)]) dX7_matters_95 (by decide) rfl ?_
  refine x_iinc (q := 4) (a := 1) (lv' := fun v8 => [(5, .int v8), (4, .int v7), (0, .ref (g.1 82)), (1, .int a1), (3, .int x3)]) dX7_matters_97 rfl (by decide) (by decide) (fun _ => rfl) (fun v8 => ?_)
  refine x_goto (tgt := 27) dX7_matters_100 (by decide) ?_
  refine x_sub [2, 3, 4, 1, 0] rfl ?_
  exact hk27 x3 v7 v8 im
def f_X7_matters_l1b (a1 : Int32)   (k27 : Int32 → Int32 → Int32 → IM → Option (Int32 × IM)) (x3 : Int32) (x4 : Int32) (x5 : Int32) (im : IM) : Option (Int32 × IM) :=
  if 31 ≤ x5 then
    some ((x4, im))
  else
    if inb (36 + x5) 167 = true then
      bnd (im 83 (ix (36 + x5))) fun v3 =>
      if inb (36 + x5) 167 = true then
        bnd (up im 83 (ix (36 + x5)) 0) fun m4 =>
        (f_X7_alone a1 10 m4).bind fun r5 =>
        if inb (36 + x5) 167 = true then
          bnd (up r5 83 (ix (36 + x5)) v3) fun m6 =>
          if (m6 82 7) = x3 then
            f_X7_matters_j2 a1 k27 x3 x5 0 x4 m6
          else
            f_X7_matters_j2 a1 k27 x3 x5 (jshl 1 x5) x4 m6
        else none
      else none
    else none
def f_X7_matters_l1 (a1 : Int32)   : Nat → Int32 → Int32 → Int32 → IM → Option (Int32 × IM)
  | 0, _, _, _, _ => none
  | n + 1, x3, x4, x5, im => f_X7_matters_l1b a1 (f_X7_matters_l1 a1 n) x3 x4 x5 im
set_option maxRecDepth 20000 in
set_option maxHeartbeats 4000000 in
theorem s_X7_matters_l1b {g : GX} (a1 : Int32)    (k27 : Int32 → Int32 → Int32 → IM → Option (Int32 × IM)) (hk27 : ∀ (x3 : Int32) (x4 : Int32) (x5 : Int32) (im : IM), X g md_X7_matters eI 27 [(0, .ref (g.1 82)), (1, .int a1), (3, .int x3), (4, .int x4), (5, .int x5)] [] im (k27 x3 x4 x5 im)) (x3 : Int32) (x4 : Int32) (x5 : Int32)  (im : IM) : X g md_X7_matters eI 27 [(0, .ref (g.1 82)), (1, .int a1), (3, .int x3), (4, .int x4), (5, .int x5)] [] im (f_X7_matters_l1b a1 k27 x3 x4 x5 im) := by
  refine x_iload (q := 4) rfl dX7_matters_27 ?_
  refine x_bipush (v := (31)) (by decide) dX7_matters_29 ?_
  refine x_icmp_ge (tgt := 103) dX7_matters_31 (by decide) ?_ ?_
  · refine x_iload (q := 3) rfl dX7_matters_103 ?_
    exact x_iret rfl rfl dX7_matters_105
  · refine x_aload_n (q := 0) rfl rfl dX7_matters_34 ?_
    refine x_get (C := RX7) (T := TX7) sh_82 (by decide) rfl in_X7 0 (by decide) fl_X7_7 xf_7_0 dX7_matters_35 ?_
    refine x_bipush (v := (36)) (by decide) dX7_matters_38 ?_
    refine x_iload (q := 4) rfl dX7_matters_40 ?_
    refine x_iadd dX7_matters_42 ?_
    refine x_iald sh_83 dX7_matters_43 ?_
    refine x_bi (fun v3 => ?_)
    refine x_istore (lv' := [(6, .int v3), (0, .ref (g.1 82)), (1, .int a1), (3, .int x3), (4, .int x4), (5, .int x5)]) dX7_matters_44 (by decide) rfl ?_
    refine x_aload_n (q := 1) rfl rfl dX7_matters_46 ?_
    refine x_get (C := RX7) (T := TX7) sh_82 (by decide) rfl in_X7 0 (by decide) fl_X7_7 xf_7_0 dX7_matters_47 ?_
    refine x_bipush (v := (36)) (by decide) dX7_matters_50 ?_
    refine x_iload (q := 5) rfl dX7_matters_52 ?_
    refine x_iadd dX7_matters_54 ?_
    refine x_iconst (v := (0)) (by decide) dX7_matters_55 ?_
    refine x_iast sh_83 dX7_matters_56 ?_
    refine x_bm (fun m4 => ?_)
    refine x_aload_n (q := 1) rfl rfl dX7_matters_57 ?_
    refine x_iload_n (q := 2) rfl rfl dX7_matters_58 ?_
    refine x_bipush (v := (10)) (by decide) dX7_matters_59 ?_
    refine x_bind (fun r5 er5 => ?_)
    refine x_callVV (av := [.int a1, .int 10]) (st := []) (m_X7_alone  a1 10 m4 r5 er5) sh_82 (by decide) rfl rfl (by decide) (by decide) lk_X7_173 cd_X7_alone xd_X7_alone rfl (Nat.le_of_ble_eq_true rfl) dX7_matters_61 ?_
    refine x_aload_n (q := 1) rfl rfl dX7_matters_64 ?_
    refine x_get (C := RX7) (T := TX7) sh_82 (by decide) rfl in_X7 0 (by decide) fl_X7_7 xf_7_0 dX7_matters_65 ?_
    refine x_bipush (v := (36)) (by decide) dX7_matters_68 ?_
    refine x_iload (q := 5) rfl dX7_matters_70 ?_
    refine x_iadd dX7_matters_72 ?_
    refine x_iload (q := 0) rfl dX7_matters_73 ?_
    refine x_iast sh_83 dX7_matters_75 ?_
    refine x_bm (fun m6 => ?_)
    refine x_iload (q := 4) rfl dX7_matters_76 ?_
    refine x_aload_n (q := 1) rfl rfl dX7_matters_78 ?_
    refine x_get (C := RX7) (T := TX7) sh_82 (by decide) rfl in_X7 7 (by decide) fl_X7_170 xf_7_7 dX7_matters_79 ?_
    refine x_iload_n (q := 3) rfl rfl dX7_matters_82 ?_
    refine x_icmp_eq (tgt := 93) dX7_matters_83 (by decide) ?_ ?_
    · refine x_iconst (v := (0)) (by decide) dX7_matters_93 ?_
      refine x_sub [1, 2, 3, 5] rfl ?_
      exact s_X7_matters_j2 a1 k27 hk27 x3 x5 0 x4 m6
    · refine x_iconst (v := (1)) (by decide) dX7_matters_86 ?_
      refine x_iload (q := 5) rfl dX7_matters_87 ?_
      refine x_ishl dX7_matters_89 ?_
      refine x_goto (tgt := 94) dX7_matters_90 (by decide) ?_
      refine x_sub [1, 2, 3, 5] rfl ?_
      exact s_X7_matters_j2 a1 k27 hk27 x3 x5 (jshl 1 x5) x4 m6
set_option maxRecDepth 20000 in
set_option maxHeartbeats 4000000 in
theorem s_X7_matters_l1 {g : GX} (a1 : Int32)    (n : Nat) : ∀ (x3 : Int32) (x4 : Int32) (x5 : Int32) (im : IM), X g md_X7_matters eI 27 [(0, .ref (g.1 82)), (1, .int a1), (3, .int x3), (4, .int x4), (5, .int x5)] [] im (f_X7_matters_l1 a1 n x3 x4 x5 im) := by
  induction n with
  | zero => intro x3 x4 x5 im; exact x_none
  | succ n ih => intro x3 x4 x5 im; exact s_X7_matters_l1b a1 (f_X7_matters_l1 a1 n) ih x3 x4 x5 im
def f_X7_matters (a1 : Int32) (im : IM) : Option (Int32 × IM) :=
  (f_X7_rollWrong a1 im).bind fun r1 =>
  if r1.1 = 0 then
    bnd (r1.2 82 7) fun v2 =>
    f_X7_matters_l1 a1 xF v2 0 0 r1.2
  else
    (f_X7_finds r1.1 r1.2).bind fun r9 =>
    some ((r9.1, r9.2))
set_option maxRecDepth 20000 in
set_option maxHeartbeats 4000000 in
theorem s_X7_matters {g : GX}  (a1 : Int32) (im : IM) : X g md_X7_matters eI 0 [(0, .ref (g.1 82)), (1, .int a1)] [] im (f_X7_matters a1 im) := by
  refine x_aload_n (q := 0) rfl rfl dX7_matters_0 ?_
  refine x_iload_n (q := 1) rfl rfl dX7_matters_1 ?_
  refine x_bind (fun r1 er1 => ?_)
  refine x_callVI (av := [.int a1]) (st := []) (m_X7_rollWrong  a1 im r1 er1) sh_82 (by decide) rfl rfl (by decide) (by decide) lk_X7_176 cd_X7_rollWrong xd_X7_rollWrong rfl (Nat.le_of_ble_eq_true rfl) dX7_matters_2 ?_
  refine x_istore_n (lv' := [(2, .int r1.1), (0, .ref (g.1 82)), (1, .int a1)]) rfl dX7_matters_5 (by decide) rfl ?_
  refine x_iload_n (q := 0) rfl rfl dX7_matters_6 ?_
  refine x_if_eq (tgt := 16) dX7_matters_7 (by decide) ?_ ?_
  · refine x_aload_n (q := 1) rfl rfl dX7_matters_16 ?_
    refine x_get (C := RX7) (T := TX7) sh_82 (by decide) rfl in_X7 7 (by decide) fl_X7_170 xf_7_7 dX7_matters_17 ?_
    refine x_bi (fun v2 => ?_)
    refine x_istore_n (lv' := [(3, .int v2), (2, .int r1.1), (0, .ref (g.1 82)), (1, .int a1)]) rfl dX7_matters_20 (by decide) rfl ?_
    refine x_iconst (v := (0)) (by decide) dX7_matters_21 ?_
    refine x_istore (lv' := [(4, .int 0), (3, .int v2), (2, .int r1.1), (0, .ref (g.1 82)), (1, .int a1)]) dX7_matters_22 (by decide) rfl ?_
    refine x_iconst (v := (0)) (by decide) dX7_matters_24 ?_
    refine x_istore (lv' := [(5, .int 0), (4, .int 0), (3, .int v2), (2, .int r1.1), (0, .ref (g.1 82)), (1, .int a1)]) dX7_matters_25 (by decide) rfl ?_
    refine x_sub [4, 5, 2, 1, 0] rfl ?_
    exact s_X7_matters_l1 a1 xF v2 0 0 r1.2
  · refine x_aload_n (q := 1) rfl rfl dX7_matters_10 ?_
    refine x_iload_n (q := 0) rfl rfl dX7_matters_11 ?_
    refine x_bind (fun r9 er9 => ?_)
    refine x_callVI (av := [.int r1.1]) (st := []) (m_X7_finds  r1.1 r1.2 r9 er9) sh_82 (by decide) rfl rfl (by decide) (by decide) lk_X7_59 cd_X7_finds xd_X7_finds rfl (Nat.le_of_ble_eq_true rfl) dX7_matters_12 ?_
    exact x_iret rfl rfl dX7_matters_15
theorem m_X7_matters {g : GX}  (a1 : Int32) (im : IM) (r : Int32 × IM) (hr : f_X7_matters a1 im = some r) : xMet g 6 yX7_matters cX7_matters 7 (some .int) [.ref (g.1 82), .int a1] im (eI r) := x_met (by decide) (Nat.le_of_ble_eq_true rfl) rfl (s_X7_matters a1 im) r hr
abbrev md_X7_kindFor : xM := (6, 7, RX7, cX7_kindFor, (some .int))
def f_X7_kindFor_j3 (a1 : Int32) (k32 : Int32 → Int32 → Int32 → Int32 → IM → Option (Int32 × IM)) (x3 : Int32) (x4 : Int32) (x5 : Int32) (x6 : Int32) (im : IM) : Option (Int32 × IM) :=
  bnd (x6 + 1) fun v7 =>
  k32 x3 x4 x5 v7 im
set_option maxRecDepth 20000 in
set_option maxHeartbeats 4000000 in
theorem s_X7_kindFor_j3 {g : GX} (a1 : Int32)  (k32 : Int32 → Int32 → Int32 → Int32 → IM → Option (Int32 × IM)) (hk32 : ∀ (x3 : Int32) (x4 : Int32) (x5 : Int32) (x6 : Int32) (im : IM), X g md_X7_kindFor eI 32 [(0, .ref (g.1 82)), (1, .int a1), (3, .int x3), (4, .int x4), (5, .int x5), (6, .int x6)] [] im (k32 x3 x4 x5 x6 im)) (x3 : Int32) (x4 : Int32) (x5 : Int32) (x6 : Int32)  (im : IM) : X g md_X7_kindFor eI 82 [(0, .ref (g.1 82)), (1, .int a1), (3, .int x3), (4, .int x4), (5, .int x5), (6, .int x6)] [] im (f_X7_kindFor_j3 a1 k32 x3 x4 x5 x6 im) := by
  refine x_iinc (q := 5) (a := 1) (lv' := fun v7 => [(6, .int v7), (0, .ref (g.1 82)), (1, .int a1), (3, .int x3), (4, .int x4), (5, .int x5)]) dX7_kindFor_82 rfl (by decide) (by decide) (fun _ => rfl) (fun v7 => ?_)
  refine x_goto (tgt := 32) dX7_kindFor_85 (by decide) ?_
  refine x_sub [1, 2, 3, 4, 5, 0] rfl ?_
  exact hk32 x3 x4 x5 v7 im
def f_X7_kindFor_j2 (a1 : Int32) (k32 : Int32 → Int32 → Int32 → Int32 → IM → Option (Int32 × IM)) (x3 : Int32) (x6 : Int32) (im : IM) : Option (Int32 × IM) :=
  bnd (im 82 7) fun v6 =>
  f_X7_kindFor_j3 a1 k32 x3 x6 v6 x6 im
set_option maxRecDepth 20000 in
set_option maxHeartbeats 4000000 in
theorem s_X7_kindFor_j2 {g : GX} (a1 : Int32)  (k32 : Int32 → Int32 → Int32 → Int32 → IM → Option (Int32 × IM)) (hk32 : ∀ (x3 : Int32) (x4 : Int32) (x5 : Int32) (x6 : Int32) (im : IM), X g md_X7_kindFor eI 32 [(0, .ref (g.1 82)), (1, .int a1), (3, .int x3), (4, .int x4), (5, .int x5), (6, .int x6)] [] im (k32 x3 x4 x5 x6 im)) (x3 : Int32) (x6 : Int32)  (im : IM) : X g md_X7_kindFor eI 72 [(0, .ref (g.1 82)), (1, .int a1), (3, .int x3), (6, .int x6)] [] im (f_X7_kindFor_j2 a1 k32 x3 x6 im) := by
  refine x_iload (q := 3) rfl dX7_kindFor_72 ?_
  refine x_istore (lv' := [(4, .int x6), (0, .ref (g.1 82)), (1, .int a1), (3, .int x3), (6, .int x6)]) dX7_kindFor_74 (by decide) rfl ?_
  refine x_aload_n (q := 1) rfl rfl dX7_kindFor_76 ?_
  refine x_get (C := RX7) (T := TX7) sh_82 (by decide) rfl in_X7 7 (by decide) fl_X7_170 xf_7_7 dX7_kindFor_77 ?_
  refine x_bi (fun v6 => ?_)
  refine x_istore (lv' := [(5, .int v6), (4, .int x6), (0, .ref (g.1 82)), (1, .int a1), (3, .int x3), (6, .int x6)]) dX7_kindFor_80 (by decide) rfl ?_
  refine x_sub [2, 3, 4, 1, 0, 5] rfl ?_
  exact s_X7_kindFor_j3 a1 k32 hk32 x3 x6 v6 x6 im
def f_X7_kindFor_l1b (a1 : Int32)   (k32 : Int32 → Int32 → Int32 → Int32 → IM → Option (Int32 × IM)) (x3 : Int32) (x4 : Int32) (x5 : Int32) (x6 : Int32) (im : IM) : Option (Int32 × IM) :=
  if 7 ≤ x6 then
    if inb (f_X7_at a1 0) 167 = true then
      bnd (up im 83 (ix (f_X7_at a1 0)) x3) fun m3 =>
      some ((x4, m3))
    else none
  else
    if inb (f_X7_at a1 0) 167 = true then
      bnd (up im 83 (ix (f_X7_at a1 0)) x6) fun m4 =>
      (f_X7_alone a1 10 m4).bind fun r5 =>
      if x4 < 0 then
        f_X7_kindFor_j2 a1 k32 x3 x6 r5
      else
        if (r5 82 7) ≤ x5 then
          f_X7_kindFor_j3 a1 k32 x3 x4 x5 x6 r5
        else
          f_X7_kindFor_j2 a1 k32 x3 x6 r5
    else none
def f_X7_kindFor_l1 (a1 : Int32)   : Nat → Int32 → Int32 → Int32 → Int32 → IM → Option (Int32 × IM)
  | 0, _, _, _, _, _ => none
  | n + 1, x3, x4, x5, x6, im => f_X7_kindFor_l1b a1 (f_X7_kindFor_l1 a1 n) x3 x4 x5 x6 im
set_option maxRecDepth 20000 in
set_option maxHeartbeats 4000000 in
theorem s_X7_kindFor_l1b {g : GX} (a1 : Int32)    (k32 : Int32 → Int32 → Int32 → Int32 → IM → Option (Int32 × IM)) (hk32 : ∀ (x3 : Int32) (x4 : Int32) (x5 : Int32) (x6 : Int32) (im : IM), X g md_X7_kindFor eI 32 [(0, .ref (g.1 82)), (1, .int a1), (3, .int x3), (4, .int x4), (5, .int x5), (6, .int x6)] [] im (k32 x3 x4 x5 x6 im)) (x3 : Int32) (x4 : Int32) (x5 : Int32) (x6 : Int32)  (im : IM) : X g md_X7_kindFor eI 32 [(0, .ref (g.1 82)), (1, .int a1), (3, .int x3), (4, .int x4), (5, .int x5), (6, .int x6)] [] im (f_X7_kindFor_l1b a1 k32 x3 x4 x5 x6 im) := by
  refine x_iload (q := 5) rfl dX7_kindFor_32 ?_
  refine x_bipush (v := (7)) (by decide) dX7_kindFor_34 ?_
  refine x_icmp_ge (tgt := 88) dX7_kindFor_36 (by decide) ?_ ?_
  · refine x_aload_n (q := 0) rfl rfl dX7_kindFor_88 ?_
    refine x_get (C := RX7) (T := TX7) sh_82 (by decide) rfl in_X7 0 (by decide) fl_X7_7 xf_7_0 dX7_kindFor_89 ?_
    refine x_iload_n (q := 1) rfl rfl dX7_kindFor_92 ?_
    refine x_iconst (v := (0)) (by decide) dX7_kindFor_93 ?_
    refine x_callSR (av := [.int a1, .int 0]) (st := [.ref (g.1 83)]) (m_X7_at  a1 0 im) rfl (by decide) (by decide) lk_X7_72 cd_X7_at xd_X7_at rfl (Nat.le_of_ble_eq_true rfl) dX7_kindFor_94 ?_
    refine x_iload_n (q := 2) rfl rfl dX7_kindFor_97 ?_
    refine x_iast sh_83 dX7_kindFor_98 ?_
    refine x_bm (fun m3 => ?_)
    refine x_iload (q := 3) rfl dX7_kindFor_99 ?_
    exact x_iret rfl rfl dX7_kindFor_101
  · refine x_aload_n (q := 0) rfl rfl dX7_kindFor_39 ?_
    refine x_get (C := RX7) (T := TX7) sh_82 (by decide) rfl in_X7 0 (by decide) fl_X7_7 xf_7_0 dX7_kindFor_40 ?_
    refine x_iload_n (q := 1) rfl rfl dX7_kindFor_43 ?_
    refine x_iconst (v := (0)) (by decide) dX7_kindFor_44 ?_
    refine x_callSR (av := [.int a1, .int 0]) (st := [.ref (g.1 83)]) (m_X7_at  a1 0 im) rfl (by decide) (by decide) lk_X7_72 cd_X7_at xd_X7_at rfl (Nat.le_of_ble_eq_true rfl) dX7_kindFor_45 ?_
    refine x_iload (q := 5) rfl dX7_kindFor_48 ?_
    refine x_iast sh_83 dX7_kindFor_50 ?_
    refine x_bm (fun m4 => ?_)
    refine x_aload_n (q := 0) rfl rfl dX7_kindFor_51 ?_
    refine x_iload_n (q := 1) rfl rfl dX7_kindFor_52 ?_
    refine x_bipush (v := (10)) (by decide) dX7_kindFor_53 ?_
    refine x_bind (fun r5 er5 => ?_)
    refine x_callVV (av := [.int a1, .int 10]) (st := []) (m_X7_alone  a1 10 m4 r5 er5) sh_82 (by decide) rfl rfl (by decide) (by decide) lk_X7_173 cd_X7_alone xd_X7_alone rfl (Nat.le_of_ble_eq_true rfl) dX7_kindFor_55 ?_
    refine x_iload (q := 3) rfl dX7_kindFor_58 ?_
    refine x_if_lt (tgt := 72) dX7_kindFor_60 (by decide) ?_ ?_
    · refine x_sub [0, 1, 2, 5] rfl ?_
      exact s_X7_kindFor_j2 a1 k32 hk32 x3 x6 r5
    · refine x_aload_n (q := 0) rfl rfl dX7_kindFor_63 ?_
      refine x_get (C := RX7) (T := TX7) sh_82 (by decide) rfl in_X7 7 (by decide) fl_X7_170 xf_7_7 dX7_kindFor_64 ?_
      refine x_iload (q := 4) rfl dX7_kindFor_67 ?_
      refine x_icmp_le (tgt := 82) dX7_kindFor_69 (by decide) ?_ ?_
      · refine x_sub [0, 1, 2, 3, 4, 5] rfl ?_
        exact s_X7_kindFor_j3 a1 k32 hk32 x3 x4 x5 x6 r5
      · refine x_sub [0, 1, 2, 5] rfl ?_
        exact s_X7_kindFor_j2 a1 k32 hk32 x3 x6 r5
set_option maxRecDepth 20000 in
set_option maxHeartbeats 4000000 in
theorem s_X7_kindFor_l1 {g : GX} (a1 : Int32)    (n : Nat) : ∀ (x3 : Int32) (x4 : Int32) (x5 : Int32) (x6 : Int32) (im : IM), X g md_X7_kindFor eI 32 [(0, .ref (g.1 82)), (1, .int a1), (3, .int x3), (4, .int x4), (5, .int x5), (6, .int x6)] [] im (f_X7_kindFor_l1 a1 n x3 x4 x5 x6 im) := by
  induction n with
  | zero => intro x3 x4 x5 x6 im; exact x_none
  | succ n ih => intro x3 x4 x5 x6 im; exact s_X7_kindFor_l1b a1 (f_X7_kindFor_l1 a1 n) ih x3 x4 x5 x6 im
def f_X7_kindFor (a1 : Int32) (im : IM) : Option (Int32 × IM) :=
  (f_X7_rollWrong a1 im).bind fun r1 =>
  if r1.1 = 0 then
    (f_X7_its a1 0 r1.2).bind fun r2 =>
    f_X7_kindFor_l1 a1 xF r2 ((-1)) 0 0 r1.2
  else
    (f_X7_finds r1.1 r1.2).bind fun r8 =>
    some ((r8.1, r8.2))
set_option maxRecDepth 20000 in
set_option maxHeartbeats 4000000 in
theorem s_X7_kindFor {g : GX}  (a1 : Int32) (im : IM) : X g md_X7_kindFor eI 0 [(0, .ref (g.1 82)), (1, .int a1)] [] im (f_X7_kindFor a1 im) := by
  refine x_aload_n (q := 0) rfl rfl dX7_kindFor_0 ?_
  refine x_iload_n (q := 1) rfl rfl dX7_kindFor_1 ?_
  refine x_bind (fun r1 er1 => ?_)
  refine x_callVI (av := [.int a1]) (st := []) (m_X7_rollWrong  a1 im r1 er1) sh_82 (by decide) rfl rfl (by decide) (by decide) lk_X7_176 cd_X7_rollWrong xd_X7_rollWrong rfl (Nat.le_of_ble_eq_true rfl) dX7_kindFor_2 ?_
  refine x_istore_n (lv' := [(2, .int r1.1), (0, .ref (g.1 82)), (1, .int a1)]) rfl dX7_kindFor_5 (by decide) rfl ?_
  refine x_iload_n (q := 0) rfl rfl dX7_kindFor_6 ?_
  refine x_if_eq (tgt := 16) dX7_kindFor_7 (by decide) ?_ ?_
  · refine x_aload_n (q := 1) rfl rfl dX7_kindFor_16 ?_
    refine x_iload_n (q := 2) rfl rfl dX7_kindFor_17 ?_
    refine x_iconst (v := (0)) (by decide) dX7_kindFor_18 ?_
    refine x_bind (fun r2 er2 => ?_)
    refine x_callVR (av := [.int a1, .int 0]) (st := []) (m_X7_its  a1 0 r1.2 r2 er2) sh_82 (by decide) rfl rfl (by decide) (by decide) lk_X7_89 cd_X7_its xd_X7_its rfl (Nat.le_of_ble_eq_true rfl) dX7_kindFor_19 ?_
    refine x_istore_n (lv' := [(3, .int r2), (2, .int r1.1), (0, .ref (g.1 82)), (1, .int a1)]) rfl dX7_kindFor_22 (by decide) rfl ?_
    refine x_iconst (v := (-1)) (by decide) dX7_kindFor_23 ?_
    refine x_istore (lv' := [(4, .int ((-1))), (3, .int r2), (2, .int r1.1), (0, .ref (g.1 82)), (1, .int a1)]) dX7_kindFor_24 (by decide) rfl ?_
    refine x_iconst (v := (0)) (by decide) dX7_kindFor_26 ?_
    refine x_istore (lv' := [(5, .int 0), (4, .int ((-1))), (3, .int r2), (2, .int r1.1), (0, .ref (g.1 82)), (1, .int a1)]) dX7_kindFor_27 (by decide) rfl ?_
    refine x_iconst (v := (0)) (by decide) dX7_kindFor_29 ?_
    refine x_istore (lv' := [(6, .int 0), (5, .int 0), (4, .int ((-1))), (3, .int r2), (2, .int r1.1), (0, .ref (g.1 82)), (1, .int a1)]) dX7_kindFor_30 (by decide) rfl ?_
    refine x_sub [5, 6, 3, 2, 1, 0] rfl ?_
    exact s_X7_kindFor_l1 a1 xF r2 ((-1)) 0 0 r1.2
  · refine x_aload_n (q := 1) rfl rfl dX7_kindFor_10 ?_
    refine x_iload_n (q := 0) rfl rfl dX7_kindFor_11 ?_
    refine x_bind (fun r8 er8 => ?_)
    refine x_callVI (av := [.int r1.1]) (st := []) (m_X7_finds  r1.1 r1.2 r8 er8) sh_82 (by decide) rfl rfl (by decide) (by decide) lk_X7_59 cd_X7_finds xd_X7_finds rfl (Nat.le_of_ble_eq_true rfl) dX7_kindFor_12 ?_
    exact x_iret rfl rfl dX7_kindFor_15
theorem m_X7_kindFor {g : GX}  (a1 : Int32) (im : IM) (r : Int32 × IM) (hr : f_X7_kindFor a1 im = some r) : xMet g 6 yX7_kindFor cX7_kindFor 7 (some .int) [.ref (g.1 82), .int a1] im (eI r) := x_met (by decide) (Nat.le_of_ble_eq_true rfl) rfl (s_X7_kindFor a1 im) r hr
abbrev md_X7_isQuiet : xM := (5, 4, RX7, cX7_isQuiet, (some .boolean))
def f_X7_isQuiet_j2 (a1 : Int32)  (x2 : Int32) (im : IM) : Option (Int32 × IM) :=
  some ((zb x2, im))
set_option maxRecDepth 20000 in
set_option maxHeartbeats 4000000 in
theorem s_X7_isQuiet_j2 {g : GX} (a1 : Int32)    (x2 : Int32)  (im : IM) : X g md_X7_isQuiet eI 36 [(2, .int x2)] [] im (f_X7_isQuiet_j2 a1 x2 im) := by
  refine x_iload_n (q := 0) rfl rfl dX7_isQuiet_36 ?_
  exact x_nret (y := zb x2) rfl rfl rfl dX7_isQuiet_37
def f_X7_isQuiet_j3 (a1 : Int32) (k4 : Int32 → Int32 → IM → Option (Int32 × IM)) (x3 : Int32) (s0 : Int32) (im : IM) : Option (Int32 × IM) :=
  bnd (x3 + 1) fun v2 =>
  k4 s0 v2 im
set_option maxRecDepth 20000 in
set_option maxHeartbeats 4000000 in
theorem s_X7_isQuiet_j3 {g : GX} (a1 : Int32)  (k4 : Int32 → Int32 → IM → Option (Int32 × IM)) (hk4 : ∀ (x2 : Int32) (x3 : Int32) (im : IM), X g md_X7_isQuiet eI 4 [(0, .ref (g.1 82)), (1, .int a1), (2, .int x2), (3, .int x3)] [] im (k4 x2 x3 im)) (x3 : Int32) (s0 : Int32)  (im : IM) : X g md_X7_isQuiet eI 29 [(0, .ref (g.1 82)), (1, .int a1), (3, .int x3)] [.int s0] im (f_X7_isQuiet_j3 a1 k4 x3 s0 im) := by
  refine x_istore_n (lv' := [(2, .int s0), (0, .ref (g.1 82)), (1, .int a1), (3, .int x3)]) rfl dX7_isQuiet_29 (by decide) rfl ?_
  refine x_iinc (q := 3) (a := 1) (lv' := fun v2 => [(3, .int v2), (2, .int s0), (0, .ref (g.1 82)), (1, .int a1)]) dX7_isQuiet_30 rfl (by decide) (by decide) (fun _ => rfl) (fun v2 => ?_)
  refine x_goto (tgt := 4) dX7_isQuiet_33 (by decide) ?_
  refine x_sub [2, 3, 1, 0] rfl ?_
  exact hk4 s0 v2 im
def f_X7_isQuiet_l1b (a1 : Int32)   (k4 : Int32 → Int32 → IM → Option (Int32 × IM)) (x2 : Int32) (x3 : Int32) (im : IM) : Option (Int32 × IM) :=
  if a1 ≤ x3 then
    f_X7_isQuiet_j2 a1 x2 im
  else
    if x2 = 0 then
      f_X7_isQuiet_j2 a1 x2 im
    else
      (f_X7_minute im).bind fun r1 =>
      if (r1 82 5) = 0 then
        f_X7_isQuiet_j3 a1 k4 x3 1 r1
      else
        f_X7_isQuiet_j3 a1 k4 x3 0 r1
def f_X7_isQuiet_l1 (a1 : Int32)   : Nat → Int32 → Int32 → IM → Option (Int32 × IM)
  | 0, _, _, _ => none
  | n + 1, x2, x3, im => f_X7_isQuiet_l1b a1 (f_X7_isQuiet_l1 a1 n) x2 x3 im
set_option maxRecDepth 20000 in
set_option maxHeartbeats 4000000 in
theorem s_X7_isQuiet_l1b {g : GX} (a1 : Int32)    (k4 : Int32 → Int32 → IM → Option (Int32 × IM)) (hk4 : ∀ (x2 : Int32) (x3 : Int32) (im : IM), X g md_X7_isQuiet eI 4 [(0, .ref (g.1 82)), (1, .int a1), (2, .int x2), (3, .int x3)] [] im (k4 x2 x3 im)) (x2 : Int32) (x3 : Int32)  (im : IM) : X g md_X7_isQuiet eI 4 [(0, .ref (g.1 82)), (1, .int a1), (2, .int x2), (3, .int x3)] [] im (f_X7_isQuiet_l1b a1 k4 x2 x3 im) := by
  refine x_iload_n (q := 3) rfl rfl dX7_isQuiet_4 ?_
  refine x_iload_n (q := 1) rfl rfl dX7_isQuiet_5 ?_
  refine x_icmp_ge (tgt := 36) dX7_isQuiet_6 (by decide) ?_ ?_
  · refine x_sub [2] rfl ?_
    exact s_X7_isQuiet_j2 a1 x2 im
  · refine x_iload_n (q := 2) rfl rfl dX7_isQuiet_9 ?_
    refine x_if_eq (tgt := 36) dX7_isQuiet_10 (by decide) ?_ ?_
    · refine x_sub [2] rfl ?_
      exact s_X7_isQuiet_j2 a1 x2 im
    · refine x_aload_n (q := 0) rfl rfl dX7_isQuiet_13 ?_
      refine x_bind (fun r1 er1 => ?_)
      refine x_callVV (av := []) (st := []) (m_X7_minute   im r1 er1) sh_82 (by decide) rfl rfl (by decide) (by decide) lk_X7_135 cd_X7_minute xd_X7_minute rfl (Nat.le_of_ble_eq_true rfl) dX7_isQuiet_14 ?_
      refine x_aload_n (q := 0) rfl rfl dX7_isQuiet_17 ?_
      refine x_get (C := RX7) (T := TX7) sh_82 (by decide) rfl in_X7 5 (by decide) fl_X7_117 xf_7_5 dX7_isQuiet_18 ?_
      refine x_if_ne (tgt := 28) dX7_isQuiet_21 (by decide) ?_ ?_
      · refine x_iconst (v := (0)) (by decide) dX7_isQuiet_28 ?_
        refine x_sub [0, 1, 3] rfl ?_
        exact s_X7_isQuiet_j3 a1 k4 hk4 x3 0 r1
      · refine x_iconst (v := (1)) (by decide) dX7_isQuiet_24 ?_
        refine x_goto (tgt := 29) dX7_isQuiet_25 (by decide) ?_
        refine x_sub [0, 1, 3] rfl ?_
        exact s_X7_isQuiet_j3 a1 k4 hk4 x3 1 r1
set_option maxRecDepth 20000 in
set_option maxHeartbeats 4000000 in
theorem s_X7_isQuiet_l1 {g : GX} (a1 : Int32)    (n : Nat) : ∀ (x2 : Int32) (x3 : Int32) (im : IM), X g md_X7_isQuiet eI 4 [(0, .ref (g.1 82)), (1, .int a1), (2, .int x2), (3, .int x3)] [] im (f_X7_isQuiet_l1 a1 n x2 x3 im) := by
  induction n with
  | zero => intro x2 x3 im; exact x_none
  | succ n ih => intro x2 x3 im; exact s_X7_isQuiet_l1b a1 (f_X7_isQuiet_l1 a1 n) ih x2 x3 im
def f_X7_isQuiet (a1 : Int32) (im : IM) : Option (Int32 × IM) :=
  f_X7_isQuiet_l1 a1 xF 1 0 im
set_option maxRecDepth 20000 in
set_option maxHeartbeats 4000000 in
theorem s_X7_isQuiet {g : GX}  (a1 : Int32) (im : IM) : X g md_X7_isQuiet eI 0 [(0, .ref (g.1 82)), (1, .int a1)] [] im (f_X7_isQuiet a1 im) := by
  refine x_iconst (v := (1)) (by decide) dX7_isQuiet_0 ?_
  refine x_istore_n (lv' := [(2, .int 1), (0, .ref (g.1 82)), (1, .int a1)]) rfl dX7_isQuiet_1 (by decide) rfl ?_
  refine x_iconst (v := (0)) (by decide) dX7_isQuiet_2 ?_
  refine x_istore_n (lv' := [(3, .int 0), (2, .int 1), (0, .ref (g.1 82)), (1, .int a1)]) rfl dX7_isQuiet_3 (by decide) rfl ?_
  refine x_sub [2, 3, 1, 0] rfl ?_
  exact s_X7_isQuiet_l1 a1 xF 1 0 im
theorem m_X7_isQuiet {g : GX}  (a1 : Int32) (im : IM) (r : Int32 × IM) (hr : f_X7_isQuiet a1 im = some r) : xMet g 5 yX7_isQuiet cX7_isQuiet 4 (some .boolean) [.ref (g.1 82), .int a1] im (eI r) := x_met (by decide) (Nat.le_of_ble_eq_true rfl) rfl (s_X7_isQuiet a1 im) r hr
abbrev md_X7_wait : xM := (6, 5, RX7, cX7_wait, (some .int))
def f_X7_wait_j1 (a1 : Int32)   (im : IM) : Option (Int32 × IM) :=
  (f_X7_finds ((-1000005)) im).bind fun r2 =>
  some ((r2.1, r2.2))
set_option maxRecDepth 20000 in
set_option maxHeartbeats 4000000 in
theorem s_X7_wait_j1 {g : GX} (a1 : Int32)      (im : IM) : X g md_X7_wait eI 33 [(0, .ref (g.1 82))] [] im (f_X7_wait_j1 a1 im) := by
  refine x_aload_n (q := 0) rfl rfl dX7_wait_33 ?_
  refine x_ldc co_X7_109 dX7_wait_34 ?_
  refine x_bind (fun r2 er2 => ?_)
  refine x_callVI (av := [.int ((-1000005))]) (st := []) (m_X7_finds  (((-1000005))) im r2 er2) sh_82 (by decide) rfl rfl (by decide) (by decide) lk_X7_59 cd_X7_finds xd_X7_finds rfl (Nat.le_of_ble_eq_true rfl) dX7_wait_36 ?_
  exact x_iret rfl rfl dX7_wait_39
def f_X7_wait_j3 (a1 : Int32)  (x2 : Int32) (im : IM) : Option (Int32 × IM) :=
  if 0 ≤ x2 then
    some ((x2, im))
  else
    (f_X7_finds ((-1000004)) im).bind fun r4 =>
    some ((r4.1, r4.2))
set_option maxRecDepth 20000 in
set_option maxHeartbeats 4000000 in
theorem s_X7_wait_j3 {g : GX} (a1 : Int32)    (x2 : Int32)  (im : IM) : X g md_X7_wait eI 110 [(0, .ref (g.1 82)), (2, .int x2)] [] im (f_X7_wait_j3 a1 x2 im) := by
  refine x_iload_n (q := 1) rfl rfl dX7_wait_110 ?_
  refine x_if_ge (tgt := 123) dX7_wait_111 (by decide) ?_ ?_
  · refine x_iload_n (q := 1) rfl rfl dX7_wait_123 ?_
    exact x_iret rfl rfl dX7_wait_124
  · refine x_aload_n (q := 0) rfl rfl dX7_wait_114 ?_
    refine x_ldc co_X7_157 dX7_wait_115 ?_
    refine x_bind (fun r4 er4 => ?_)
    refine x_callVI (av := [.int ((-1000004))]) (st := []) (m_X7_finds  (((-1000004))) im r4 er4) sh_82 (by decide) rfl rfl (by decide) (by decide) lk_X7_59 cd_X7_finds xd_X7_finds rfl (Nat.le_of_ble_eq_true rfl) dX7_wait_117 ?_
    refine x_goto (tgt := 124) dX7_wait_120 (by decide) ?_
    exact x_iret rfl rfl dX7_wait_124
def f_X7_wait_j5 (a1 : Int32) (k48 : Int32 → Int32 → IM → Option (Int32 × IM)) (x3 : Int32) (s0 : Int32) (im : IM) : Option (Int32 × IM) :=
  (f_X7_putsBack im).bind fun r7 =>
  bnd (x3 + 1) fun v8 =>
  k48 s0 v8 r7
set_option maxRecDepth 20000 in
set_option maxHeartbeats 4000000 in
theorem s_X7_wait_j5 {g : GX} (a1 : Int32)  (k48 : Int32 → Int32 → IM → Option (Int32 × IM)) (hk48 : ∀ (x2 : Int32) (x3 : Int32) (im : IM), X g md_X7_wait eI 48 [(0, .ref (g.1 82)), (1, .int a1), (2, .int x2), (3, .int x3)] [] im (k48 x2 x3 im)) (x3 : Int32) (s0 : Int32)  (im : IM) : X g md_X7_wait eI 99 [(0, .ref (g.1 82)), (1, .int a1), (3, .int x3)] [.int s0] im (f_X7_wait_j5 a1 k48 x3 s0 im) := by
  refine x_istore_n (lv' := [(2, .int s0), (0, .ref (g.1 82)), (1, .int a1), (3, .int x3)]) rfl dX7_wait_99 (by decide) rfl ?_
  refine x_aload_n (q := 1) rfl rfl dX7_wait_100 ?_
  refine x_bind (fun r7 er7 => ?_)
  refine x_callVV (av := []) (st := []) (m_X7_putsBack   im r7 er7) sh_82 (by decide) rfl rfl (by decide) (by decide) lk_X7_154 cd_X7_putsBack xd_X7_putsBack rfl (Nat.le_of_ble_eq_true rfl) dX7_wait_101 ?_
  refine x_iinc (q := 3) (a := 1) (lv' := fun v8 => [(3, .int v8), (2, .int s0), (0, .ref (g.1 82)), (1, .int a1)]) dX7_wait_104 rfl (by decide) (by decide) (fun _ => rfl) (fun v8 => ?_)
  refine x_goto (tgt := 48) dX7_wait_107 (by decide) ?_
  refine x_sub [2, 3, 1, 0] rfl ?_
  exact hk48 s0 v8 r7
def f_X7_wait_l4b (a1 : Int32) (k48 : Int32 → Int32 → IM → Option (Int32 × IM))  (k61 : Int32 → Int32 → IM → Option (Int32 × IM)) (x3 : Int32) (x4 : Int32) (im : IM) : Option (Int32 × IM) :=
  if x3 ≤ x4 then
    (f_X7_letsGo a1 10 im).bind fun r5 =>
    (f_X7_isQuiet 200 r5).bind fun r6 =>
    if r6.1 = 0 then
      f_X7_wait_j5 a1 k48 x3 ((-1)) r6.2
    else
      f_X7_wait_j5 a1 k48 x3 x3 r6.2
  else
    (f_X7_minute im).bind fun r9 =>
    bnd (x4 + 1) fun v10 =>
    k61 x3 v10 r9
def f_X7_wait_l4 (a1 : Int32) (k48 : Int32 → Int32 → IM → Option (Int32 × IM))  : Nat → Int32 → Int32 → IM → Option (Int32 × IM)
  | 0, _, _, _ => none
  | n + 1, x3, x4, im => f_X7_wait_l4b a1 k48 (f_X7_wait_l4 a1 k48 n) x3 x4 im
set_option maxRecDepth 20000 in
set_option maxHeartbeats 4000000 in
theorem s_X7_wait_l4b {g : GX} (a1 : Int32)  (k48 : Int32 → Int32 → IM → Option (Int32 × IM)) (hk48 : ∀ (x2 : Int32) (x3 : Int32) (im : IM), X g md_X7_wait eI 48 [(0, .ref (g.1 82)), (1, .int a1), (2, .int x2), (3, .int x3)] [] im (k48 x2 x3 im)) (k61 : Int32 → Int32 → IM → Option (Int32 × IM)) (hk61 : ∀ (x3 : Int32) (x4 : Int32) (im : IM), X g md_X7_wait eI 61 [(0, .ref (g.1 82)), (1, .int a1), (3, .int x3), (4, .int x4)] [] im (k61 x3 x4 im)) (x3 : Int32) (x4 : Int32)  (im : IM) : X g md_X7_wait eI 61 [(0, .ref (g.1 82)), (1, .int a1), (3, .int x3), (4, .int x4)] [] im (f_X7_wait_l4b a1 k48 k61 x3 x4 im) := by
  refine x_iload (q := 3) rfl dX7_wait_61 ?_
  refine x_iload_n (q := 2) rfl rfl dX7_wait_63 ?_
  refine x_icmp_ge (tgt := 77) dX7_wait_64 (by decide) ?_ ?_
  · refine x_aload_n (q := 0) rfl rfl dX7_wait_77 ?_
    refine x_iload_n (q := 1) rfl rfl dX7_wait_78 ?_
    refine x_bipush (v := (10)) (by decide) dX7_wait_79 ?_
    refine x_bind (fun r5 er5 => ?_)
    refine x_callVV (av := [.int a1, .int 10]) (st := []) (m_X7_letsGo  a1 10 im r5 er5) sh_82 (by decide) rfl rfl (by decide) (by decide) lk_X7_110 cd_X7_letsGo xd_X7_letsGo rfl (Nat.le_of_ble_eq_true rfl) dX7_wait_81 ?_
    refine x_aload_n (q := 0) rfl rfl dX7_wait_84 ?_
    refine x_sipush (v := (200)) (by decide) dX7_wait_85 ?_
    refine x_bind (fun r6 er6 => ?_)
    refine x_callVI (av := [.int 200]) (st := []) (m_X7_isQuiet  200 r5 r6 er6) sh_82 (by decide) rfl rfl (by decide) (by decide) lk_X7_179 cd_X7_isQuiet xd_X7_isQuiet rfl (Nat.le_of_ble_eq_true rfl) dX7_wait_88 ?_
    refine x_if_eq (tgt := 98) dX7_wait_91 (by decide) ?_ ?_
    · refine x_iconst (v := (-1)) (by decide) dX7_wait_98 ?_
      refine x_sub [0, 1, 2] rfl ?_
      exact s_X7_wait_j5 a1 k48 hk48 x3 ((-1)) r6.2
    · refine x_iload_n (q := 2) rfl rfl dX7_wait_94 ?_
      refine x_goto (tgt := 99) dX7_wait_95 (by decide) ?_
      refine x_sub [0, 1, 2] rfl ?_
      exact s_X7_wait_j5 a1 k48 hk48 x3 x3 r6.2
  · refine x_aload_n (q := 0) rfl rfl dX7_wait_67 ?_
    refine x_bind (fun r9 er9 => ?_)
    refine x_callVV (av := []) (st := []) (m_X7_minute   im r9 er9) sh_82 (by decide) rfl rfl (by decide) (by decide) lk_X7_135 cd_X7_minute xd_X7_minute rfl (Nat.le_of_ble_eq_true rfl) dX7_wait_68 ?_
    refine x_iinc (q := 3) (a := 1) (lv' := fun v10 => [(4, .int v10), (0, .ref (g.1 82)), (1, .int a1), (3, .int x3)]) dX7_wait_71 rfl (by decide) (by decide) (fun _ => rfl) (fun v10 => ?_)
    refine x_goto (tgt := 61) dX7_wait_74 (by decide) ?_
    refine x_sub [1, 2, 3, 0] rfl ?_
    exact hk61 x3 v10 r9
set_option maxRecDepth 20000 in
set_option maxHeartbeats 4000000 in
theorem s_X7_wait_l4 {g : GX} (a1 : Int32)  (k48 : Int32 → Int32 → IM → Option (Int32 × IM)) (hk48 : ∀ (x2 : Int32) (x3 : Int32) (im : IM), X g md_X7_wait eI 48 [(0, .ref (g.1 82)), (1, .int a1), (2, .int x2), (3, .int x3)] [] im (k48 x2 x3 im)) (n : Nat) : ∀ (x3 : Int32) (x4 : Int32) (im : IM), X g md_X7_wait eI 61 [(0, .ref (g.1 82)), (1, .int a1), (3, .int x3), (4, .int x4)] [] im (f_X7_wait_l4 a1 k48 n x3 x4 im) := by
  induction n with
  | zero => intro x3 x4 im; exact x_none
  | succ n ih => intro x3 x4 im; exact s_X7_wait_l4b a1 k48 hk48 (f_X7_wait_l4 a1 k48 n) ih x3 x4 im
def f_X7_wait_l2b (a1 : Int32)   (k48 : Int32 → Int32 → IM → Option (Int32 × IM)) (x2 : Int32) (x3 : Int32) (im : IM) : Option (Int32 × IM) :=
  if 60 ≤ x3 then
    f_X7_wait_j3 a1 x2 im
  else
    if 0 ≤ x2 then
      f_X7_wait_j3 a1 x2 im
    else
      f_X7_wait_l4 a1 k48 xF x3 0 im
def f_X7_wait_l2 (a1 : Int32)   : Nat → Int32 → Int32 → IM → Option (Int32 × IM)
  | 0, _, _, _ => none
  | n + 1, x2, x3, im => f_X7_wait_l2b a1 (f_X7_wait_l2 a1 n) x2 x3 im
set_option maxRecDepth 20000 in
set_option maxHeartbeats 4000000 in
theorem s_X7_wait_l2b {g : GX} (a1 : Int32)    (k48 : Int32 → Int32 → IM → Option (Int32 × IM)) (hk48 : ∀ (x2 : Int32) (x3 : Int32) (im : IM), X g md_X7_wait eI 48 [(0, .ref (g.1 82)), (1, .int a1), (2, .int x2), (3, .int x3)] [] im (k48 x2 x3 im)) (x2 : Int32) (x3 : Int32)  (im : IM) : X g md_X7_wait eI 48 [(0, .ref (g.1 82)), (1, .int a1), (2, .int x2), (3, .int x3)] [] im (f_X7_wait_l2b a1 k48 x2 x3 im) := by
  refine x_iload_n (q := 3) rfl rfl dX7_wait_48 ?_
  refine x_bipush (v := (60)) (by decide) dX7_wait_49 ?_
  refine x_icmp_ge (tgt := 110) dX7_wait_51 (by decide) ?_ ?_
  · refine x_sub [0, 2] rfl ?_
    exact s_X7_wait_j3 a1 x2 im
  · refine x_iload_n (q := 2) rfl rfl dX7_wait_54 ?_
    refine x_if_ge (tgt := 110) dX7_wait_55 (by decide) ?_ ?_
    · refine x_sub [0, 2] rfl ?_
      exact s_X7_wait_j3 a1 x2 im
    · refine x_iconst (v := (0)) (by decide) dX7_wait_58 ?_
      refine x_istore (lv' := [(4, .int 0), (0, .ref (g.1 82)), (1, .int a1), (2, .int x2), (3, .int x3)]) dX7_wait_59 (by decide) rfl ?_
      refine x_sub [1, 2, 4, 0] rfl ?_
      exact s_X7_wait_l4 a1 k48 hk48 xF x3 0 im
set_option maxRecDepth 20000 in
set_option maxHeartbeats 4000000 in
theorem s_X7_wait_l2 {g : GX} (a1 : Int32)    (n : Nat) : ∀ (x2 : Int32) (x3 : Int32) (im : IM), X g md_X7_wait eI 48 [(0, .ref (g.1 82)), (1, .int a1), (2, .int x2), (3, .int x3)] [] im (f_X7_wait_l2 a1 n x2 x3 im) := by
  induction n with
  | zero => intro x2 x3 im; exact x_none
  | succ n ih => intro x2 x3 im; exact s_X7_wait_l2b a1 (f_X7_wait_l2 a1 n) ih x2 x3 im
def f_X7_wait (a1 : Int32) (im : IM) : Option (Int32 × IM) :=
  if (f_X7_isThing a1 im) = 0 then
    (f_X7_finds ((-1000001)) im).bind fun r11 =>
    some ((r11.1, r11.2))
  else
    (f_X7_isReady a1 im).bind fun r1 =>
    if r1 = 0 then
      f_X7_wait_j1 a1 im
    else
      if (f_X7_isTooLate 259 im) = 0 then
        (f_X7_puts im).bind fun r3 =>
        f_X7_wait_l2 a1 xF ((-1)) 0 r3
      else
        f_X7_wait_j1 a1 im
set_option maxRecDepth 20000 in
set_option maxHeartbeats 4000000 in
theorem s_X7_wait {g : GX}  (a1 : Int32) (im : IM) : X g md_X7_wait eI 0 [(0, .ref (g.1 82)), (1, .int a1)] [] im (f_X7_wait a1 im) := by
  refine x_aload_n (q := 0) rfl rfl dX7_wait_0 ?_
  refine x_iload_n (q := 1) rfl rfl dX7_wait_1 ?_
  refine x_callVR (av := [.int a1]) (st := []) (m_X7_isThing  a1 im) sh_82 (by decide) rfl rfl (by decide) (by decide) lk_X7_92 cd_X7_isThing xd_X7_isThing rfl (Nat.le_of_ble_eq_true rfl) dX7_wait_2 ?_
  refine x_if_ne (tgt := 15) dX7_wait_5 (by decide) ?_ ?_
  · refine x_aload_n (q := 0) rfl rfl dX7_wait_15 ?_
    refine x_iload_n (q := 1) rfl rfl dX7_wait_16 ?_
    refine x_bind (fun r1 er1 => ?_)
    refine x_callVR (av := [.int a1]) (st := []) (m_X7_isReady  a1 im r1 er1) sh_82 (by decide) rfl rfl (by decide) (by decide) lk_X7_106 cd_X7_isReady xd_X7_isReady rfl (Nat.le_of_ble_eq_true rfl) dX7_wait_17 ?_
    refine x_if_eq (tgt := 33) dX7_wait_20 (by decide) ?_ ?_
    · refine x_sub [0] rfl ?_
      exact s_X7_wait_j1 a1 im
    · refine x_aload_n (q := 0) rfl rfl dX7_wait_23 ?_
      refine x_sipush (v := (259)) (by decide) dX7_wait_24 ?_
      refine x_callVR (av := [.int 259]) (st := []) (m_X7_isTooLate  259 im) sh_82 (by decide) rfl rfl (by decide) (by decide) lk_X7_132 cd_X7_isTooLate xd_X7_isTooLate rfl (Nat.le_of_ble_eq_true rfl) dX7_wait_27 ?_
      refine x_if_eq (tgt := 40) dX7_wait_30 (by decide) ?_ ?_
      · refine x_aload_n (q := 0) rfl rfl dX7_wait_40 ?_
        refine x_bind (fun r3 er3 => ?_)
        refine x_callVV (av := []) (st := []) (m_X7_puts   im r3 er3) sh_82 (by decide) rfl rfl (by decide) (by decide) lk_X7_148 cd_X7_puts xd_X7_puts rfl (Nat.le_of_ble_eq_true rfl) dX7_wait_41 ?_
        refine x_iconst (v := (-1)) (by decide) dX7_wait_44 ?_
        refine x_istore_n (lv' := [(2, .int ((-1))), (0, .ref (g.1 82)), (1, .int a1)]) rfl dX7_wait_45 (by decide) rfl ?_
        refine x_iconst (v := (0)) (by decide) dX7_wait_46 ?_
        refine x_istore_n (lv' := [(3, .int 0), (2, .int ((-1))), (0, .ref (g.1 82)), (1, .int a1)]) rfl dX7_wait_47 (by decide) rfl ?_
        refine x_sub [2, 3, 1, 0] rfl ?_
        exact s_X7_wait_l2 a1 xF ((-1)) 0 r3
      · refine x_sub [0] rfl ?_
        exact s_X7_wait_j1 a1 im
  · refine x_aload_n (q := 0) rfl rfl dX7_wait_8 ?_
    refine x_ldc co_X7_43 dX7_wait_9 ?_
    refine x_bind (fun r11 er11 => ?_)
    refine x_callVI (av := [.int ((-1000001))]) (st := []) (m_X7_finds  (((-1000001))) im r11 er11) sh_82 (by decide) rfl rfl (by decide) (by decide) lk_X7_59 cd_X7_finds xd_X7_finds rfl (Nat.le_of_ble_eq_true rfl) dX7_wait_11 ?_
    exact x_iret rfl rfl dX7_wait_14
theorem m_X7_wait {g : GX}  (a1 : Int32) (im : IM) (r : Int32 × IM) (hr : f_X7_wait a1 im = some r) : xMet g 6 yX7_wait cX7_wait 5 (some .int) [.ref (g.1 82), .int a1] im (eI r) := x_met (by decide) (Nat.le_of_ble_eq_true rfl) rfl (s_X7_wait a1 im) r hr
abbrev md_X7_isRolling : xM := (3, 1, RX7, cX7_isRolling, (some .boolean))
def f_X7_isRolling  (im : IM) : Option (Int32) :=
  (f_X7_areIn 1 im).bind fun r1 =>
  if r1 = 0 then
    some 0
  else
    some 1
set_option maxRecDepth 20000 in
set_option maxHeartbeats 4000000 in
theorem s_X7_isRolling {g : GX}   (im : IM) : X g md_X7_isRolling (eR im) 0 [(0, .ref (g.1 82))] [] im (f_X7_isRolling im) := by
  refine x_aload_n (q := 0) rfl rfl dX7_isRolling_0 ?_
  refine x_iconst (v := (1)) (by decide) dX7_isRolling_1 ?_
  refine x_bind (fun r1 er1 => ?_)
  refine x_callVR (av := [.int 1]) (st := []) (m_X7_areIn  1 im r1 er1) sh_82 (by decide) rfl rfl (by decide) (by decide) lk_X7_140 cd_X7_areIn xd_X7_areIn rfl (Nat.le_of_ble_eq_true rfl) dX7_isRolling_2 ?_
  refine x_if_eq (tgt := 12) dX7_isRolling_5 (by decide) ?_ ?_
  · refine x_iconst (v := (0)) (by decide) dX7_isRolling_12 ?_
    exact x_nret (y := 0) rfl rfl (by decide) dX7_isRolling_13
  · refine x_iconst (v := (1)) (by decide) dX7_isRolling_8 ?_
    refine x_goto (tgt := 13) dX7_isRolling_9 (by decide) ?_
    exact x_nret (y := 1) rfl rfl (by decide) dX7_isRolling_13
theorem m_X7_isRolling {g : GX}   (im : IM) (r : Int32) (hr : f_X7_isRolling im = some r) : xMet g 3 yX7_isRolling cX7_isRolling 1 (some .boolean) [.ref (g.1 82)] im ((eR im) r) := x_met (by decide) (Nat.le_of_ble_eq_true rfl) rfl (s_X7_isRolling im) r hr
abbrev md_X7_behind : xM := (6, 7, RX7, cX7_behind, (some .int))
def f_X7_behind_j1 (a1 : Int32) (a2 : Int32)   (im : IM) : Option (Int32 × IM) :=
  (f_X7_finds ((-1000001)) im).bind fun r1 =>
  some ((r1.1, r1.2))
set_option maxRecDepth 20000 in
set_option maxHeartbeats 4000000 in
theorem s_X7_behind_j1 {g : GX} (a1 : Int32) (a2 : Int32)      (im : IM) : X g md_X7_behind eI 21 [(0, .ref (g.1 82))] [] im (f_X7_behind_j1 a1 a2 im) := by
  refine x_aload_n (q := 0) rfl rfl dX7_behind_21 ?_
  refine x_ldc co_X7_43 dX7_behind_22 ?_
  refine x_bind (fun r1 er1 => ?_)
  refine x_callVI (av := [.int ((-1000001))]) (st := []) (m_X7_finds  (((-1000001))) im r1 er1) sh_82 (by decide) rfl rfl (by decide) (by decide) lk_X7_59 cd_X7_finds xd_X7_finds rfl (Nat.le_of_ble_eq_true rfl) dX7_behind_24 ?_
  exact x_iret rfl rfl dX7_behind_27
def f_X7_behind_j2 (a1 : Int32) (a2 : Int32)   (im : IM) : Option (Int32 × IM) :=
  (f_X7_finds ((-1000005)) im).bind fun r3 =>
  some ((r3.1, r3.2))
set_option maxRecDepth 20000 in
set_option maxHeartbeats 4000000 in
theorem s_X7_behind_j2 {g : GX} (a1 : Int32) (a2 : Int32)      (im : IM) : X g md_X7_behind eI 69 [(0, .ref (g.1 82))] [] im (f_X7_behind_j2 a1 a2 im) := by
  refine x_aload_n (q := 0) rfl rfl dX7_behind_69 ?_
  refine x_ldc co_X7_109 dX7_behind_70 ?_
  refine x_bind (fun r3 er3 => ?_)
  refine x_callVI (av := [.int ((-1000005))]) (st := []) (m_X7_finds  (((-1000005))) im r3 er3) sh_82 (by decide) rfl rfl (by decide) (by decide) lk_X7_59 cd_X7_finds xd_X7_finds rfl (Nat.le_of_ble_eq_true rfl) dX7_behind_72 ?_
  exact x_iret rfl rfl dX7_behind_75
def f_X7_behind_j4 (a1 : Int32) (a2 : Int32)  (x3 : Int32) (im : IM) : Option (Int32 × IM) :=
  if 0 ≤ x3 then
    some ((x3, im))
  else
    (f_X7_finds ((-1000004)) im).bind fun r8 =>
    some ((r8.1, r8.2))
set_option maxRecDepth 20000 in
set_option maxHeartbeats 4000000 in
theorem s_X7_behind_j4 {g : GX} (a1 : Int32) (a2 : Int32)    (x3 : Int32)  (im : IM) : X g md_X7_behind eI 287 [(0, .ref (g.1 82)), (3, .int x3)] [] im (f_X7_behind_j4 a1 a2 x3 im) := by
  refine x_iload_n (q := 1) rfl rfl dX7_behind_287 ?_
  refine x_if_ge (tgt := 300) dX7_behind_288 (by decide) ?_ ?_
  · refine x_iload_n (q := 1) rfl rfl dX7_behind_300 ?_
    exact x_iret rfl rfl dX7_behind_301
  · refine x_aload_n (q := 0) rfl rfl dX7_behind_291 ?_
    refine x_ldc co_X7_157 dX7_behind_292 ?_
    refine x_bind (fun r8 er8 => ?_)
    refine x_callVI (av := [.int ((-1000004))]) (st := []) (m_X7_finds  (((-1000004))) im r8 er8) sh_82 (by decide) rfl rfl (by decide) (by decide) lk_X7_59 cd_X7_finds xd_X7_finds rfl (Nat.le_of_ble_eq_true rfl) dX7_behind_294 ?_
    refine x_goto (tgt := 301) dX7_behind_297 (by decide) ?_
    exact x_iret rfl rfl dX7_behind_301
def f_X7_behind_j10 (a1 : Int32) (a2 : Int32) (k85 : Int32 → Int32 → IM → Option (Int32 × IM)) (x4 : Int32) (s0 : Int32) (im : IM) : Option (Int32 × IM) :=
  (f_X7_putsBack im).bind fun r12 =>
  bnd (x4 + 1) fun v13 =>
  k85 s0 v13 r12
set_option maxRecDepth 20000 in
set_option maxHeartbeats 4000000 in
theorem s_X7_behind_j10 {g : GX} (a1 : Int32) (a2 : Int32)  (k85 : Int32 → Int32 → IM → Option (Int32 × IM)) (hk85 : ∀ (x3 : Int32) (x4 : Int32) (im : IM), X g md_X7_behind eI 85 [(0, .ref (g.1 82)), (1, .int a1), (2, .int a2), (3, .int x3), (4, .int x4)] [] im (k85 x3 x4 im)) (x4 : Int32) (s0 : Int32)  (im : IM) : X g md_X7_behind eI 276 [(0, .ref (g.1 82)), (1, .int a1), (2, .int a2), (4, .int x4)] [.int s0] im (f_X7_behind_j10 a1 a2 k85 x4 s0 im) := by
  refine x_istore_n (lv' := [(3, .int s0), (0, .ref (g.1 82)), (1, .int a1), (2, .int a2), (4, .int x4)]) rfl dX7_behind_276 (by decide) rfl ?_
  refine x_aload_n (q := 1) rfl rfl dX7_behind_277 ?_
  refine x_bind (fun r12 er12 => ?_)
  refine x_callVV (av := []) (st := []) (m_X7_putsBack   im r12 er12) sh_82 (by decide) rfl rfl (by decide) (by decide) lk_X7_154 cd_X7_putsBack xd_X7_putsBack rfl (Nat.le_of_ble_eq_true rfl) dX7_behind_278 ?_
  refine x_iinc (q := 4) (a := 1) (lv' := fun v13 => [(4, .int v13), (3, .int s0), (0, .ref (g.1 82)), (1, .int a1), (2, .int a2)]) dX7_behind_281 rfl (by decide) (by decide) (fun _ => rfl) (fun v13 => ?_)
  refine x_goto (tgt := 85) dX7_behind_284 (by decide) ?_
  refine x_sub [2, 3, 4, 1, 0] rfl ?_
  exact hk85 s0 v13 r12
def f_X7_behind_j9 (a1 : Int32) (a2 : Int32) (k85 : Int32 → Int32 → IM → Option (Int32 × IM)) (x4 : Int32) (im : IM) : Option (Int32 × IM) :=
  f_X7_behind_j10 a1 a2 k85 x4 ((-1)) im
set_option maxRecDepth 20000 in
set_option maxHeartbeats 4000000 in
theorem s_X7_behind_j9 {g : GX} (a1 : Int32) (a2 : Int32)  (k85 : Int32 → Int32 → IM → Option (Int32 × IM)) (hk85 : ∀ (x3 : Int32) (x4 : Int32) (im : IM), X g md_X7_behind eI 85 [(0, .ref (g.1 82)), (1, .int a1), (2, .int a2), (3, .int x3), (4, .int x4)] [] im (k85 x3 x4 im)) (x4 : Int32)  (im : IM) : X g md_X7_behind eI 275 [(0, .ref (g.1 82)), (1, .int a1), (2, .int a2), (4, .int x4)] [] im (f_X7_behind_j9 a1 a2 k85 x4 im) := by
  refine x_iconst (v := (-1)) (by decide) dX7_behind_275 ?_
  refine x_sub [0, 1, 2, 3] rfl ?_
  exact s_X7_behind_j10 a1 a2 k85 hk85 x4 ((-1)) im
def f_X7_behind_j8 (a1 : Int32) (a2 : Int32) (k85 : Int32 → Int32 → IM → Option (Int32 × IM)) (x4 : Int32) (x5 : Int32) (im : IM) : Option (Int32 × IM) :=
  if x5 = 0 then
    f_X7_behind_j9 a1 a2 k85 x4 im
  else
    (f_X7_its a1 6 im).bind fun r14 =>
    if r14 = 0 then
      (f_X7_its a2 6 im).bind fun r15 =>
      if r15 = 0 then
        (f_X7_its a1 4 im).bind fun r16 =>
        if r16 = 30 then
          (f_X7_its a2 4 im).bind fun r17 =>
          if r17 = 30 then
            f_X7_behind_j10 a1 a2 k85 x4 x4 im
          else
            f_X7_behind_j9 a1 a2 k85 x4 im
        else
          f_X7_behind_j9 a1 a2 k85 x4 im
      else
        f_X7_behind_j9 a1 a2 k85 x4 im
    else
      f_X7_behind_j9 a1 a2 k85 x4 im
set_option maxRecDepth 20000 in
set_option maxHeartbeats 4000000 in
theorem s_X7_behind_j8 {g : GX} (a1 : Int32) (a2 : Int32)  (k85 : Int32 → Int32 → IM → Option (Int32 × IM)) (hk85 : ∀ (x3 : Int32) (x4 : Int32) (im : IM), X g md_X7_behind eI 85 [(0, .ref (g.1 82)), (1, .int a1), (2, .int a2), (3, .int x3), (4, .int x4)] [] im (k85 x3 x4 im)) (x4 : Int32) (x5 : Int32)  (im : IM) : X g md_X7_behind eI 223 [(0, .ref (g.1 82)), (1, .int a1), (2, .int a2), (4, .int x4), (5, .int x5)] [] im (f_X7_behind_j8 a1 a2 k85 x4 x5 im) := by
  refine x_iload (q := 4) rfl dX7_behind_223 ?_
  refine x_if_eq (tgt := 275) dX7_behind_225 (by decide) ?_ ?_
  · refine x_sub [0, 1, 2, 3] rfl ?_
    exact s_X7_behind_j9 a1 a2 k85 hk85 x4 im
  · refine x_aload_n (q := 0) rfl rfl dX7_behind_228 ?_
    refine x_iload_n (q := 1) rfl rfl dX7_behind_229 ?_
    refine x_bipush (v := (6)) (by decide) dX7_behind_230 ?_
    refine x_bind (fun r14 er14 => ?_)
    refine x_callVR (av := [.int a1, .int 6]) (st := []) (m_X7_its  a1 6 im r14 er14) sh_82 (by decide) rfl rfl (by decide) (by decide) lk_X7_89 cd_X7_its xd_X7_its rfl (Nat.le_of_ble_eq_true rfl) dX7_behind_232 ?_
    refine x_if_ne (tgt := 275) dX7_behind_235 (by decide) ?_ ?_
    · refine x_sub [0, 1, 2, 3] rfl ?_
      exact s_X7_behind_j9 a1 a2 k85 hk85 x4 im
    · refine x_aload_n (q := 0) rfl rfl dX7_behind_238 ?_
      refine x_iload_n (q := 2) rfl rfl dX7_behind_239 ?_
      refine x_bipush (v := (6)) (by decide) dX7_behind_240 ?_
      refine x_bind (fun r15 er15 => ?_)
      refine x_callVR (av := [.int a2, .int 6]) (st := []) (m_X7_its  a2 6 im r15 er15) sh_82 (by decide) rfl rfl (by decide) (by decide) lk_X7_89 cd_X7_its xd_X7_its rfl (Nat.le_of_ble_eq_true rfl) dX7_behind_242 ?_
      refine x_if_ne (tgt := 275) dX7_behind_245 (by decide) ?_ ?_
      · refine x_sub [0, 1, 2, 3] rfl ?_
        exact s_X7_behind_j9 a1 a2 k85 hk85 x4 im
      · refine x_aload_n (q := 0) rfl rfl dX7_behind_248 ?_
        refine x_iload_n (q := 1) rfl rfl dX7_behind_249 ?_
        refine x_iconst (v := (4)) (by decide) dX7_behind_250 ?_
        refine x_bind (fun r16 er16 => ?_)
        refine x_callVR (av := [.int a1, .int 4]) (st := []) (m_X7_its  a1 4 im r16 er16) sh_82 (by decide) rfl rfl (by decide) (by decide) lk_X7_89 cd_X7_its xd_X7_its rfl (Nat.le_of_ble_eq_true rfl) dX7_behind_251 ?_
        refine x_bipush (v := (30)) (by decide) dX7_behind_254 ?_
        refine x_icmp_ne (tgt := 275) dX7_behind_256 (by decide) ?_ ?_
        · refine x_sub [0, 1, 2, 3] rfl ?_
          exact s_X7_behind_j9 a1 a2 k85 hk85 x4 im
        · refine x_aload_n (q := 0) rfl rfl dX7_behind_259 ?_
          refine x_iload_n (q := 2) rfl rfl dX7_behind_260 ?_
          refine x_iconst (v := (4)) (by decide) dX7_behind_261 ?_
          refine x_bind (fun r17 er17 => ?_)
          refine x_callVR (av := [.int a2, .int 4]) (st := []) (m_X7_its  a2 4 im r17 er17) sh_82 (by decide) rfl rfl (by decide) (by decide) lk_X7_89 cd_X7_its xd_X7_its rfl (Nat.le_of_ble_eq_true rfl) dX7_behind_262 ?_
          refine x_bipush (v := (30)) (by decide) dX7_behind_265 ?_
          refine x_icmp_ne (tgt := 275) dX7_behind_267 (by decide) ?_ ?_
          · refine x_sub [0, 1, 2, 3] rfl ?_
            exact s_X7_behind_j9 a1 a2 k85 hk85 x4 im
          · refine x_iload (q := 3) rfl dX7_behind_270 ?_
            refine x_goto (tgt := 276) dX7_behind_272 (by decide) ?_
            refine x_sub [0, 1, 2, 3] rfl ?_
            exact s_X7_behind_j10 a1 a2 k85 hk85 x4 x4 im
def f_X7_behind_l7b (a1 : Int32) (a2 : Int32) (k85 : Int32 → Int32 → IM → Option (Int32 × IM))  (k190 : Int32 → Int32 → Int32 → IM → Option (Int32 × IM)) (x4 : Int32) (x5 : Int32) (x6 : Int32) (im : IM) : Option (Int32 × IM) :=
  if 200 ≤ x6 then
    f_X7_behind_j8 a1 a2 k85 x4 x5 im
  else
    if x5 = 0 then
      f_X7_behind_j8 a1 a2 k85 x4 x5 im
    else
      (f_X7_isRolling im).bind fun r18 =>
      if r18 = 0 then
        f_X7_behind_j8 a1 a2 k85 x4 x5 im
      else
        (f_X7_isQuiet 1 im).bind fun r19 =>
        bnd (x6 + 1) fun v20 =>
        k190 x4 r19.1 v20 r19.2
def f_X7_behind_l7 (a1 : Int32) (a2 : Int32) (k85 : Int32 → Int32 → IM → Option (Int32 × IM))  : Nat → Int32 → Int32 → Int32 → IM → Option (Int32 × IM)
  | 0, _, _, _, _ => none
  | n + 1, x4, x5, x6, im => f_X7_behind_l7b a1 a2 k85 (f_X7_behind_l7 a1 a2 k85 n) x4 x5 x6 im
set_option maxRecDepth 20000 in
set_option maxHeartbeats 4000000 in
theorem s_X7_behind_l7b {g : GX} (a1 : Int32) (a2 : Int32)  (k85 : Int32 → Int32 → IM → Option (Int32 × IM)) (hk85 : ∀ (x3 : Int32) (x4 : Int32) (im : IM), X g md_X7_behind eI 85 [(0, .ref (g.1 82)), (1, .int a1), (2, .int a2), (3, .int x3), (4, .int x4)] [] im (k85 x3 x4 im)) (k190 : Int32 → Int32 → Int32 → IM → Option (Int32 × IM)) (hk190 : ∀ (x4 : Int32) (x5 : Int32) (x6 : Int32) (im : IM), X g md_X7_behind eI 190 [(0, .ref (g.1 82)), (1, .int a1), (2, .int a2), (4, .int x4), (5, .int x5), (6, .int x6)] [] im (k190 x4 x5 x6 im)) (x4 : Int32) (x5 : Int32) (x6 : Int32)  (im : IM) : X g md_X7_behind eI 190 [(0, .ref (g.1 82)), (1, .int a1), (2, .int a2), (4, .int x4), (5, .int x5), (6, .int x6)] [] im (f_X7_behind_l7b a1 a2 k85 k190 x4 x5 x6 im) := by
  refine x_iload (q := 5) rfl dX7_behind_190 ?_
  refine x_sipush (v := (200)) (by decide) dX7_behind_192 ?_
  refine x_icmp_ge (tgt := 223) dX7_behind_195 (by decide) ?_ ?_
  · refine x_sub [0, 1, 2, 3, 4] rfl ?_
    exact s_X7_behind_j8 a1 a2 k85 hk85 x4 x5 im
  · refine x_iload (q := 4) rfl dX7_behind_198 ?_
    refine x_if_eq (tgt := 223) dX7_behind_200 (by decide) ?_ ?_
    · refine x_sub [0, 1, 2, 3, 4] rfl ?_
      exact s_X7_behind_j8 a1 a2 k85 hk85 x4 x5 im
    · refine x_aload_n (q := 0) rfl rfl dX7_behind_203 ?_
      refine x_bind (fun r18 er18 => ?_)
      refine x_callVR (av := []) (st := []) (m_X7_isRolling   im r18 er18) sh_82 (by decide) rfl rfl (by decide) (by decide) lk_X7_182 cd_X7_isRolling xd_X7_isRolling rfl (Nat.le_of_ble_eq_true rfl) dX7_behind_204 ?_
      refine x_if_eq (tgt := 223) dX7_behind_207 (by decide) ?_ ?_
      · refine x_sub [0, 1, 2, 3, 4] rfl ?_
        exact s_X7_behind_j8 a1 a2 k85 hk85 x4 x5 im
      · refine x_aload_n (q := 0) rfl rfl dX7_behind_210 ?_
        refine x_iconst (v := (1)) (by decide) dX7_behind_211 ?_
        refine x_bind (fun r19 er19 => ?_)
        refine x_callVI (av := [.int 1]) (st := []) (m_X7_isQuiet  1 im r19 er19) sh_82 (by decide) rfl rfl (by decide) (by decide) lk_X7_179 cd_X7_isQuiet xd_X7_isQuiet rfl (Nat.le_of_ble_eq_true rfl) dX7_behind_212 ?_
        refine x_istore (lv' := [(5, .int r19.1), (0, .ref (g.1 82)), (1, .int a1), (2, .int a2), (4, .int x4), (6, .int x6)]) dX7_behind_215 (by decide) rfl ?_
        refine x_iinc (q := 5) (a := 1) (lv' := fun v20 => [(6, .int v20), (5, .int r19.1), (0, .ref (g.1 82)), (1, .int a1), (2, .int a2), (4, .int x4)]) dX7_behind_217 rfl (by decide) (by decide) (fun _ => rfl) (fun v20 => ?_)
        refine x_goto (tgt := 190) dX7_behind_220 (by decide) ?_
        refine x_sub [2, 3, 4, 5, 1, 0] rfl ?_
        exact hk190 x4 r19.1 v20 r19.2
set_option maxRecDepth 20000 in
set_option maxHeartbeats 4000000 in
theorem s_X7_behind_l7 {g : GX} (a1 : Int32) (a2 : Int32)  (k85 : Int32 → Int32 → IM → Option (Int32 × IM)) (hk85 : ∀ (x3 : Int32) (x4 : Int32) (im : IM), X g md_X7_behind eI 85 [(0, .ref (g.1 82)), (1, .int a1), (2, .int a2), (3, .int x3), (4, .int x4)] [] im (k85 x3 x4 im)) (n : Nat) : ∀ (x4 : Int32) (x5 : Int32) (x6 : Int32) (im : IM), X g md_X7_behind eI 190 [(0, .ref (g.1 82)), (1, .int a1), (2, .int a2), (4, .int x4), (5, .int x5), (6, .int x6)] [] im (f_X7_behind_l7 a1 a2 k85 n x4 x5 x6 im) := by
  induction n with
  | zero => intro x4 x5 x6 im; exact x_none
  | succ n ih => intro x4 x5 x6 im; exact s_X7_behind_l7b a1 a2 k85 hk85 (f_X7_behind_l7 a1 a2 k85 n) ih x4 x5 x6 im
def f_X7_behind_j6 (a1 : Int32) (a2 : Int32) (k85 : Int32 → Int32 → IM → Option (Int32 × IM)) (x4 : Int32) (x5 : Int32) (s0 : Int32) (s1 : Int32) (im : IM) : Option (Int32 × IM) :=
  (f_X7_letsGo s1 s0 im).bind fun r11 =>
  f_X7_behind_l7 a1 a2 k85 xF x4 x5 0 r11
set_option maxRecDepth 20000 in
set_option maxHeartbeats 4000000 in
theorem s_X7_behind_j6 {g : GX} (a1 : Int32) (a2 : Int32)  (k85 : Int32 → Int32 → IM → Option (Int32 × IM)) (hk85 : ∀ (x3 : Int32) (x4 : Int32) (im : IM), X g md_X7_behind eI 85 [(0, .ref (g.1 82)), (1, .int a1), (2, .int a2), (3, .int x3), (4, .int x4)] [] im (k85 x3 x4 im)) (x4 : Int32) (x5 : Int32) (s0 : Int32) (s1 : Int32)  (im : IM) : X g md_X7_behind eI 184 [(0, .ref (g.1 82)), (1, .int a1), (2, .int a2), (4, .int x4), (5, .int x5)] [.int s0, .int s1, .ref (g.1 82)] im (f_X7_behind_j6 a1 a2 k85 x4 x5 s0 s1 im) := by
  refine x_bind (fun r11 er11 => ?_)
  refine x_callVV (av := [.int s1, .int s0]) (st := []) (m_X7_letsGo  s1 s0 im r11 er11) sh_82 (by decide) rfl rfl (by decide) (by decide) lk_X7_110 cd_X7_letsGo xd_X7_letsGo rfl (Nat.le_of_ble_eq_true rfl) dX7_behind_184 ?_
  refine x_iconst (v := (0)) (by decide) dX7_behind_187 ?_
  refine x_istore (lv' := [(6, .int 0), (0, .ref (g.1 82)), (1, .int a1), (2, .int a2), (4, .int x4), (5, .int x5)]) dX7_behind_188 (by decide) rfl ?_
  refine x_sub [1, 2, 3, 4, 5, 0] rfl ?_
  exact s_X7_behind_l7 a1 a2 k85 hk85 xF x4 x5 0 r11
def f_X7_behind_j12 (a1 : Int32) (a2 : Int32) (k85 : Int32 → Int32 → IM → Option (Int32 × IM)) (k99 : Int32 → Int32 → IM → Option (Int32 × IM)) (x4 : Int32) (x5 : Int32) (s0 : Int32) (s1 : Int32) (im : IM) : Option (Int32 × IM) :=
  if inb s1 167 = true then
    bnd (up im 83 (ix s1) s0) fun m21 =>
    bnd (x5 + 1) fun v22 =>
    k99 x4 v22 m21
  else none
set_option maxRecDepth 20000 in
set_option maxHeartbeats 4000000 in
theorem s_X7_behind_j12 {g : GX} (a1 : Int32) (a2 : Int32)  (k85 : Int32 → Int32 → IM → Option (Int32 × IM)) (k99 : Int32 → Int32 → IM → Option (Int32 × IM)) (hk85 : ∀ (x3 : Int32) (x4 : Int32) (im : IM), X g md_X7_behind eI 85 [(0, .ref (g.1 82)), (1, .int a1), (2, .int a2), (3, .int x3), (4, .int x4)] [] im (k85 x3 x4 im)) (hk99 : ∀ (x4 : Int32) (x5 : Int32) (im : IM), X g md_X7_behind eI 99 [(0, .ref (g.1 82)), (1, .int a1), (2, .int a2), (4, .int x4), (5, .int x5)] [] im (k99 x4 x5 im)) (x4 : Int32) (x5 : Int32) (s0 : Int32) (s1 : Int32)  (im : IM) : X g md_X7_behind eI 149 [(0, .ref (g.1 82)), (1, .int a1), (2, .int a2), (4, .int x4), (5, .int x5)] [.int s0, .int s1, .ref (g.1 83)] im (f_X7_behind_j12 a1 a2 k85 k99 x4 x5 s0 s1 im) := by
  refine x_iast sh_83 dX7_behind_149 ?_
  refine x_bm (fun m21 => ?_)
  refine x_iinc (q := 4) (a := 1) (lv' := fun v22 => [(5, .int v22), (0, .ref (g.1 82)), (1, .int a1), (2, .int a2), (4, .int x4)]) dX7_behind_150 rfl (by decide) (by decide) (fun _ => rfl) (fun v22 => ?_)
  refine x_goto (tgt := 99) dX7_behind_153 (by decide) ?_
  refine x_sub [1, 2, 3, 4, 0] rfl ?_
  exact hk99 x4 v22 m21
def f_X7_behind_j11 (a1 : Int32) (a2 : Int32) (k85 : Int32 → Int32 → IM → Option (Int32 × IM)) (k99 : Int32 → Int32 → IM → Option (Int32 × IM)) (x4 : Int32) (x5 : Int32) (s0 : Int32) (im : IM) : Option (Int32 × IM) :=
  if inb (f_X7_at x5 6) 167 = true then
    f_X7_behind_j12 a1 a2 k85 k99 x4 x5 (im 83 (ix (f_X7_at x5 6))) s0 im
  else none
set_option maxRecDepth 20000 in
set_option maxHeartbeats 4000000 in
theorem s_X7_behind_j11 {g : GX} (a1 : Int32) (a2 : Int32)  (k85 : Int32 → Int32 → IM → Option (Int32 × IM)) (k99 : Int32 → Int32 → IM → Option (Int32 × IM)) (hk85 : ∀ (x3 : Int32) (x4 : Int32) (im : IM), X g md_X7_behind eI 85 [(0, .ref (g.1 82)), (1, .int a1), (2, .int a2), (3, .int x3), (4, .int x4)] [] im (k85 x3 x4 im)) (hk99 : ∀ (x4 : Int32) (x5 : Int32) (im : IM), X g md_X7_behind eI 99 [(0, .ref (g.1 82)), (1, .int a1), (2, .int a2), (4, .int x4), (5, .int x5)] [] im (k99 x4 x5 im)) (x4 : Int32) (x5 : Int32) (s0 : Int32)  (im : IM) : X g md_X7_behind eI 133 [(0, .ref (g.1 82)), (1, .int a1), (2, .int a2), (4, .int x4), (5, .int x5)] [.int s0, .ref (g.1 83)] im (f_X7_behind_j11 a1 a2 k85 k99 x4 x5 s0 im) := by
  refine x_aload_n (q := 0) rfl rfl dX7_behind_133 ?_
  refine x_get (C := RX7) (T := TX7) sh_82 (by decide) rfl in_X7 0 (by decide) fl_X7_7 xf_7_0 dX7_behind_134 ?_
  refine x_iload (q := 4) rfl dX7_behind_137 ?_
  refine x_bipush (v := (6)) (by decide) dX7_behind_139 ?_
  refine x_callSR (av := [.int x5, .int 6]) (st := [.ref (g.1 83), .int s0, .ref (g.1 83)]) (m_X7_at  x5 6 im) rfl (by decide) (by decide) lk_X7_72 cd_X7_at xd_X7_at rfl (Nat.le_of_ble_eq_true rfl) dX7_behind_141 ?_
  refine x_iald sh_83 dX7_behind_144 ?_
  refine x_goto (tgt := 149) dX7_behind_145 (by decide) ?_
  refine x_sub [0, 1, 2, 3, 4] rfl ?_
  exact s_X7_behind_j12 a1 a2 k85 k99 hk85 hk99 x4 x5 (im 83 (ix (f_X7_at x5 6))) s0 im
def f_X7_behind_l5b (a1 : Int32) (a2 : Int32) (k85 : Int32 → Int32 → IM → Option (Int32 × IM))  (k99 : Int32 → Int32 → IM → Option (Int32 × IM)) (x4 : Int32) (x5 : Int32) (im : IM) : Option (Int32 × IM) :=
  if (im 83 1) ≤ x5 then
    (f_X7_letsGo a1 10 im).bind fun r9 =>
    (f_X7_isQuiet x4 r9).bind fun r10 =>
    if r10.1 = 0 then
      f_X7_behind_j6 a1 a2 k85 x4 r10.1 0 a2 r10.2
    else
      f_X7_behind_j6 a1 a2 k85 x4 r10.1 10 a2 r10.2
  else
    if x5 = a1 then
      f_X7_behind_j11 a1 a2 k85 k99 x4 x5 (f_X7_at x5 6) im
    else
      if x5 = a2 then
        f_X7_behind_j11 a1 a2 k85 k99 x4 x5 (f_X7_at x5 6) im
      else
        f_X7_behind_j12 a1 a2 k85 k99 x4 x5 3 (f_X7_at x5 6) im
def f_X7_behind_l5 (a1 : Int32) (a2 : Int32) (k85 : Int32 → Int32 → IM → Option (Int32 × IM))  : Nat → Int32 → Int32 → IM → Option (Int32 × IM)
  | 0, _, _, _ => none
  | n + 1, x4, x5, im => f_X7_behind_l5b a1 a2 k85 (f_X7_behind_l5 a1 a2 k85 n) x4 x5 im
set_option maxRecDepth 20000 in
set_option maxHeartbeats 4000000 in
theorem s_X7_behind_l5b {g : GX} (a1 : Int32) (a2 : Int32)  (k85 : Int32 → Int32 → IM → Option (Int32 × IM)) (hk85 : ∀ (x3 : Int32) (x4 : Int32) (im : IM), X g md_X7_behind eI 85 [(0, .ref (g.1 82)), (1, .int a1), (2, .int a2), (3, .int x3), (4, .int x4)] [] im (k85 x3 x4 im)) (k99 : Int32 → Int32 → IM → Option (Int32 × IM)) (hk99 : ∀ (x4 : Int32) (x5 : Int32) (im : IM), X g md_X7_behind eI 99 [(0, .ref (g.1 82)), (1, .int a1), (2, .int a2), (4, .int x4), (5, .int x5)] [] im (k99 x4 x5 im)) (x4 : Int32) (x5 : Int32)  (im : IM) : X g md_X7_behind eI 99 [(0, .ref (g.1 82)), (1, .int a1), (2, .int a2), (4, .int x4), (5, .int x5)] [] im (f_X7_behind_l5b a1 a2 k85 k99 x4 x5 im) := by
  refine x_iload (q := 4) rfl dX7_behind_99 ?_
  refine x_aload_n (q := 0) rfl rfl dX7_behind_101 ?_
  refine x_get (C := RX7) (T := TX7) sh_82 (by decide) rfl in_X7 0 (by decide) fl_X7_7 xf_7_0 dX7_behind_102 ?_
  refine x_iconst (v := (1)) (by decide) dX7_behind_105 ?_
  refine x_ialdc sh_83 (by decide) ix_1 dX7_behind_106 ?_
  refine x_icmp_ge (tgt := 156) dX7_behind_107 (by decide) ?_ ?_
  · refine x_aload_n (q := 0) rfl rfl dX7_behind_156 ?_
    refine x_iload_n (q := 1) rfl rfl dX7_behind_157 ?_
    refine x_bipush (v := (10)) (by decide) dX7_behind_158 ?_
    refine x_bind (fun r9 er9 => ?_)
    refine x_callVV (av := [.int a1, .int 10]) (st := []) (m_X7_letsGo  a1 10 im r9 er9) sh_82 (by decide) rfl rfl (by decide) (by decide) lk_X7_110 cd_X7_letsGo xd_X7_letsGo rfl (Nat.le_of_ble_eq_true rfl) dX7_behind_160 ?_
    refine x_aload_n (q := 0) rfl rfl dX7_behind_163 ?_
    refine x_iload (q := 3) rfl dX7_behind_164 ?_
    refine x_bind (fun r10 er10 => ?_)
    refine x_callVI (av := [.int x4]) (st := []) (m_X7_isQuiet  x4 r9 r10 er10) sh_82 (by decide) rfl rfl (by decide) (by decide) lk_X7_179 cd_X7_isQuiet xd_X7_isQuiet rfl (Nat.le_of_ble_eq_true rfl) dX7_behind_166 ?_
    refine x_istore (lv' := [(5, .int r10.1), (0, .ref (g.1 82)), (1, .int a1), (2, .int a2), (4, .int x4)]) dX7_behind_169 (by decide) rfl ?_
    refine x_aload_n (q := 1) rfl rfl dX7_behind_171 ?_
    refine x_iload_n (q := 3) rfl rfl dX7_behind_172 ?_
    refine x_iload (q := 0) rfl dX7_behind_173 ?_
    refine x_if_eq (tgt := 183) dX7_behind_175 (by decide) ?_ ?_
    · refine x_iconst (v := (0)) (by decide) dX7_behind_183 ?_
      refine x_sub [1, 2, 3, 4, 0] rfl ?_
      exact s_X7_behind_j6 a1 a2 k85 hk85 x4 r10.1 0 a2 r10.2
    · refine x_bipush (v := (10)) (by decide) dX7_behind_178 ?_
      refine x_goto (tgt := 184) dX7_behind_180 (by decide) ?_
      refine x_sub [1, 2, 3, 4, 0] rfl ?_
      exact s_X7_behind_j6 a1 a2 k85 hk85 x4 r10.1 10 a2 r10.2
  · refine x_aload_n (q := 0) rfl rfl dX7_behind_110 ?_
    refine x_get (C := RX7) (T := TX7) sh_82 (by decide) rfl in_X7 0 (by decide) fl_X7_7 xf_7_0 dX7_behind_111 ?_
    refine x_iload (q := 4) rfl dX7_behind_114 ?_
    refine x_bipush (v := (6)) (by decide) dX7_behind_116 ?_
    refine x_callSR (av := [.int x5, .int 6]) (st := [.ref (g.1 83)]) (m_X7_at  x5 6 im) rfl (by decide) (by decide) lk_X7_72 cd_X7_at xd_X7_at rfl (Nat.le_of_ble_eq_true rfl) dX7_behind_118 ?_
    refine x_iload (q := 4) rfl dX7_behind_121 ?_
    refine x_iload_n (q := 1) rfl rfl dX7_behind_123 ?_
    refine x_icmp_eq (tgt := 133) dX7_behind_124 (by decide) ?_ ?_
    · refine x_sub [0, 1, 2, 3, 4] rfl ?_
      exact s_X7_behind_j11 a1 a2 k85 k99 hk85 hk99 x4 x5 (f_X7_at x5 6) im
    · refine x_iload (q := 4) rfl dX7_behind_127 ?_
      refine x_iload_n (q := 2) rfl rfl dX7_behind_129 ?_
      refine x_icmp_ne (tgt := 148) dX7_behind_130 (by decide) ?_ ?_
      · refine x_iconst (v := (3)) (by decide) dX7_behind_148 ?_
        refine x_sub [0, 1, 2, 3, 4] rfl ?_
        exact s_X7_behind_j12 a1 a2 k85 k99 hk85 hk99 x4 x5 3 (f_X7_at x5 6) im
      · refine x_sub [0, 1, 2, 3, 4] rfl ?_
        exact s_X7_behind_j11 a1 a2 k85 k99 hk85 hk99 x4 x5 (f_X7_at x5 6) im
set_option maxRecDepth 20000 in
set_option maxHeartbeats 4000000 in
theorem s_X7_behind_l5 {g : GX} (a1 : Int32) (a2 : Int32)  (k85 : Int32 → Int32 → IM → Option (Int32 × IM)) (hk85 : ∀ (x3 : Int32) (x4 : Int32) (im : IM), X g md_X7_behind eI 85 [(0, .ref (g.1 82)), (1, .int a1), (2, .int a2), (3, .int x3), (4, .int x4)] [] im (k85 x3 x4 im)) (n : Nat) : ∀ (x4 : Int32) (x5 : Int32) (im : IM), X g md_X7_behind eI 99 [(0, .ref (g.1 82)), (1, .int a1), (2, .int a2), (4, .int x4), (5, .int x5)] [] im (f_X7_behind_l5 a1 a2 k85 n x4 x5 im) := by
  induction n with
  | zero => intro x4 x5 im; exact x_none
  | succ n ih => intro x4 x5 im; exact s_X7_behind_l5b a1 a2 k85 hk85 (f_X7_behind_l5 a1 a2 k85 n) ih x4 x5 im
def f_X7_behind_l3b (a1 : Int32) (a2 : Int32)   (k85 : Int32 → Int32 → IM → Option (Int32 × IM)) (x3 : Int32) (x4 : Int32) (im : IM) : Option (Int32 × IM) :=
  if 60 ≤ x4 then
    f_X7_behind_j4 a1 a2 x3 im
  else
    if 0 ≤ x3 then
      f_X7_behind_j4 a1 a2 x3 im
    else
      f_X7_behind_l5 a1 a2 k85 xF x4 0 im
def f_X7_behind_l3 (a1 : Int32) (a2 : Int32)   : Nat → Int32 → Int32 → IM → Option (Int32 × IM)
  | 0, _, _, _ => none
  | n + 1, x3, x4, im => f_X7_behind_l3b a1 a2 (f_X7_behind_l3 a1 a2 n) x3 x4 im
set_option maxRecDepth 20000 in
set_option maxHeartbeats 4000000 in
theorem s_X7_behind_l3b {g : GX} (a1 : Int32) (a2 : Int32)    (k85 : Int32 → Int32 → IM → Option (Int32 × IM)) (hk85 : ∀ (x3 : Int32) (x4 : Int32) (im : IM), X g md_X7_behind eI 85 [(0, .ref (g.1 82)), (1, .int a1), (2, .int a2), (3, .int x3), (4, .int x4)] [] im (k85 x3 x4 im)) (x3 : Int32) (x4 : Int32)  (im : IM) : X g md_X7_behind eI 85 [(0, .ref (g.1 82)), (1, .int a1), (2, .int a2), (3, .int x3), (4, .int x4)] [] im (f_X7_behind_l3b a1 a2 k85 x3 x4 im) := by
  refine x_iload (q := 4) rfl dX7_behind_85 ?_
  refine x_bipush (v := (60)) (by decide) dX7_behind_87 ?_
  refine x_icmp_ge (tgt := 287) dX7_behind_89 (by decide) ?_ ?_
  · refine x_sub [0, 3] rfl ?_
    exact s_X7_behind_j4 a1 a2 x3 im
  · refine x_iload_n (q := 3) rfl rfl dX7_behind_92 ?_
    refine x_if_ge (tgt := 287) dX7_behind_93 (by decide) ?_ ?_
    · refine x_sub [0, 3] rfl ?_
      exact s_X7_behind_j4 a1 a2 x3 im
    · refine x_iconst (v := (0)) (by decide) dX7_behind_96 ?_
      refine x_istore (lv' := [(5, .int 0), (0, .ref (g.1 82)), (1, .int a1), (2, .int a2), (3, .int x3), (4, .int x4)]) dX7_behind_97 (by decide) rfl ?_
      refine x_sub [1, 2, 3, 5, 0] rfl ?_
      exact s_X7_behind_l5 a1 a2 k85 hk85 xF x4 0 im
set_option maxRecDepth 20000 in
set_option maxHeartbeats 4000000 in
theorem s_X7_behind_l3 {g : GX} (a1 : Int32) (a2 : Int32)    (n : Nat) : ∀ (x3 : Int32) (x4 : Int32) (im : IM), X g md_X7_behind eI 85 [(0, .ref (g.1 82)), (1, .int a1), (2, .int a2), (3, .int x3), (4, .int x4)] [] im (f_X7_behind_l3 a1 a2 n x3 x4 im) := by
  induction n with
  | zero => intro x3 x4 im; exact x_none
  | succ n ih => intro x3 x4 im; exact s_X7_behind_l3b a1 a2 (f_X7_behind_l3 a1 a2 n) ih x3 x4 im
def f_X7_behind (a1 : Int32) (a2 : Int32) (im : IM) : Option (Int32 × IM) :=
  if (f_X7_isThing a1 im) = 0 then
    f_X7_behind_j1 a1 a2 im
  else
    if (f_X7_isThing a2 im) = 0 then
      f_X7_behind_j1 a1 a2 im
    else
      if a1 = a2 then
        f_X7_behind_j1 a1 a2 im
      else
        (f_X7_isReady a1 im).bind fun r2 =>
        if r2 = 0 then
          f_X7_behind_j2 a1 a2 im
        else
          (f_X7_isReady a2 im).bind fun r4 =>
          if r4 = 0 then
            f_X7_behind_j2 a1 a2 im
          else
            (f_X7_its a1 4 im).bind fun r5 =>
            (f_X7_its a2 4 im).bind fun r6 =>
            if r5 = r6 then
              if (f_X7_isTooLate 259 im) = 0 then
                (f_X7_puts im).bind fun r7 =>
                f_X7_behind_l3 a1 a2 xF ((-1)) 1 r7
              else
                f_X7_behind_j2 a1 a2 im
            else
              f_X7_behind_j2 a1 a2 im
set_option maxRecDepth 20000 in
set_option maxHeartbeats 4000000 in
theorem s_X7_behind {g : GX}   (a1 : Int32) (a2 : Int32) (im : IM) : X g md_X7_behind eI 0 [(0, .ref (g.1 82)), (1, .int a1), (2, .int a2)] [] im (f_X7_behind a1 a2 im) := by
  refine x_aload_n (q := 0) rfl rfl dX7_behind_0 ?_
  refine x_iload_n (q := 1) rfl rfl dX7_behind_1 ?_
  refine x_callVR (av := [.int a1]) (st := []) (m_X7_isThing  a1 im) sh_82 (by decide) rfl rfl (by decide) (by decide) lk_X7_92 cd_X7_isThing xd_X7_isThing rfl (Nat.le_of_ble_eq_true rfl) dX7_behind_2 ?_
  refine x_if_eq (tgt := 21) dX7_behind_5 (by decide) ?_ ?_
  · refine x_sub [0] rfl ?_
    exact s_X7_behind_j1 a1 a2 im
  · refine x_aload_n (q := 0) rfl rfl dX7_behind_8 ?_
    refine x_iload_n (q := 2) rfl rfl dX7_behind_9 ?_
    refine x_callVR (av := [.int a2]) (st := []) (m_X7_isThing  a2 im) sh_82 (by decide) rfl rfl (by decide) (by decide) lk_X7_92 cd_X7_isThing xd_X7_isThing rfl (Nat.le_of_ble_eq_true rfl) dX7_behind_10 ?_
    refine x_if_eq (tgt := 21) dX7_behind_13 (by decide) ?_ ?_
    · refine x_sub [0] rfl ?_
      exact s_X7_behind_j1 a1 a2 im
    · refine x_iload_n (q := 1) rfl rfl dX7_behind_16 ?_
      refine x_iload_n (q := 2) rfl rfl dX7_behind_17 ?_
      refine x_icmp_ne (tgt := 28) dX7_behind_18 (by decide) ?_ ?_
      · refine x_aload_n (q := 0) rfl rfl dX7_behind_28 ?_
        refine x_iload_n (q := 1) rfl rfl dX7_behind_29 ?_
        refine x_bind (fun r2 er2 => ?_)
        refine x_callVR (av := [.int a1]) (st := []) (m_X7_isReady  a1 im r2 er2) sh_82 (by decide) rfl rfl (by decide) (by decide) lk_X7_106 cd_X7_isReady xd_X7_isReady rfl (Nat.le_of_ble_eq_true rfl) dX7_behind_30 ?_
        refine x_if_eq (tgt := 69) dX7_behind_33 (by decide) ?_ ?_
        · refine x_sub [0] rfl ?_
          exact s_X7_behind_j2 a1 a2 im
        · refine x_aload_n (q := 0) rfl rfl dX7_behind_36 ?_
          refine x_iload_n (q := 2) rfl rfl dX7_behind_37 ?_
          refine x_bind (fun r4 er4 => ?_)
          refine x_callVR (av := [.int a2]) (st := []) (m_X7_isReady  a2 im r4 er4) sh_82 (by decide) rfl rfl (by decide) (by decide) lk_X7_106 cd_X7_isReady xd_X7_isReady rfl (Nat.le_of_ble_eq_true rfl) dX7_behind_38 ?_
          refine x_if_eq (tgt := 69) dX7_behind_41 (by decide) ?_ ?_
          · refine x_sub [0] rfl ?_
            exact s_X7_behind_j2 a1 a2 im
          · refine x_aload_n (q := 0) rfl rfl dX7_behind_44 ?_
            refine x_iload_n (q := 1) rfl rfl dX7_behind_45 ?_
            refine x_iconst (v := (4)) (by decide) dX7_behind_46 ?_
            refine x_bind (fun r5 er5 => ?_)
            refine x_callVR (av := [.int a1, .int 4]) (st := []) (m_X7_its  a1 4 im r5 er5) sh_82 (by decide) rfl rfl (by decide) (by decide) lk_X7_89 cd_X7_its xd_X7_its rfl (Nat.le_of_ble_eq_true rfl) dX7_behind_47 ?_
            refine x_aload_n (q := 0) rfl rfl dX7_behind_50 ?_
            refine x_iload_n (q := 2) rfl rfl dX7_behind_51 ?_
            refine x_iconst (v := (4)) (by decide) dX7_behind_52 ?_
            refine x_bind (fun r6 er6 => ?_)
            refine x_callVR (av := [.int a2, .int 4]) (st := [.int r5]) (m_X7_its  a2 4 im r6 er6) sh_82 (by decide) rfl rfl (by decide) (by decide) lk_X7_89 cd_X7_its xd_X7_its rfl (Nat.le_of_ble_eq_true rfl) dX7_behind_53 ?_
            refine x_icmp_ne (tgt := 69) dX7_behind_56 (by decide) ?_ ?_
            · refine x_sub [0] rfl ?_
              exact s_X7_behind_j2 a1 a2 im
            · refine x_aload_n (q := 0) rfl rfl dX7_behind_59 ?_
              refine x_sipush (v := (259)) (by decide) dX7_behind_60 ?_
              refine x_callVR (av := [.int 259]) (st := []) (m_X7_isTooLate  259 im) sh_82 (by decide) rfl rfl (by decide) (by decide) lk_X7_132 cd_X7_isTooLate xd_X7_isTooLate rfl (Nat.le_of_ble_eq_true rfl) dX7_behind_63 ?_
              refine x_if_eq (tgt := 76) dX7_behind_66 (by decide) ?_ ?_
              · refine x_aload_n (q := 0) rfl rfl dX7_behind_76 ?_
                refine x_bind (fun r7 er7 => ?_)
                refine x_callVV (av := []) (st := []) (m_X7_puts   im r7 er7) sh_82 (by decide) rfl rfl (by decide) (by decide) lk_X7_148 cd_X7_puts xd_X7_puts rfl (Nat.le_of_ble_eq_true rfl) dX7_behind_77 ?_
                refine x_iconst (v := (-1)) (by decide) dX7_behind_80 ?_
                refine x_istore_n (lv' := [(3, .int ((-1))), (0, .ref (g.1 82)), (1, .int a1), (2, .int a2)]) rfl dX7_behind_81 (by decide) rfl ?_
                refine x_iconst (v := (1)) (by decide) dX7_behind_82 ?_
                refine x_istore (lv' := [(4, .int 1), (3, .int ((-1))), (0, .ref (g.1 82)), (1, .int a1), (2, .int a2)]) dX7_behind_83 (by decide) rfl ?_
                refine x_sub [2, 3, 4, 1, 0] rfl ?_
                exact s_X7_behind_l3 a1 a2 xF ((-1)) 1 r7
              · refine x_sub [0] rfl ?_
                exact s_X7_behind_j2 a1 a2 im
      · refine x_sub [0] rfl ?_
        exact s_X7_behind_j1 a1 a2 im
theorem m_X7_behind {g : GX}   (a1 : Int32) (a2 : Int32) (im : IM) (r : Int32 × IM) (hr : f_X7_behind a1 a2 im = some r) : xMet g 6 yX7_behind cX7_behind 7 (some .int) [.ref (g.1 82), .int a1, .int a2] im (eI r) := x_met (by decide) (Nat.le_of_ble_eq_true rfl) rfl (s_X7_behind a1 a2 im) r hr
abbrev md_X7_come : xM := (5, 3, RX7, cX7_come, (some .int))
def f_X7_come_j2  (k21 : Int32 → Int32 → IM → Option (Int32 × IM)) (x1 : Int32) (x2 : Int32) (im : IM) : Option (Int32 × IM) :=
  bnd (x2 + 1) fun v2 =>
  k21 x1 v2 im
set_option maxRecDepth 20000 in
set_option maxHeartbeats 4000000 in
theorem s_X7_come_j2 {g : GX}  (k21 : Int32 → Int32 → IM → Option (Int32 × IM)) (hk21 : ∀ (x1 : Int32) (x2 : Int32) (im : IM), X g md_X7_come eI 21 [(0, .ref (g.1 82)), (1, .int x1), (2, .int x2)] [] im (k21 x1 x2 im)) (x1 : Int32) (x2 : Int32)  (im : IM) : X g md_X7_come eI 74 [(0, .ref (g.1 82)), (1, .int x1), (2, .int x2)] [] im (f_X7_come_j2 k21 x1 x2 im) := by
  refine x_iinc (q := 2) (a := 1) (lv' := fun v2 => [(2, .int v2), (0, .ref (g.1 82)), (1, .int x1)]) dX7_come_74 rfl (by decide) (by decide) (fun _ => rfl) (fun v2 => ?_)
  refine x_goto (tgt := 21) dX7_come_77 (by decide) ?_
  refine x_sub [1, 2, 0] rfl ?_
  exact hk21 x1 v2 im
def f_X7_come_j3  (k21 : Int32 → Int32 → IM → Option (Int32 × IM)) (x2 : Int32) (s0 : Int32) (s1 : Int32) (im : IM) : Option (Int32 × IM) :=
  bnd (s1 + s0) fun v5 =>
  f_X7_come_j2 k21 v5 x2 im
set_option maxRecDepth 20000 in
set_option maxHeartbeats 4000000 in
theorem s_X7_come_j3 {g : GX}  (k21 : Int32 → Int32 → IM → Option (Int32 × IM)) (hk21 : ∀ (x1 : Int32) (x2 : Int32) (im : IM), X g md_X7_come eI 21 [(0, .ref (g.1 82)), (1, .int x1), (2, .int x2)] [] im (k21 x1 x2 im)) (x2 : Int32) (s0 : Int32) (s1 : Int32)  (im : IM) : X g md_X7_come eI 72 [(0, .ref (g.1 82)), (2, .int x2)] [.int s0, .int s1] im (f_X7_come_j3 k21 x2 s0 s1 im) := by
  refine x_iadd dX7_come_72 ?_
  refine x_bi (fun v5 => ?_)
  refine x_istore_n (lv' := [(1, .int v5), (0, .ref (g.1 82)), (2, .int x2)]) rfl dX7_come_73 (by decide) rfl ?_
  refine x_sub [1, 0, 2] rfl ?_
  exact s_X7_come_j2 k21 hk21 v5 x2 im
def f_X7_come_l1b    (k21 : Int32 → Int32 → IM → Option (Int32 × IM)) (x1 : Int32) (x2 : Int32) (im : IM) : Option (Int32 × IM) :=
  if (im 83 1) ≤ x2 then
    some ((x1, im))
  else
    (f_X7_its x2 6 im).bind fun r1 =>
    if r1 = 0 then
      (f_X7_its x2 4 im).bind fun r3 =>
      if r3 = 0 then
        (f_X7_alone x2 10 im).bind fun r4 =>
        if (r4 82 7) = 30 then
          f_X7_come_j3 k21 x2 1 x1 r4
        else
          f_X7_come_j3 k21 x2 0 x1 r4
      else
        f_X7_come_j2 k21 x1 x2 im
    else
      f_X7_come_j2 k21 x1 x2 im
def f_X7_come_l1    : Nat → Int32 → Int32 → IM → Option (Int32 × IM)
  | 0, _, _, _ => none
  | n + 1, x1, x2, im => f_X7_come_l1b (f_X7_come_l1 n) x1 x2 im
set_option maxRecDepth 20000 in
set_option maxHeartbeats 4000000 in
theorem s_X7_come_l1b {g : GX}    (k21 : Int32 → Int32 → IM → Option (Int32 × IM)) (hk21 : ∀ (x1 : Int32) (x2 : Int32) (im : IM), X g md_X7_come eI 21 [(0, .ref (g.1 82)), (1, .int x1), (2, .int x2)] [] im (k21 x1 x2 im)) (x1 : Int32) (x2 : Int32)  (im : IM) : X g md_X7_come eI 21 [(0, .ref (g.1 82)), (1, .int x1), (2, .int x2)] [] im (f_X7_come_l1b k21 x1 x2 im) := by
  refine x_iload_n (q := 2) rfl rfl dX7_come_21 ?_
  refine x_aload_n (q := 0) rfl rfl dX7_come_22 ?_
  refine x_get (C := RX7) (T := TX7) sh_82 (by decide) rfl in_X7 0 (by decide) fl_X7_7 xf_7_0 dX7_come_23 ?_
  refine x_iconst (v := (1)) (by decide) dX7_come_26 ?_
  refine x_ialdc sh_83 (by decide) ix_1 dX7_come_27 ?_
  refine x_icmp_ge (tgt := 80) dX7_come_28 (by decide) ?_ ?_
  · refine x_iload_n (q := 1) rfl rfl dX7_come_80 ?_
    exact x_iret rfl rfl dX7_come_81
  · refine x_aload_n (q := 0) rfl rfl dX7_come_31 ?_
    refine x_iload_n (q := 2) rfl rfl dX7_come_32 ?_
    refine x_bipush (v := (6)) (by decide) dX7_come_33 ?_
    refine x_bind (fun r1 er1 => ?_)
    refine x_callVR (av := [.int x2, .int 6]) (st := []) (m_X7_its  x2 6 im r1 er1) sh_82 (by decide) rfl rfl (by decide) (by decide) lk_X7_89 cd_X7_its xd_X7_its rfl (Nat.le_of_ble_eq_true rfl) dX7_come_35 ?_
    refine x_if_ne (tgt := 74) dX7_come_38 (by decide) ?_ ?_
    · refine x_sub [0, 1, 2] rfl ?_
      exact s_X7_come_j2 k21 hk21 x1 x2 im
    · refine x_aload_n (q := 0) rfl rfl dX7_come_41 ?_
      refine x_iload_n (q := 2) rfl rfl dX7_come_42 ?_
      refine x_iconst (v := (4)) (by decide) dX7_come_43 ?_
      refine x_bind (fun r3 er3 => ?_)
      refine x_callVR (av := [.int x2, .int 4]) (st := []) (m_X7_its  x2 4 im r3 er3) sh_82 (by decide) rfl rfl (by decide) (by decide) lk_X7_89 cd_X7_its xd_X7_its rfl (Nat.le_of_ble_eq_true rfl) dX7_come_44 ?_
      refine x_if_ne (tgt := 74) dX7_come_47 (by decide) ?_ ?_
      · refine x_sub [0, 1, 2] rfl ?_
        exact s_X7_come_j2 k21 hk21 x1 x2 im
      · refine x_aload_n (q := 0) rfl rfl dX7_come_50 ?_
        refine x_iload_n (q := 2) rfl rfl dX7_come_51 ?_
        refine x_bipush (v := (10)) (by decide) dX7_come_52 ?_
        refine x_bind (fun r4 er4 => ?_)
        refine x_callVV (av := [.int x2, .int 10]) (st := []) (m_X7_alone  x2 10 im r4 er4) sh_82 (by decide) rfl rfl (by decide) (by decide) lk_X7_173 cd_X7_alone xd_X7_alone rfl (Nat.le_of_ble_eq_true rfl) dX7_come_54 ?_
        refine x_iload_n (q := 1) rfl rfl dX7_come_57 ?_
        refine x_aload_n (q := 0) rfl rfl dX7_come_58 ?_
        refine x_get (C := RX7) (T := TX7) sh_82 (by decide) rfl in_X7 7 (by decide) fl_X7_170 xf_7_7 dX7_come_59 ?_
        refine x_bipush (v := (30)) (by decide) dX7_come_62 ?_
        refine x_icmp_ne (tgt := 71) dX7_come_64 (by decide) ?_ ?_
        · refine x_iconst (v := (0)) (by decide) dX7_come_71 ?_
          refine x_sub [0, 2] rfl ?_
          exact s_X7_come_j3 k21 hk21 x2 0 x1 r4
        · refine x_iconst (v := (1)) (by decide) dX7_come_67 ?_
          refine x_goto (tgt := 72) dX7_come_68 (by decide) ?_
          refine x_sub [0, 2] rfl ?_
          exact s_X7_come_j3 k21 hk21 x2 1 x1 r4
set_option maxRecDepth 20000 in
set_option maxHeartbeats 4000000 in
theorem s_X7_come_l1 {g : GX}    (n : Nat) : ∀ (x1 : Int32) (x2 : Int32) (im : IM), X g md_X7_come eI 21 [(0, .ref (g.1 82)), (1, .int x1), (2, .int x2)] [] im (f_X7_come_l1 n x1 x2 im) := by
  induction n with
  | zero => intro x1 x2 im; exact x_none
  | succ n ih => intro x1 x2 im; exact s_X7_come_l1b (f_X7_come_l1 n) ih x1 x2 im
def f_X7_come  (im : IM) : Option (Int32 × IM) :=
  if (f_X7_isTooLate 200 im) = 0 then
    f_X7_come_l1 xF 0 0 im
  else
    (f_X7_finds ((-1000005)) im).bind fun r6 =>
    some ((r6.1, r6.2))
set_option maxRecDepth 20000 in
set_option maxHeartbeats 4000000 in
theorem s_X7_come {g : GX}   (im : IM) : X g md_X7_come eI 0 [(0, .ref (g.1 82))] [] im (f_X7_come im) := by
  refine x_aload_n (q := 0) rfl rfl dX7_come_0 ?_
  refine x_sipush (v := (200)) (by decide) dX7_come_1 ?_
  refine x_callVR (av := [.int 200]) (st := []) (m_X7_isTooLate  200 im) sh_82 (by decide) rfl rfl (by decide) (by decide) lk_X7_132 cd_X7_isTooLate xd_X7_isTooLate rfl (Nat.le_of_ble_eq_true rfl) dX7_come_4 ?_
  refine x_if_eq (tgt := 17) dX7_come_7 (by decide) ?_ ?_
  · refine x_iconst (v := (0)) (by decide) dX7_come_17 ?_
    refine x_istore_n (lv' := [(1, .int 0), (0, .ref (g.1 82))]) rfl dX7_come_18 (by decide) rfl ?_
    refine x_iconst (v := (0)) (by decide) dX7_come_19 ?_
    refine x_istore_n (lv' := [(2, .int 0), (1, .int 0), (0, .ref (g.1 82))]) rfl dX7_come_20 (by decide) rfl ?_
    refine x_sub [2, 1, 0] rfl ?_
    exact s_X7_come_l1 xF 0 0 im
  · refine x_aload_n (q := 0) rfl rfl dX7_come_10 ?_
    refine x_ldc co_X7_109 dX7_come_11 ?_
    refine x_bind (fun r6 er6 => ?_)
    refine x_callVI (av := [.int ((-1000005))]) (st := []) (m_X7_finds  (((-1000005))) im r6 er6) sh_82 (by decide) rfl rfl (by decide) (by decide) lk_X7_59 cd_X7_finds xd_X7_finds rfl (Nat.le_of_ble_eq_true rfl) dX7_come_13 ?_
    exact x_iret rfl rfl dX7_come_16
theorem m_X7_come {g : GX}   (im : IM) (r : Int32 × IM) (hr : f_X7_come im = some r) : xMet g 5 yX7_come cX7_come 3 (some .int) [.ref (g.1 82)] im (eI r) := x_met (by decide) (Nat.le_of_ble_eq_true rfl) rfl (s_X7_come im) r hr
abbrev md_X7_isSet : xM := (1, 2, RX7, cX7_isSet, (some .boolean))
def f_X7_isSet (a1 : Int32) (im : IM) : Int32 :=
  (zb (f_X7_in a1.toInt64 1 (((jshl 1 (im 83 1)) - 1).toInt64)))
set_option maxRecDepth 20000 in
set_option maxHeartbeats 4000000 in
theorem s_X7_isSet {g : GX}  (a1 : Int32) (im : IM) : X g md_X7_isSet (eR im) 0 [(0, .ref (g.1 82)), (1, .int a1)] [] im (some (f_X7_isSet a1 im)) := by
  refine x_iload_n (q := 1) rfl rfl dX7_isSet_0 ?_
  refine x_i2l dX7_isSet_1 ?_
  refine x_lconst (v := (1)) (by decide) dX7_isSet_2 ?_
  refine x_iconst (v := (1)) (by decide) dX7_isSet_3 ?_
  refine x_aload_n (q := 0) rfl rfl dX7_isSet_4 ?_
  refine x_get (C := RX7) (T := TX7) sh_82 (by decide) rfl in_X7 0 (by decide) fl_X7_7 xf_7_0 dX7_isSet_5 ?_
  refine x_iconst (v := (1)) (by decide) dX7_isSet_8 ?_
  refine x_ialdc sh_83 (by decide) ix_1 dX7_isSet_9 ?_
  refine x_ishl dX7_isSet_10 ?_
  refine x_iconst (v := (1)) (by decide) dX7_isSet_11 ?_
  refine x_isub dX7_isSet_12 ?_
  refine x_i2l dX7_isSet_13 ?_
  refine x_callSR (av := [.long a1.toInt64, .long 1, .long (((jshl 1 (im 83 1)) - 1).toInt64)]) (st := []) (m_X7_in  a1.toInt64 1 ((((jshl 1 (im 83 1)) - 1).toInt64)) im) rfl (by decide) (by decide) lk_X7_46 cd_X7_in xd_X7_in rfl (Nat.le_of_ble_eq_true rfl) dX7_isSet_14 ?_
  exact x_nret (y := zb (f_X7_in a1.toInt64 1 (((jshl 1 (im 83 1)) - 1).toInt64))) rfl rfl rfl dX7_isSet_17
theorem m_X7_isSet {g : GX}  (a1 : Int32) (im : IM) : xMet g 1 yX7_isSet cX7_isSet 2 (some .boolean) [.ref (g.1 82), .int a1] im ((eR im) (f_X7_isSet a1 im)) := x_met (by decide) (Nat.le_of_ble_eq_true rfl) rfl (s_X7_isSet a1 im) _ rfl
abbrev md_X7_weighs : xM := (2, 4, RX7, cX7_weighs, (some .int))
def f_X7_weighs_j2 (a1 : Int32) (k4 : Int32 → Int32 → Option (Int32)) (x3 : Int32) (s0 : Int32) (s1 : Int32) (im : IM) : Option (Int32) :=
  bnd (s1 + s0) fun v1 =>
  bnd (x3 + 1) fun v2 =>
  k4 v1 v2
set_option maxRecDepth 20000 in
set_option maxHeartbeats 4000000 in
theorem s_X7_weighs_j2 {g : GX} (a1 : Int32)  (k4 : Int32 → Int32 → Option (Int32)) (im : IM) (hk4 : ∀ (x2 : Int32) (x3 : Int32), X g md_X7_weighs (eR im) 4 [(0, .ref (g.1 82)), (1, .int a1), (2, .int x2), (3, .int x3)] [] im (k4 x2 x3)) (x3 : Int32) (s0 : Int32) (s1 : Int32)  : X g md_X7_weighs (eR im) 33 [(0, .ref (g.1 82)), (1, .int a1), (3, .int x3)] [.int s0, .int s1] im (f_X7_weighs_j2 a1 k4 x3 s0 s1 im) := by
  refine x_iadd dX7_weighs_33 ?_
  refine x_bi (fun v1 => ?_)
  refine x_istore_n (lv' := [(2, .int v1), (0, .ref (g.1 82)), (1, .int a1), (3, .int x3)]) rfl dX7_weighs_34 (by decide) rfl ?_
  refine x_iinc (q := 3) (a := 1) (lv' := fun v2 => [(3, .int v2), (2, .int v1), (0, .ref (g.1 82)), (1, .int a1)]) dX7_weighs_35 rfl (by decide) (by decide) (fun _ => rfl) (fun v2 => ?_)
  refine x_goto (tgt := 4) dX7_weighs_38 (by decide) ?_
  refine x_sub [2, 3, 1, 0] rfl ?_
  exact hk4 v1 v2
def f_X7_weighs_l1b (a1 : Int32)  (im : IM) (k4 : Int32 → Int32 → Option (Int32)) (x2 : Int32) (x3 : Int32)  : Option (Int32) :=
  if (im 83 1) ≤ x3 then
    some x2
  else
    if (f_X7_has a1 x3) = 0 then
      f_X7_weighs_j2 a1 k4 x3 0 x2 im
    else
      (f_X7_its x3 1 im).bind fun r3 =>
      f_X7_weighs_j2 a1 k4 x3 r3 x2 im
def f_X7_weighs_l1 (a1 : Int32)  (im : IM) : Nat → Int32 → Int32 → Option (Int32)
  | 0, _, _ => none
  | n + 1, x2, x3 => f_X7_weighs_l1b a1 im (f_X7_weighs_l1 a1 im n) x2 x3
set_option maxRecDepth 20000 in
set_option maxHeartbeats 4000000 in
theorem s_X7_weighs_l1b {g : GX} (a1 : Int32)   (im : IM)  (k4 : Int32 → Int32 → Option (Int32)) (hk4 : ∀ (x2 : Int32) (x3 : Int32), X g md_X7_weighs (eR im) 4 [(0, .ref (g.1 82)), (1, .int a1), (2, .int x2), (3, .int x3)] [] im (k4 x2 x3)) (x2 : Int32) (x3 : Int32)  : X g md_X7_weighs (eR im) 4 [(0, .ref (g.1 82)), (1, .int a1), (2, .int x2), (3, .int x3)] [] im (f_X7_weighs_l1b a1 im k4 x2 x3) := by
  refine x_iload_n (q := 3) rfl rfl dX7_weighs_4 ?_
  refine x_aload_n (q := 0) rfl rfl dX7_weighs_5 ?_
  refine x_get (C := RX7) (T := TX7) sh_82 (by decide) rfl in_X7 0 (by decide) fl_X7_7 xf_7_0 dX7_weighs_6 ?_
  refine x_iconst (v := (1)) (by decide) dX7_weighs_9 ?_
  refine x_ialdc sh_83 (by decide) ix_1 dX7_weighs_10 ?_
  refine x_icmp_ge (tgt := 41) dX7_weighs_11 (by decide) ?_ ?_
  · refine x_iload_n (q := 2) rfl rfl dX7_weighs_41 ?_
    exact x_iret rfl rfl dX7_weighs_42
  · refine x_iload_n (q := 2) rfl rfl dX7_weighs_14 ?_
    refine x_iload_n (q := 1) rfl rfl dX7_weighs_15 ?_
    refine x_iload_n (q := 3) rfl rfl dX7_weighs_16 ?_
    refine x_callSR (av := [.int a1, .int x3]) (st := [.int x2]) (m_X7_has  a1 x3 im) rfl (by decide) (by decide) lk_X7_186 cd_X7_has xd_X7_has rfl (Nat.le_of_ble_eq_true rfl) dX7_weighs_17 ?_
    refine x_if_eq (tgt := 32) dX7_weighs_20 (by decide) ?_ ?_
    · refine x_iconst (v := (0)) (by decide) dX7_weighs_32 ?_
      refine x_sub [0, 1, 3] rfl ?_
      exact s_X7_weighs_j2 a1 k4 im hk4 x3 0 x2
    · refine x_aload_n (q := 0) rfl rfl dX7_weighs_23 ?_
      refine x_iload_n (q := 3) rfl rfl dX7_weighs_24 ?_
      refine x_iconst (v := (1)) (by decide) dX7_weighs_25 ?_
      refine x_bind (fun r3 er3 => ?_)
      refine x_callVR (av := [.int x3, .int 1]) (st := [.int x2]) (m_X7_its  x3 1 im r3 er3) sh_82 (by decide) rfl rfl (by decide) (by decide) lk_X7_89 cd_X7_its xd_X7_its rfl (Nat.le_of_ble_eq_true rfl) dX7_weighs_26 ?_
      refine x_goto (tgt := 33) dX7_weighs_29 (by decide) ?_
      refine x_sub [0, 1, 3] rfl ?_
      exact s_X7_weighs_j2 a1 k4 im hk4 x3 r3 x2
set_option maxRecDepth 20000 in
set_option maxHeartbeats 4000000 in
theorem s_X7_weighs_l1 {g : GX} (a1 : Int32)   (im : IM)  (n : Nat) : ∀ (x2 : Int32) (x3 : Int32), X g md_X7_weighs (eR im) 4 [(0, .ref (g.1 82)), (1, .int a1), (2, .int x2), (3, .int x3)] [] im (f_X7_weighs_l1 a1 im n x2 x3) := by
  induction n with
  | zero => intro x2 x3; exact x_none
  | succ n ih => intro x2 x3; exact s_X7_weighs_l1b a1 im (f_X7_weighs_l1 a1 im n) ih x2 x3
def f_X7_weighs (a1 : Int32) (im : IM) : Option (Int32) :=
  f_X7_weighs_l1 a1 im xF 0 0
set_option maxRecDepth 20000 in
set_option maxHeartbeats 4000000 in
theorem s_X7_weighs {g : GX}  (a1 : Int32) (im : IM) : X g md_X7_weighs (eR im) 0 [(0, .ref (g.1 82)), (1, .int a1)] [] im (f_X7_weighs a1 im) := by
  refine x_iconst (v := (0)) (by decide) dX7_weighs_0 ?_
  refine x_istore_n (lv' := [(2, .int 0), (0, .ref (g.1 82)), (1, .int a1)]) rfl dX7_weighs_1 (by decide) rfl ?_
  refine x_iconst (v := (0)) (by decide) dX7_weighs_2 ?_
  refine x_istore_n (lv' := [(3, .int 0), (2, .int 0), (0, .ref (g.1 82)), (1, .int a1)]) rfl dX7_weighs_3 (by decide) rfl ?_
  refine x_sub [2, 3, 1, 0] rfl ?_
  exact s_X7_weighs_l1 a1 im xF 0 0
theorem m_X7_weighs {g : GX}  (a1 : Int32) (im : IM) (r : Int32) (hr : f_X7_weighs a1 im = some r) : xMet g 2 yX7_weighs cX7_weighs 4 (some .int) [.ref (g.1 82), .int a1] im ((eR im) r) := x_met (by decide) (Nat.le_of_ble_eq_true rfl) rfl (s_X7_weighs a1 im) r hr
abbrev md_X7_offBy : xM := (3, 4, RX7, cX7_offBy, (some .int))
def f_X7_offBy (a1 : Int32) (a2 : Int32) (im : IM) : Option (Int32) :=
  (f_X7_weighs a1 im).bind fun r1 =>
  (f_X7_weighs a2 im).bind fun r2 =>
  bnd ((2 * r1) - r2) fun v3 =>
  if 0 ≤ v3 then
    some v3
  else
    some (0 - v3)
set_option maxRecDepth 20000 in
set_option maxHeartbeats 4000000 in
theorem s_X7_offBy {g : GX}   (a1 : Int32) (a2 : Int32) (im : IM) : X g md_X7_offBy (eR im) 0 [(0, .ref (g.1 82)), (1, .int a1), (2, .int a2)] [] im (f_X7_offBy a1 a2 im) := by
  refine x_iconst (v := (2)) (by decide) dX7_offBy_0 ?_
  refine x_aload_n (q := 0) rfl rfl dX7_offBy_1 ?_
  refine x_iload_n (q := 1) rfl rfl dX7_offBy_2 ?_
  refine x_bind (fun r1 er1 => ?_)
  refine x_callVR (av := [.int a1]) (st := [.int 2]) (m_X7_weighs  a1 im r1 er1) sh_82 (by decide) rfl rfl (by decide) (by decide) lk_X7_189 cd_X7_weighs xd_X7_weighs rfl (Nat.le_of_ble_eq_true rfl) dX7_offBy_3 ?_
  refine x_imul dX7_offBy_6 ?_
  refine x_aload_n (q := 0) rfl rfl dX7_offBy_7 ?_
  refine x_iload_n (q := 2) rfl rfl dX7_offBy_8 ?_
  refine x_bind (fun r2 er2 => ?_)
  refine x_callVR (av := [.int a2]) (st := [.int (2 * r1)]) (m_X7_weighs  a2 im r2 er2) sh_82 (by decide) rfl rfl (by decide) (by decide) lk_X7_189 cd_X7_weighs xd_X7_weighs rfl (Nat.le_of_ble_eq_true rfl) dX7_offBy_9 ?_
  refine x_isub dX7_offBy_12 ?_
  refine x_bi (fun v3 => ?_)
  refine x_istore_n (lv' := [(3, .int v3), (0, .ref (g.1 82)), (1, .int a1), (2, .int a2)]) rfl dX7_offBy_13 (by decide) rfl ?_
  refine x_iload_n (q := 0) rfl rfl dX7_offBy_14 ?_
  refine x_if_ge (tgt := 24) dX7_offBy_15 (by decide) ?_ ?_
  · refine x_iload_n (q := 0) rfl rfl dX7_offBy_24 ?_
    exact x_iret rfl rfl dX7_offBy_25
  · refine x_iconst (v := (0)) (by decide) dX7_offBy_18 ?_
    refine x_iload_n (q := 0) rfl rfl dX7_offBy_19 ?_
    refine x_isub dX7_offBy_20 ?_
    refine x_goto (tgt := 25) dX7_offBy_21 (by decide) ?_
    exact x_iret rfl rfl dX7_offBy_25
theorem m_X7_offBy {g : GX}   (a1 : Int32) (a2 : Int32) (im : IM) (r : Int32) (hr : f_X7_offBy a1 a2 im = some r) : xMet g 3 yX7_offBy cX7_offBy 4 (some .int) [.ref (g.1 82), .int a1, .int a2] im ((eR im) r) := x_met (by decide) (Nat.le_of_ble_eq_true rfl) rfl (s_X7_offBy a1 a2 im) r hr
abbrev md_X7_packed : xM := (4, 7, RX7, cX7_packed, (some .int))
def f_X7_packed_j5 (a1 : Int32) (k11 : Int32 → Int32 → Int32 → Option (Int32)) (x2 : Int32) (x4 : Int32) (s0 : Int32) (im : IM) : Option (Int32) :=
  bnd (x4 + 1) fun v3 =>
  k11 x2 s0 v3
set_option maxRecDepth 20000 in
set_option maxHeartbeats 4000000 in
theorem s_X7_packed_j5 {g : GX} (a1 : Int32)  (k11 : Int32 → Int32 → Int32 → Option (Int32)) (im : IM) (hk11 : ∀ (x2 : Int32) (x3 : Int32) (x4 : Int32), X g md_X7_packed (eR im) 11 [(0, .ref (g.1 82)), (1, .int a1), (2, .int x2), (3, .int x3), (4, .int x4)] [] im (k11 x2 x3 x4)) (x2 : Int32) (x4 : Int32) (s0 : Int32)  : X g md_X7_packed (eR im) 89 [(0, .ref (g.1 82)), (1, .int a1), (2, .int x2), (4, .int x4)] [.int s0] im (f_X7_packed_j5 a1 k11 x2 x4 s0 im) := by
  refine x_istore_n (lv' := [(3, .int s0), (0, .ref (g.1 82)), (1, .int a1), (2, .int x2), (4, .int x4)]) rfl dX7_packed_89 (by decide) rfl ?_
  refine x_iinc (q := 4) (a := 1) (lv' := fun v3 => [(4, .int v3), (3, .int s0), (0, .ref (g.1 82)), (1, .int a1), (2, .int x2)]) dX7_packed_90 rfl (by decide) (by decide) (fun _ => rfl) (fun v3 => ?_)
  refine x_goto (tgt := 11) dX7_packed_93 (by decide) ?_
  refine x_sub [2, 3, 4, 1, 0] rfl ?_
  exact hk11 x2 s0 v3
def f_X7_packed_j4 (a1 : Int32) (k11 : Int32 → Int32 → Int32 → Option (Int32)) (x2 : Int32) (x3 : Int32) (x4 : Int32) (im : IM) : Option (Int32) :=
  f_X7_packed_j5 a1 k11 x2 x4 x3 im
set_option maxRecDepth 20000 in
set_option maxHeartbeats 4000000 in
theorem s_X7_packed_j4 {g : GX} (a1 : Int32)  (k11 : Int32 → Int32 → Int32 → Option (Int32)) (im : IM) (hk11 : ∀ (x2 : Int32) (x3 : Int32) (x4 : Int32), X g md_X7_packed (eR im) 11 [(0, .ref (g.1 82)), (1, .int a1), (2, .int x2), (3, .int x3), (4, .int x4)] [] im (k11 x2 x3 x4)) (x2 : Int32) (x3 : Int32) (x4 : Int32)  : X g md_X7_packed (eR im) 88 [(0, .ref (g.1 82)), (1, .int a1), (2, .int x2), (3, .int x3), (4, .int x4)] [] im (f_X7_packed_j4 a1 k11 x2 x3 x4 im) := by
  refine x_iload_n (q := 3) rfl rfl dX7_packed_88 ?_
  refine x_sub [0, 1, 2, 4] rfl ?_
  exact s_X7_packed_j5 a1 k11 im hk11 x2 x4 x3
def f_X7_packed_j6 (a1 : Int32) (k11 : Int32 → Int32 → Int32 → Option (Int32)) (x2 : Int32) (x4 : Int32) (im : IM) : Option (Int32) :=
  f_X7_packed_j5 a1 k11 x2 x4 x4 im
set_option maxRecDepth 20000 in
set_option maxHeartbeats 4000000 in
theorem s_X7_packed_j6 {g : GX} (a1 : Int32)  (k11 : Int32 → Int32 → Int32 → Option (Int32)) (im : IM) (hk11 : ∀ (x2 : Int32) (x3 : Int32) (x4 : Int32), X g md_X7_packed (eR im) 11 [(0, .ref (g.1 82)), (1, .int a1), (2, .int x2), (3, .int x3), (4, .int x4)] [] im (k11 x2 x3 x4)) (x2 : Int32) (x4 : Int32)  : X g md_X7_packed (eR im) 83 [(0, .ref (g.1 82)), (1, .int a1), (2, .int x2), (4, .int x4)] [] im (f_X7_packed_j6 a1 k11 x2 x4 im) := by
  refine x_iload (q := 3) rfl dX7_packed_83 ?_
  refine x_goto (tgt := 89) dX7_packed_85 (by decide) ?_
  refine x_sub [0, 1, 2, 3] rfl ?_
  exact s_X7_packed_j5 a1 k11 im hk11 x2 x4 x4
def f_X7_packed_j3 (a1 : Int32) (k11 : Int32 → Int32 → Int32 → Option (Int32)) (x2 : Int32) (x3 : Int32) (x4 : Int32) (s0 : Int32) (im : IM) : Option (Int32) :=
  (f_X7_offBy x3 a1 im).bind fun r2 =>
  if s0 = 0 then
    f_X7_packed_j4 a1 k11 x2 x3 x4 im
  else
    (f_X7_offBy x4 a1 im).bind fun r4 =>
    if r4 < r2 then
      f_X7_packed_j6 a1 k11 x2 x4 im
    else
      (f_X7_offBy x4 a1 im).bind fun r5 =>
      if r5 = r2 then
        if x3 ≤ x4 then
          f_X7_packed_j4 a1 k11 x2 x3 x4 im
        else
          f_X7_packed_j6 a1 k11 x2 x4 im
      else
        f_X7_packed_j4 a1 k11 x2 x3 x4 im
set_option maxRecDepth 20000 in
set_option maxHeartbeats 4000000 in
theorem s_X7_packed_j3 {g : GX} (a1 : Int32)  (k11 : Int32 → Int32 → Int32 → Option (Int32)) (im : IM) (hk11 : ∀ (x2 : Int32) (x3 : Int32) (x4 : Int32), X g md_X7_packed (eR im) 11 [(0, .ref (g.1 82)), (1, .int a1), (2, .int x2), (3, .int x3), (4, .int x4)] [] im (k11 x2 x3 x4)) (x2 : Int32) (x3 : Int32) (x4 : Int32) (s0 : Int32)  : X g md_X7_packed (eR im) 38 [(0, .ref (g.1 82)), (1, .int a1), (2, .int x2), (3, .int x3), (4, .int x4)] [.int s0] im (f_X7_packed_j3 a1 k11 x2 x3 x4 s0 im) := by
  refine x_istore (lv' := [(5, .int s0), (0, .ref (g.1 82)), (1, .int a1), (2, .int x2), (3, .int x3), (4, .int x4)]) dX7_packed_38 (by decide) rfl ?_
  refine x_aload_n (q := 1) rfl rfl dX7_packed_40 ?_
  refine x_iload_n (q := 4) rfl rfl dX7_packed_41 ?_
  refine x_iload_n (q := 2) rfl rfl dX7_packed_42 ?_
  refine x_bind (fun r2 er2 => ?_)
  refine x_callVR (av := [.int x3, .int a1]) (st := []) (m_X7_offBy  x3 a1 im r2 er2) sh_82 (by decide) rfl rfl (by decide) (by decide) lk_X7_192 cd_X7_offBy xd_X7_offBy rfl (Nat.le_of_ble_eq_true rfl) dX7_packed_43 ?_
  refine x_istore (lv' := [(6, .int r2), (5, .int s0), (0, .ref (g.1 82)), (1, .int a1), (2, .int x2), (3, .int x3), (4, .int x4)]) dX7_packed_46 (by decide) rfl ?_
  refine x_iload (q := 1) rfl dX7_packed_48 ?_
  refine x_if_eq (tgt := 88) dX7_packed_50 (by decide) ?_ ?_
  · refine x_sub [2, 3, 4, 5, 6] rfl ?_
    exact s_X7_packed_j4 a1 k11 im hk11 x2 x3 x4
  · refine x_aload_n (q := 2) rfl rfl dX7_packed_53 ?_
    refine x_iload (q := 6) rfl dX7_packed_54 ?_
    refine x_iload_n (q := 3) rfl rfl dX7_packed_56 ?_
    refine x_bind (fun r4 er4 => ?_)
    refine x_callVR (av := [.int x4, .int a1]) (st := []) (m_X7_offBy  x4 a1 im r4 er4) sh_82 (by decide) rfl rfl (by decide) (by decide) lk_X7_192 cd_X7_offBy xd_X7_offBy rfl (Nat.le_of_ble_eq_true rfl) dX7_packed_57 ?_
    refine x_iload (q := 0) rfl dX7_packed_60 ?_
    refine x_icmp_lt (tgt := 83) dX7_packed_62 (by decide) ?_ ?_
    · refine x_sub [2, 3, 4, 6] rfl ?_
      exact s_X7_packed_j6 a1 k11 im hk11 x2 x4
    · refine x_aload_n (q := 2) rfl rfl dX7_packed_65 ?_
      refine x_iload (q := 6) rfl dX7_packed_66 ?_
      refine x_iload_n (q := 3) rfl rfl dX7_packed_68 ?_
      refine x_bind (fun r5 er5 => ?_)
      refine x_callVR (av := [.int x4, .int a1]) (st := []) (m_X7_offBy  x4 a1 im r5 er5) sh_82 (by decide) rfl rfl (by decide) (by decide) lk_X7_192 cd_X7_offBy xd_X7_offBy rfl (Nat.le_of_ble_eq_true rfl) dX7_packed_69 ?_
      refine x_iload (q := 0) rfl dX7_packed_72 ?_
      refine x_icmp_ne (tgt := 88) dX7_packed_74 (by decide) ?_ ?_
      · refine x_sub [2, 3, 4, 5, 6] rfl ?_
        exact s_X7_packed_j4 a1 k11 im hk11 x2 x3 x4
      · refine x_iload (q := 6) rfl dX7_packed_77 ?_
        refine x_iload_n (q := 5) rfl rfl dX7_packed_79 ?_
        refine x_icmp_ge (tgt := 88) dX7_packed_80 (by decide) ?_ ?_
        · refine x_sub [2, 3, 4, 5, 6] rfl ?_
          exact s_X7_packed_j4 a1 k11 im hk11 x2 x3 x4
        · refine x_sub [2, 3, 4, 6] rfl ?_
          exact s_X7_packed_j6 a1 k11 im hk11 x2 x4
def f_X7_packed_j2 (a1 : Int32) (k11 : Int32 → Int32 → Int32 → Option (Int32)) (x2 : Int32) (x3 : Int32) (x4 : Int32) (im : IM) : Option (Int32) :=
  f_X7_packed_j3 a1 k11 x2 x3 x4 0 im
set_option maxRecDepth 20000 in
set_option maxHeartbeats 4000000 in
theorem s_X7_packed_j2 {g : GX} (a1 : Int32)  (k11 : Int32 → Int32 → Int32 → Option (Int32)) (im : IM) (hk11 : ∀ (x2 : Int32) (x3 : Int32) (x4 : Int32), X g md_X7_packed (eR im) 11 [(0, .ref (g.1 82)), (1, .int a1), (2, .int x2), (3, .int x3), (4, .int x4)] [] im (k11 x2 x3 x4)) (x2 : Int32) (x3 : Int32) (x4 : Int32)  : X g md_X7_packed (eR im) 37 [(0, .ref (g.1 82)), (1, .int a1), (2, .int x2), (3, .int x3), (4, .int x4)] [] im (f_X7_packed_j2 a1 k11 x2 x3 x4 im) := by
  refine x_iconst (v := (0)) (by decide) dX7_packed_37 ?_
  refine x_sub [0, 1, 2, 3, 4] rfl ?_
  exact s_X7_packed_j3 a1 k11 im hk11 x2 x3 x4 0
def f_X7_packed_l1b (a1 : Int32)  (im : IM) (k11 : Int32 → Int32 → Int32 → Option (Int32)) (x2 : Int32) (x3 : Int32) (x4 : Int32)  : Option (Int32) :=
  if a1 ≤ x4 then
    some x3
  else
    if (x4 &&& (a1 ^^^ ((-1)))) = 0 then
      if (x4 &&& x2) = 0 then
        f_X7_packed_j2 a1 k11 x2 x3 x4 im
      else
        f_X7_packed_j3 a1 k11 x2 x3 x4 1 im
    else
      f_X7_packed_j2 a1 k11 x2 x3 x4 im
def f_X7_packed_l1 (a1 : Int32)  (im : IM) : Nat → Int32 → Int32 → Int32 → Option (Int32)
  | 0, _, _, _ => none
  | n + 1, x2, x3, x4 => f_X7_packed_l1b a1 im (f_X7_packed_l1 a1 im n) x2 x3 x4
set_option maxRecDepth 20000 in
set_option maxHeartbeats 4000000 in
theorem s_X7_packed_l1b {g : GX} (a1 : Int32)   (im : IM)  (k11 : Int32 → Int32 → Int32 → Option (Int32)) (hk11 : ∀ (x2 : Int32) (x3 : Int32) (x4 : Int32), X g md_X7_packed (eR im) 11 [(0, .ref (g.1 82)), (1, .int a1), (2, .int x2), (3, .int x3), (4, .int x4)] [] im (k11 x2 x3 x4)) (x2 : Int32) (x3 : Int32) (x4 : Int32)  : X g md_X7_packed (eR im) 11 [(0, .ref (g.1 82)), (1, .int a1), (2, .int x2), (3, .int x3), (4, .int x4)] [] im (f_X7_packed_l1b a1 im k11 x2 x3 x4) := by
  refine x_iload (q := 4) rfl dX7_packed_11 ?_
  refine x_iload_n (q := 1) rfl rfl dX7_packed_13 ?_
  refine x_icmp_ge (tgt := 96) dX7_packed_14 (by decide) ?_ ?_
  · refine x_iload_n (q := 3) rfl rfl dX7_packed_96 ?_
    exact x_iret rfl rfl dX7_packed_97
  · refine x_iload (q := 4) rfl dX7_packed_17 ?_
    refine x_iload_n (q := 1) rfl rfl dX7_packed_19 ?_
    refine x_iconst (v := (-1)) (by decide) dX7_packed_20 ?_
    refine x_ixor dX7_packed_21 ?_
    refine x_iand dX7_packed_22 ?_
    refine x_if_ne (tgt := 37) dX7_packed_23 (by decide) ?_ ?_
    · refine x_sub [0, 1, 2, 3, 4] rfl ?_
      exact s_X7_packed_j2 a1 k11 im hk11 x2 x3 x4
    · refine x_iload (q := 4) rfl dX7_packed_26 ?_
      refine x_iload_n (q := 2) rfl rfl dX7_packed_28 ?_
      refine x_iand dX7_packed_29 ?_
      refine x_if_eq (tgt := 37) dX7_packed_30 (by decide) ?_ ?_
      · refine x_sub [0, 1, 2, 3, 4] rfl ?_
        exact s_X7_packed_j2 a1 k11 im hk11 x2 x3 x4
      · refine x_iconst (v := (1)) (by decide) dX7_packed_33 ?_
        refine x_goto (tgt := 38) dX7_packed_34 (by decide) ?_
        refine x_sub [0, 1, 2, 3, 4] rfl ?_
        exact s_X7_packed_j3 a1 k11 im hk11 x2 x3 x4 1
set_option maxRecDepth 20000 in
set_option maxHeartbeats 4000000 in
theorem s_X7_packed_l1 {g : GX} (a1 : Int32)   (im : IM)  (n : Nat) : ∀ (x2 : Int32) (x3 : Int32) (x4 : Int32), X g md_X7_packed (eR im) 11 [(0, .ref (g.1 82)), (1, .int a1), (2, .int x2), (3, .int x3), (4, .int x4)] [] im (f_X7_packed_l1 a1 im n x2 x3 x4) := by
  induction n with
  | zero => intro x2 x3 x4; exact x_none
  | succ n ih => intro x2 x3 x4; exact s_X7_packed_l1b a1 im (f_X7_packed_l1 a1 im n) ih x2 x3 x4
def f_X7_packed (a1 : Int32) (im : IM) : Option (Int32) :=
  bnd (a1 &&& (0 - a1)) fun v1 =>
  f_X7_packed_l1 a1 im xF v1 a1 1
set_option maxRecDepth 20000 in
set_option maxHeartbeats 4000000 in
theorem s_X7_packed {g : GX}  (a1 : Int32) (im : IM) : X g md_X7_packed (eR im) 0 [(0, .ref (g.1 82)), (1, .int a1)] [] im (f_X7_packed a1 im) := by
  refine x_iload_n (q := 1) rfl rfl dX7_packed_0 ?_
  refine x_iconst (v := (0)) (by decide) dX7_packed_1 ?_
  refine x_iload_n (q := 1) rfl rfl dX7_packed_2 ?_
  refine x_isub dX7_packed_3 ?_
  refine x_iand dX7_packed_4 ?_
  refine x_bi (fun v1 => ?_)
  refine x_istore_n (lv' := [(2, .int v1), (0, .ref (g.1 82)), (1, .int a1)]) rfl dX7_packed_5 (by decide) rfl ?_
  refine x_iload_n (q := 2) rfl rfl dX7_packed_6 ?_
  refine x_istore_n (lv' := [(3, .int a1), (2, .int v1), (0, .ref (g.1 82)), (1, .int a1)]) rfl dX7_packed_7 (by decide) rfl ?_
  refine x_iconst (v := (1)) (by decide) dX7_packed_8 ?_
  refine x_istore (lv' := [(4, .int 1), (3, .int a1), (2, .int v1), (0, .ref (g.1 82)), (1, .int a1)]) dX7_packed_9 (by decide) rfl ?_
  refine x_sub [3, 4, 2, 1, 0] rfl ?_
  exact s_X7_packed_l1 a1 im xF v1 a1 1
theorem m_X7_packed {g : GX}  (a1 : Int32) (im : IM) (r : Int32) (hr : f_X7_packed a1 im = some r) : xMet g 4 yX7_packed cX7_packed 7 (some .int) [.ref (g.1 82), .int a1] im ((eR im) r) := x_met (by decide) (Nat.le_of_ble_eq_true rfl) rfl (s_X7_packed a1 im) r hr
abbrev md_X7_pack : xM := (5, 2, RX7, cX7_pack, (some .int))
def f_X7_pack (a1 : Int32) (im : IM) : Option (Int32 × IM) :=
  if (f_X7_isSet a1 im) = 0 then
    (f_X7_finds ((-1000001)) im).bind fun r1 =>
    some ((r1.1, r1.2))
  else
    (f_X7_packed a1 im).bind fun r2 =>
    some ((r2, im))
set_option maxRecDepth 20000 in
set_option maxHeartbeats 4000000 in
theorem s_X7_pack {g : GX}  (a1 : Int32) (im : IM) : X g md_X7_pack eI 0 [(0, .ref (g.1 82)), (1, .int a1)] [] im (f_X7_pack a1 im) := by
  refine x_aload_n (q := 0) rfl rfl dX7_pack_0 ?_
  refine x_iload_n (q := 1) rfl rfl dX7_pack_1 ?_
  refine x_callVR (av := [.int a1]) (st := []) (m_X7_isSet  a1 im) sh_82 (by decide) rfl rfl (by decide) (by decide) lk_X7_195 cd_X7_isSet xd_X7_isSet rfl (Nat.le_of_ble_eq_true rfl) dX7_pack_2 ?_
  refine x_if_eq (tgt := 16) dX7_pack_5 (by decide) ?_ ?_
  · refine x_aload_n (q := 0) rfl rfl dX7_pack_16 ?_
    refine x_ldc co_X7_43 dX7_pack_17 ?_
    refine x_bind (fun r1 er1 => ?_)
    refine x_callVI (av := [.int ((-1000001))]) (st := []) (m_X7_finds  (((-1000001))) im r1 er1) sh_82 (by decide) rfl rfl (by decide) (by decide) lk_X7_59 cd_X7_finds xd_X7_finds rfl (Nat.le_of_ble_eq_true rfl) dX7_pack_19 ?_
    exact x_iret rfl rfl dX7_pack_22
  · refine x_aload_n (q := 0) rfl rfl dX7_pack_8 ?_
    refine x_iload_n (q := 1) rfl rfl dX7_pack_9 ?_
    refine x_bind (fun r2 er2 => ?_)
    refine x_callVR (av := [.int a1]) (st := []) (m_X7_packed  a1 im r2 er2) sh_82 (by decide) rfl rfl (by decide) (by decide) lk_X7_198 cd_X7_packed xd_X7_packed rfl (Nat.le_of_ble_eq_true rfl) dX7_pack_10 ?_
    refine x_goto (tgt := 22) dX7_pack_13 (by decide) ?_
    exact x_iret rfl rfl dX7_pack_22
theorem m_X7_pack {g : GX}  (a1 : Int32) (im : IM) (r : Int32 × IM) (hr : f_X7_pack a1 im = some r) : xMet g 5 yX7_pack cX7_pack 2 (some .int) [.ref (g.1 82), .int a1] im (eI r) := x_met (by decide) (Nat.le_of_ble_eq_true rfl) rfl (s_X7_pack a1 im) r hr
abbrev md_X7_lean : xM := (5, 2, RX7, cX7_lean, (some .int))
def f_X7_lean (a1 : Int32) (im : IM) : Option (Int32 × IM) :=
  if (f_X7_isSet a1 im) = 0 then
    (f_X7_finds ((-1000001)) im).bind fun r1 =>
    some ((r1.1, r1.2))
  else
    (f_X7_packed a1 im).bind fun r2 =>
    (f_X7_offBy r2 a1 im).bind fun r3 =>
    some ((r3, im))
set_option maxRecDepth 20000 in
set_option maxHeartbeats 4000000 in
theorem s_X7_lean {g : GX}  (a1 : Int32) (im : IM) : X g md_X7_lean eI 0 [(0, .ref (g.1 82)), (1, .int a1)] [] im (f_X7_lean a1 im) := by
  refine x_aload_n (q := 0) rfl rfl dX7_lean_0 ?_
  refine x_iload_n (q := 1) rfl rfl dX7_lean_1 ?_
  refine x_callVR (av := [.int a1]) (st := []) (m_X7_isSet  a1 im) sh_82 (by decide) rfl rfl (by decide) (by decide) lk_X7_195 cd_X7_isSet xd_X7_isSet rfl (Nat.le_of_ble_eq_true rfl) dX7_lean_2 ?_
  refine x_if_eq (tgt := 21) dX7_lean_5 (by decide) ?_ ?_
  · refine x_aload_n (q := 0) rfl rfl dX7_lean_21 ?_
    refine x_ldc co_X7_43 dX7_lean_22 ?_
    refine x_bind (fun r1 er1 => ?_)
    refine x_callVI (av := [.int ((-1000001))]) (st := []) (m_X7_finds  (((-1000001))) im r1 er1) sh_82 (by decide) rfl rfl (by decide) (by decide) lk_X7_59 cd_X7_finds xd_X7_finds rfl (Nat.le_of_ble_eq_true rfl) dX7_lean_24 ?_
    exact x_iret rfl rfl dX7_lean_27
  · refine x_aload_n (q := 0) rfl rfl dX7_lean_8 ?_
    refine x_aload_n (q := 0) rfl rfl dX7_lean_9 ?_
    refine x_iload_n (q := 1) rfl rfl dX7_lean_10 ?_
    refine x_bind (fun r2 er2 => ?_)
    refine x_callVR (av := [.int a1]) (st := [.ref (g.1 82)]) (m_X7_packed  a1 im r2 er2) sh_82 (by decide) rfl rfl (by decide) (by decide) lk_X7_198 cd_X7_packed xd_X7_packed rfl (Nat.le_of_ble_eq_true rfl) dX7_lean_11 ?_
    refine x_iload_n (q := 1) rfl rfl dX7_lean_14 ?_
    refine x_bind (fun r3 er3 => ?_)
    refine x_callVR (av := [.int r2, .int a1]) (st := []) (m_X7_offBy  r2 a1 im r3 er3) sh_82 (by decide) rfl rfl (by decide) (by decide) lk_X7_192 cd_X7_offBy xd_X7_offBy rfl (Nat.le_of_ble_eq_true rfl) dX7_lean_15 ?_
    refine x_goto (tgt := 27) dX7_lean_18 (by decide) ?_
    exact x_iret rfl rfl dX7_lean_27
theorem m_X7_lean {g : GX}  (a1 : Int32) (im : IM) (r : Int32 × IM) (hr : f_X7_lean a1 im = some r) : xMet g 5 yX7_lean cX7_lean 2 (some .int) [.ref (g.1 82), .int a1] im (eI r) := x_met (by decide) (Nat.le_of_ble_eq_true rfl) rfl (s_X7_lean a1 im) r hr
abbrev md_X7_drums : xM := (2, 10, RX7, cX7_drums, (some .int))
def f_X7_drums_j1 (a1 : Int32) (a2 : Int32)   (im : IM) : Option (Int32 × IM) :=
  (f_X7_finds ((-1000001)) im).bind fun r1 =>
  some ((r1.1, r1.2))
set_option maxRecDepth 20000 in
set_option maxHeartbeats 4000000 in
theorem s_X7_drums_j1 {g : GX} (a1 : Int32) (a2 : Int32)      (im : IM) : X g md_X7_drums eI 20 [(0, .ref (g.1 82))] [] im (f_X7_drums_j1 a1 a2 im) := by
  refine x_aload_n (q := 0) rfl rfl dX7_drums_20 ?_
  refine x_ldc co_X7_43 dX7_drums_21 ?_
  refine x_bind (fun r1 er1 => ?_)
  refine x_callVI (av := [.int ((-1000001))]) (st := []) (m_X7_finds  (((-1000001))) im r1 er1) sh_82 (by decide) rfl rfl (by decide) (by decide) lk_X7_59 cd_X7_finds xd_X7_finds rfl (Nat.le_of_ble_eq_true rfl) dX7_drums_23 ?_
  exact x_iret rfl rfl dX7_drums_26
def f_X7_drums_j5 (a1 : Int32) (a2 : Int32) (k100 : Int32 → IM → Option (Int32 × IM)) (x4 : Int32) (im : IM) : Option (Int32 × IM) :=
  bnd (x4 + 1) fun v4 =>
  k100 v4 im
set_option maxRecDepth 20000 in
set_option maxHeartbeats 4000000 in
theorem s_X7_drums_j5 {g : GX} (a1 : Int32) (a2 : Int32)  (k100 : Int32 → IM → Option (Int32 × IM)) (hk100 : ∀ (x4 : Int32) (im : IM), X g md_X7_drums eI 100 [(0, .ref (g.1 82)), (1, .int a1), (2, .int a2), (4, .int x4)] [] im (k100 x4 im)) (x4 : Int32)  (im : IM) : X g md_X7_drums eI 270 [(0, .ref (g.1 82)), (1, .int a1), (2, .int a2), (4, .int x4)] [] im (f_X7_drums_j5 a1 a2 k100 x4 im) := by
  refine x_iinc (q := 3) (a := 1) (lv' := fun v4 => [(4, .int v4), (0, .ref (g.1 82)), (1, .int a1), (2, .int a2)]) dX7_drums_270 rfl (by decide) (by decide) (fun _ => rfl) (fun v4 => ?_)
  refine x_goto (tgt := 100) dX7_drums_273 (by decide) ?_
  refine x_sub [1, 2, 3, 0] rfl ?_
  exact hk100 v4 im
def f_X7_drums_j6 (a1 : Int32) (a2 : Int32) (k100 : Int32 → IM → Option (Int32 × IM)) (k118 : Int32 → Int32 → IM → Option (Int32 × IM)) (x4 : Int32) (x5 : Int32) (im : IM) : Option (Int32 × IM) :=
  bnd (x5 + 1) fun v5 =>
  k118 x4 v5 im
set_option maxRecDepth 20000 in
set_option maxHeartbeats 4000000 in
theorem s_X7_drums_j6 {g : GX} (a1 : Int32) (a2 : Int32)  (k100 : Int32 → IM → Option (Int32 × IM)) (k118 : Int32 → Int32 → IM → Option (Int32 × IM)) (hk100 : ∀ (x4 : Int32) (im : IM), X g md_X7_drums eI 100 [(0, .ref (g.1 82)), (1, .int a1), (2, .int a2), (4, .int x4)] [] im (k100 x4 im)) (hk118 : ∀ (x4 : Int32) (x5 : Int32) (im : IM), X g md_X7_drums eI 118 [(0, .ref (g.1 82)), (1, .int a1), (2, .int a2), (4, .int x4), (5, .int x5)] [] im (k118 x4 x5 im)) (x4 : Int32) (x5 : Int32)  (im : IM) : X g md_X7_drums eI 264 [(0, .ref (g.1 82)), (1, .int a1), (2, .int a2), (4, .int x4), (5, .int x5)] [] im (f_X7_drums_j6 a1 a2 k100 k118 x4 x5 im) := by
  refine x_iinc (q := 4) (a := 1) (lv' := fun v5 => [(5, .int v5), (0, .ref (g.1 82)), (1, .int a1), (2, .int a2), (4, .int x4)]) dX7_drums_264 rfl (by decide) (by decide) (fun _ => rfl) (fun v5 => ?_)
  refine x_goto (tgt := 118) dX7_drums_267 (by decide) ?_
  refine x_sub [1, 2, 3, 4, 0] rfl ?_
  exact hk118 x4 v5 im
def f_X7_drums_j10 (a1 : Int32) (a2 : Int32) (k100 : Int32 → IM → Option (Int32 × IM)) (k118 : Int32 → Int32 → IM → Option (Int32 × IM)) (x4 : Int32) (x5 : Int32) (s0 : Int32) (s1 : Int32) (im : IM) : Option (Int32 × IM) :=
  if inb s1 1024 = true then
    bnd (up im 87 (ix s1) s0) fun m8 =>
    f_X7_drums_j6 a1 a2 k100 k118 x4 x5 m8
  else none
set_option maxRecDepth 20000 in
set_option maxHeartbeats 4000000 in
theorem s_X7_drums_j10 {g : GX} (a1 : Int32) (a2 : Int32)  (k100 : Int32 → IM → Option (Int32 × IM)) (k118 : Int32 → Int32 → IM → Option (Int32 × IM)) (hk100 : ∀ (x4 : Int32) (im : IM), X g md_X7_drums eI 100 [(0, .ref (g.1 82)), (1, .int a1), (2, .int a2), (4, .int x4)] [] im (k100 x4 im)) (hk118 : ∀ (x4 : Int32) (x5 : Int32) (im : IM), X g md_X7_drums eI 118 [(0, .ref (g.1 82)), (1, .int a1), (2, .int a2), (4, .int x4), (5, .int x5)] [] im (k118 x4 x5 im)) (x4 : Int32) (x5 : Int32) (s0 : Int32) (s1 : Int32)  (im : IM) : X g md_X7_drums eI 263 [(0, .ref (g.1 82)), (1, .int a1), (2, .int a2), (4, .int x4), (5, .int x5)] [.int s0, .int s1, .ref (g.1 87)] im (f_X7_drums_j10 a1 a2 k100 k118 x4 x5 s0 s1 im) := by
  refine x_iast sh_87 dX7_drums_263 ?_
  refine x_bm (fun m8 => ?_)
  refine x_sub [0, 1, 2, 3, 4] rfl ?_
  exact s_X7_drums_j6 a1 a2 k100 k118 hk100 hk118 x4 x5 m8
def f_X7_drums_j9 (a1 : Int32) (a2 : Int32) (k100 : Int32 → IM → Option (Int32 × IM)) (k118 : Int32 → Int32 → IM → Option (Int32 × IM)) (x4 : Int32) (x5 : Int32) (s0 : Int32) (im : IM) : Option (Int32 × IM) :=
  if inb x4 1024 = true then
    if (im 87 (ix x4)) ≤ s0 then
      if inb x4 1024 = true then
        f_X7_drums_j10 a1 a2 k100 k118 x4 x5 (im 87 (ix x4)) x4 im
      else none
    else
      f_X7_drums_j10 a1 a2 k100 k118 x4 x5 s0 x4 im
  else none
set_option maxRecDepth 20000 in
set_option maxHeartbeats 4000000 in
theorem s_X7_drums_j9 {g : GX} (a1 : Int32) (a2 : Int32)  (k100 : Int32 → IM → Option (Int32 × IM)) (k118 : Int32 → Int32 → IM → Option (Int32 × IM)) (hk100 : ∀ (x4 : Int32) (im : IM), X g md_X7_drums eI 100 [(0, .ref (g.1 82)), (1, .int a1), (2, .int a2), (4, .int x4)] [] im (k100 x4 im)) (hk118 : ∀ (x4 : Int32) (x5 : Int32) (im : IM), X g md_X7_drums eI 118 [(0, .ref (g.1 82)), (1, .int a1), (2, .int a2), (4, .int x4), (5, .int x5)] [] im (k118 x4 x5 im)) (x4 : Int32) (x5 : Int32) (s0 : Int32)  (im : IM) : X g md_X7_drums eI 231 [(0, .ref (g.1 82)), (1, .int a1), (2, .int a2), (4, .int x4), (5, .int x5)] [.int s0] im (f_X7_drums_j9 a1 a2 k100 k118 x4 x5 s0 im) := by
  refine x_istore (lv' := [(9, .int s0), (0, .ref (g.1 82)), (1, .int a1), (2, .int a2), (4, .int x4), (5, .int x5)]) dX7_drums_231 (by decide) rfl ?_
  refine x_aload_n (q := 1) rfl rfl dX7_drums_233 ?_
  refine x_get (C := RX7) (T := TX7) sh_82 (by decide) rfl in_X7 12 (by decide) fl_X7_22 xf_7_12 dX7_drums_234 ?_
  refine x_iload (q := 4) rfl dX7_drums_237 ?_
  refine x_iload (q := 0) rfl dX7_drums_239 ?_
  refine x_aload_n (q := 1) rfl rfl dX7_drums_241 ?_
  refine x_get (C := RX7) (T := TX7) sh_82 (by decide) rfl in_X7 12 (by decide) fl_X7_22 xf_7_12 dX7_drums_242 ?_
  refine x_iload (q := 4) rfl dX7_drums_245 ?_
  refine x_iald sh_87 dX7_drums_247 ?_
  refine x_icmp_ge (tgt := 256) dX7_drums_248 (by decide) ?_ ?_
  · refine x_aload_n (q := 1) rfl rfl dX7_drums_256 ?_
    refine x_get (C := RX7) (T := TX7) sh_82 (by decide) rfl in_X7 12 (by decide) fl_X7_22 xf_7_12 dX7_drums_257 ?_
    refine x_iload (q := 4) rfl dX7_drums_260 ?_
    refine x_iald sh_87 dX7_drums_262 ?_
    refine x_sub [1, 2, 3, 4, 5] rfl ?_
    exact s_X7_drums_j10 a1 a2 k100 k118 hk100 hk118 x4 x5 (im 87 (ix x4)) x4 im
  · refine x_iload (q := 0) rfl dX7_drums_251 ?_
    refine x_goto (tgt := 263) dX7_drums_253 (by decide) ?_
    refine x_sub [1, 2, 3, 4, 5] rfl ?_
    exact s_X7_drums_j10 a1 a2 k100 k118 hk100 hk118 x4 x5 s0 x4 im
def f_X7_drums_j8 (a1 : Int32) (a2 : Int32) (k100 : Int32 → IM → Option (Int32 × IM)) (k118 : Int32 → Int32 → IM → Option (Int32 × IM)) (x4 : Int32) (x5 : Int32) (x6 : Int32) (x7 : Int32) (s0 : Int32) (im : IM) : Option (Int32 × IM) :=
  if s0 = 0 then
    f_X7_drums_j9 a1 a2 k100 k118 x4 x5 ((((x6 / 1000) * 1000) + 1000) + x7) im
  else
    f_X7_drums_j9 a1 a2 k100 k118 x4 x5 (x6 + x7) im
set_option maxRecDepth 20000 in
set_option maxHeartbeats 4000000 in
theorem s_X7_drums_j8 {g : GX} (a1 : Int32) (a2 : Int32)  (k100 : Int32 → IM → Option (Int32 × IM)) (k118 : Int32 → Int32 → IM → Option (Int32 × IM)) (hk100 : ∀ (x4 : Int32) (im : IM), X g md_X7_drums eI 100 [(0, .ref (g.1 82)), (1, .int a1), (2, .int a2), (4, .int x4)] [] im (k100 x4 im)) (hk118 : ∀ (x4 : Int32) (x5 : Int32) (im : IM), X g md_X7_drums eI 118 [(0, .ref (g.1 82)), (1, .int a1), (2, .int a2), (4, .int x4), (5, .int x5)] [] im (k118 x4 x5 im)) (x4 : Int32) (x5 : Int32) (x6 : Int32) (x7 : Int32) (s0 : Int32)  (im : IM) : X g md_X7_drums eI 199 [(0, .ref (g.1 82)), (1, .int a1), (2, .int a2), (4, .int x4), (5, .int x5), (6, .int x6), (7, .int x7)] [.int s0] im (f_X7_drums_j8 a1 a2 k100 k118 x4 x5 x6 x7 s0 im) := by
  refine x_istore (lv' := [(8, .int s0), (0, .ref (g.1 82)), (1, .int a1), (2, .int a2), (4, .int x4), (5, .int x5), (6, .int x6), (7, .int x7)]) dX7_drums_199 (by decide) rfl ?_
  refine x_iload (q := 0) rfl dX7_drums_201 ?_
  refine x_if_eq (tgt := 214) dX7_drums_203 (by decide) ?_ ?_
  · refine x_iload (q := 6) rfl dX7_drums_214 ?_
    refine x_sipush (v := (1000)) (by decide) dX7_drums_216 ?_
    refine x_idiv (by decide) dX7_drums_219 ?_
    refine x_sipush (v := (1000)) (by decide) dX7_drums_220 ?_
    refine x_imul dX7_drums_223 ?_
    refine x_sipush (v := (1000)) (by decide) dX7_drums_224 ?_
    refine x_iadd dX7_drums_227 ?_
    refine x_iload (q := 7) rfl dX7_drums_228 ?_
    refine x_iadd dX7_drums_230 ?_
    refine x_sub [1, 2, 3, 4, 5] rfl ?_
    exact s_X7_drums_j9 a1 a2 k100 k118 hk100 hk118 x4 x5 ((((x6 / 1000) * 1000) + 1000) + x7) im
  · refine x_iload (q := 6) rfl dX7_drums_206 ?_
    refine x_iload (q := 7) rfl dX7_drums_208 ?_
    refine x_iadd dX7_drums_210 ?_
    refine x_goto (tgt := 231) dX7_drums_211 (by decide) ?_
    refine x_sub [1, 2, 3, 4, 5] rfl ?_
    exact s_X7_drums_j9 a1 a2 k100 k118 hk100 hk118 x4 x5 (x6 + x7) im
def f_X7_drums_j7 (a1 : Int32) (a2 : Int32) (k100 : Int32 → IM → Option (Int32 × IM)) (k118 : Int32 → Int32 → IM → Option (Int32 × IM)) (x4 : Int32) (x5 : Int32) (x6 : Int32) (x7 : Int32) (im : IM) : Option (Int32 × IM) :=
  f_X7_drums_j8 a1 a2 k100 k118 x4 x5 x6 x7 0 im
set_option maxRecDepth 20000 in
set_option maxHeartbeats 4000000 in
theorem s_X7_drums_j7 {g : GX} (a1 : Int32) (a2 : Int32)  (k100 : Int32 → IM → Option (Int32 × IM)) (k118 : Int32 → Int32 → IM → Option (Int32 × IM)) (hk100 : ∀ (x4 : Int32) (im : IM), X g md_X7_drums eI 100 [(0, .ref (g.1 82)), (1, .int a1), (2, .int a2), (4, .int x4)] [] im (k100 x4 im)) (hk118 : ∀ (x4 : Int32) (x5 : Int32) (im : IM), X g md_X7_drums eI 118 [(0, .ref (g.1 82)), (1, .int a1), (2, .int a2), (4, .int x4), (5, .int x5)] [] im (k118 x4 x5 im)) (x4 : Int32) (x5 : Int32) (x6 : Int32) (x7 : Int32)  (im : IM) : X g md_X7_drums eI 198 [(0, .ref (g.1 82)), (1, .int a1), (2, .int a2), (4, .int x4), (5, .int x5), (6, .int x6), (7, .int x7)] [] im (f_X7_drums_j7 a1 a2 k100 k118 x4 x5 x6 x7 im) := by
  refine x_iconst (v := (0)) (by decide) dX7_drums_198 ?_
  refine x_sub [0, 1, 2, 3, 4, 5, 6] rfl ?_
  exact s_X7_drums_j8 a1 a2 k100 k118 hk100 hk118 x4 x5 x6 x7 0 im
def f_X7_drums_l4b (a1 : Int32) (a2 : Int32) (k100 : Int32 → IM → Option (Int32 × IM))  (k118 : Int32 → Int32 → IM → Option (Int32 × IM)) (x4 : Int32) (x5 : Int32) (im : IM) : Option (Int32 × IM) :=
  if (im 83 1) ≤ x5 then
    f_X7_drums_j5 a1 a2 k100 x4 im
  else
    if (x4 &&& (a1 ^^^ ((-1)))) = 0 then
      if (f_X7_has x4 x5) = 0 then
        f_X7_drums_j6 a1 a2 k100 k118 x4 x5 im
      else
        if inb (x4 &&& ((jshl 1 x5) ^^^ ((-1)))) 1024 = true then
          bnd (im 87 (ix (x4 &&& ((jshl 1 x5) ^^^ ((-1)))))) fun v6 =>
          (f_X7_its x5 1 im).bind fun r7 =>
          if v6 < 1000 then
            f_X7_drums_j7 a1 a2 k100 k118 x4 x5 v6 r7 im
          else
            if a2 < ((jrem v6 1000) + r7) then
              f_X7_drums_j7 a1 a2 k100 k118 x4 x5 v6 r7 im
            else
              f_X7_drums_j8 a1 a2 k100 k118 x4 x5 v6 r7 1 im
        else none
    else
      f_X7_drums_j5 a1 a2 k100 x4 im
def f_X7_drums_l4 (a1 : Int32) (a2 : Int32) (k100 : Int32 → IM → Option (Int32 × IM))  : Nat → Int32 → Int32 → IM → Option (Int32 × IM)
  | 0, _, _, _ => none
  | n + 1, x4, x5, im => f_X7_drums_l4b a1 a2 k100 (f_X7_drums_l4 a1 a2 k100 n) x4 x5 im
set_option maxRecDepth 20000 in
set_option maxHeartbeats 4000000 in
theorem s_X7_drums_l4b {g : GX} (a1 : Int32) (a2 : Int32)  (k100 : Int32 → IM → Option (Int32 × IM)) (hk100 : ∀ (x4 : Int32) (im : IM), X g md_X7_drums eI 100 [(0, .ref (g.1 82)), (1, .int a1), (2, .int a2), (4, .int x4)] [] im (k100 x4 im)) (k118 : Int32 → Int32 → IM → Option (Int32 × IM)) (hk118 : ∀ (x4 : Int32) (x5 : Int32) (im : IM), X g md_X7_drums eI 118 [(0, .ref (g.1 82)), (1, .int a1), (2, .int a2), (4, .int x4), (5, .int x5)] [] im (k118 x4 x5 im)) (x4 : Int32) (x5 : Int32)  (im : IM) : X g md_X7_drums eI 118 [(0, .ref (g.1 82)), (1, .int a1), (2, .int a2), (4, .int x4), (5, .int x5)] [] im (f_X7_drums_l4b a1 a2 k100 k118 x4 x5 im) := by
  refine x_iload (q := 4) rfl dX7_drums_118 ?_
  refine x_aload_n (q := 0) rfl rfl dX7_drums_120 ?_
  refine x_get (C := RX7) (T := TX7) sh_82 (by decide) rfl in_X7 0 (by decide) fl_X7_7 xf_7_0 dX7_drums_121 ?_
  refine x_iconst (v := (1)) (by decide) dX7_drums_124 ?_
  refine x_ialdc sh_83 (by decide) ix_1 dX7_drums_125 ?_
  refine x_icmp_ge (tgt := 270) dX7_drums_126 (by decide) ?_ ?_
  · refine x_sub [0, 1, 2, 3] rfl ?_
    exact s_X7_drums_j5 a1 a2 k100 hk100 x4 im
  · refine x_iload (q := 3) rfl dX7_drums_129 ?_
    refine x_iload_n (q := 1) rfl rfl dX7_drums_131 ?_
    refine x_iconst (v := (-1)) (by decide) dX7_drums_132 ?_
    refine x_ixor dX7_drums_133 ?_
    refine x_iand dX7_drums_134 ?_
    refine x_if_ne (tgt := 270) dX7_drums_135 (by decide) ?_ ?_
    · refine x_sub [0, 1, 2, 3] rfl ?_
      exact s_X7_drums_j5 a1 a2 k100 hk100 x4 im
    · refine x_iload (q := 3) rfl dX7_drums_138 ?_
      refine x_iload (q := 4) rfl dX7_drums_140 ?_
      refine x_callSR (av := [.int x4, .int x5]) (st := []) (m_X7_has  x4 x5 im) rfl (by decide) (by decide) lk_X7_186 cd_X7_has xd_X7_has rfl (Nat.le_of_ble_eq_true rfl) dX7_drums_142 ?_
      refine x_if_eq (tgt := 264) dX7_drums_145 (by decide) ?_ ?_
      · refine x_sub [0, 1, 2, 3, 4] rfl ?_
        exact s_X7_drums_j6 a1 a2 k100 k118 hk100 hk118 x4 x5 im
      · refine x_aload_n (q := 0) rfl rfl dX7_drums_148 ?_
        refine x_get (C := RX7) (T := TX7) sh_82 (by decide) rfl in_X7 12 (by decide) fl_X7_22 xf_7_12 dX7_drums_149 ?_
        refine x_iload (q := 3) rfl dX7_drums_152 ?_
        refine x_iconst (v := (1)) (by decide) dX7_drums_154 ?_
        refine x_iload (q := 4) rfl dX7_drums_155 ?_
        refine x_ishl dX7_drums_157 ?_
        refine x_iconst (v := (-1)) (by decide) dX7_drums_158 ?_
        refine x_ixor dX7_drums_159 ?_
        refine x_iand dX7_drums_160 ?_
        refine x_iald sh_87 dX7_drums_161 ?_
        refine x_bi (fun v6 => ?_)
        refine x_istore (lv' := [(6, .int v6), (0, .ref (g.1 82)), (1, .int a1), (2, .int a2), (4, .int x4), (5, .int x5)]) dX7_drums_162 (by decide) rfl ?_
        refine x_aload_n (q := 1) rfl rfl dX7_drums_164 ?_
        refine x_iload (q := 5) rfl dX7_drums_165 ?_
        refine x_iconst (v := (1)) (by decide) dX7_drums_167 ?_
        refine x_bind (fun r7 er7 => ?_)
        refine x_callVR (av := [.int x5, .int 1]) (st := []) (m_X7_its  x5 1 im r7 er7) sh_82 (by decide) rfl rfl (by decide) (by decide) lk_X7_89 cd_X7_its xd_X7_its rfl (Nat.le_of_ble_eq_true rfl) dX7_drums_168 ?_
        refine x_istore (lv' := [(7, .int r7), (6, .int v6), (0, .ref (g.1 82)), (1, .int a1), (2, .int a2), (4, .int x4), (5, .int x5)]) dX7_drums_171 (by decide) rfl ?_
        refine x_iload (q := 1) rfl dX7_drums_173 ?_
        refine x_sipush (v := (1000)) (by decide) dX7_drums_175 ?_
        refine x_icmp_lt (tgt := 198) dX7_drums_178 (by decide) ?_ ?_
        · refine x_sub [2, 3, 4, 5, 6, 1, 0] rfl ?_
          exact s_X7_drums_j7 a1 a2 k100 k118 hk100 hk118 x4 x5 v6 r7 im
        · refine x_iload (q := 1) rfl dX7_drums_181 ?_
          refine x_sipush (v := (1000)) (by decide) dX7_drums_183 ?_
          refine x_irem (by decide) dX7_drums_186 ?_
          refine x_iload (q := 0) rfl dX7_drums_187 ?_
          refine x_iadd dX7_drums_189 ?_
          refine x_iload_n (q := 4) rfl rfl dX7_drums_190 ?_
          refine x_icmp_gt (tgt := 198) dX7_drums_191 (by decide) ?_ ?_
          · refine x_sub [2, 3, 4, 5, 6, 1, 0] rfl ?_
            exact s_X7_drums_j7 a1 a2 k100 k118 hk100 hk118 x4 x5 v6 r7 im
          · refine x_iconst (v := (1)) (by decide) dX7_drums_194 ?_
            refine x_goto (tgt := 199) dX7_drums_195 (by decide) ?_
            refine x_sub [2, 3, 4, 5, 6, 1, 0] rfl ?_
            exact s_X7_drums_j8 a1 a2 k100 k118 hk100 hk118 x4 x5 v6 r7 1 im
set_option maxRecDepth 20000 in
set_option maxHeartbeats 4000000 in
theorem s_X7_drums_l4 {g : GX} (a1 : Int32) (a2 : Int32)  (k100 : Int32 → IM → Option (Int32 × IM)) (hk100 : ∀ (x4 : Int32) (im : IM), X g md_X7_drums eI 100 [(0, .ref (g.1 82)), (1, .int a1), (2, .int a2), (4, .int x4)] [] im (k100 x4 im)) (n : Nat) : ∀ (x4 : Int32) (x5 : Int32) (im : IM), X g md_X7_drums eI 118 [(0, .ref (g.1 82)), (1, .int a1), (2, .int a2), (4, .int x4), (5, .int x5)] [] im (f_X7_drums_l4 a1 a2 k100 n x4 x5 im) := by
  induction n with
  | zero => intro x4 x5 im; exact x_none
  | succ n ih => intro x4 x5 im; exact s_X7_drums_l4b a1 a2 k100 hk100 (f_X7_drums_l4 a1 a2 k100 n) ih x4 x5 im
def f_X7_drums_l3b (a1 : Int32) (a2 : Int32)   (k100 : Int32 → IM → Option (Int32 × IM)) (x4 : Int32) (im : IM) : Option (Int32 × IM) :=
  if a1 < x4 then
    if inb a1 1024 = true then
      some (((im 87 (ix a1)) / 1000, im))
    else none
  else
    if inb x4 1024 = true then
      bnd (up im 87 (ix x4) 99999) fun m3 =>
      f_X7_drums_l4 a1 a2 k100 xF x4 0 m3
    else none
def f_X7_drums_l3 (a1 : Int32) (a2 : Int32)   : Nat → Int32 → IM → Option (Int32 × IM)
  | 0, _, _ => none
  | n + 1, x4, im => f_X7_drums_l3b a1 a2 (f_X7_drums_l3 a1 a2 n) x4 im
set_option maxRecDepth 20000 in
set_option maxHeartbeats 4000000 in
theorem s_X7_drums_l3b {g : GX} (a1 : Int32) (a2 : Int32)    (k100 : Int32 → IM → Option (Int32 × IM)) (hk100 : ∀ (x4 : Int32) (im : IM), X g md_X7_drums eI 100 [(0, .ref (g.1 82)), (1, .int a1), (2, .int a2), (4, .int x4)] [] im (k100 x4 im)) (x4 : Int32)  (im : IM) : X g md_X7_drums eI 100 [(0, .ref (g.1 82)), (1, .int a1), (2, .int a2), (4, .int x4)] [] im (f_X7_drums_l3b a1 a2 k100 x4 im) := by
  refine x_iload (q := 3) rfl dX7_drums_100 ?_
  refine x_iload_n (q := 1) rfl rfl dX7_drums_102 ?_
  refine x_icmp_gt (tgt := 276) dX7_drums_103 (by decide) ?_ ?_
  · refine x_aload_n (q := 0) rfl rfl dX7_drums_276 ?_
    refine x_get (C := RX7) (T := TX7) sh_82 (by decide) rfl in_X7 12 (by decide) fl_X7_22 xf_7_12 dX7_drums_277 ?_
    refine x_iload_n (q := 1) rfl rfl dX7_drums_280 ?_
    refine x_iald sh_87 dX7_drums_281 ?_
    refine x_sipush (v := (1000)) (by decide) dX7_drums_282 ?_
    refine x_idiv (by decide) dX7_drums_285 ?_
    exact x_iret rfl rfl dX7_drums_286
  · refine x_aload_n (q := 0) rfl rfl dX7_drums_106 ?_
    refine x_get (C := RX7) (T := TX7) sh_82 (by decide) rfl in_X7 12 (by decide) fl_X7_22 xf_7_12 dX7_drums_107 ?_
    refine x_iload (q := 3) rfl dX7_drums_110 ?_
    refine x_ldc co_X7_203 dX7_drums_112 ?_
    refine x_iast sh_87 dX7_drums_114 ?_
    refine x_bm (fun m3 => ?_)
    refine x_iconst (v := (0)) (by decide) dX7_drums_115 ?_
    refine x_istore (lv' := [(5, .int 0), (0, .ref (g.1 82)), (1, .int a1), (2, .int a2), (4, .int x4)]) dX7_drums_116 (by decide) rfl ?_
    refine x_sub [1, 2, 3, 4, 0] rfl ?_
    exact s_X7_drums_l4 a1 a2 k100 hk100 xF x4 0 m3
set_option maxRecDepth 20000 in
set_option maxHeartbeats 4000000 in
theorem s_X7_drums_l3 {g : GX} (a1 : Int32) (a2 : Int32)    (n : Nat) : ∀ (x4 : Int32) (im : IM), X g md_X7_drums eI 100 [(0, .ref (g.1 82)), (1, .int a1), (2, .int a2), (4, .int x4)] [] im (f_X7_drums_l3 a1 a2 n x4 im) := by
  induction n with
  | zero => intro x4 im; exact x_none
  | succ n ih => intro x4 im; exact s_X7_drums_l3b a1 a2 (f_X7_drums_l3 a1 a2 n) ih x4 im
def f_X7_drums_j12 (a1 : Int32) (a2 : Int32) (k32 : Int32 → Int32 → IM → Option (Int32 × IM)) (x4 : Int32) (s0 : Int32) (im : IM) : Option (Int32 × IM) :=
  bnd (x4 + 1) fun v10 =>
  k32 s0 v10 im
set_option maxRecDepth 20000 in
set_option maxHeartbeats 4000000 in
theorem s_X7_drums_j12 {g : GX} (a1 : Int32) (a2 : Int32)  (k32 : Int32 → Int32 → IM → Option (Int32 × IM)) (hk32 : ∀ (x3 : Int32) (x4 : Int32) (im : IM), X g md_X7_drums eI 32 [(0, .ref (g.1 82)), (1, .int a1), (2, .int a2), (3, .int x3), (4, .int x4)] [] im (k32 x3 x4 im)) (x4 : Int32) (s0 : Int32)  (im : IM) : X g md_X7_drums eI 72 [(0, .ref (g.1 82)), (1, .int a1), (2, .int a2), (4, .int x4)] [.int s0] im (f_X7_drums_j12 a1 a2 k32 x4 s0 im) := by
  refine x_istore_n (lv' := [(3, .int s0), (0, .ref (g.1 82)), (1, .int a1), (2, .int a2), (4, .int x4)]) rfl dX7_drums_72 (by decide) rfl ?_
  refine x_iinc (q := 4) (a := 1) (lv' := fun v10 => [(4, .int v10), (3, .int s0), (0, .ref (g.1 82)), (1, .int a1), (2, .int a2)]) dX7_drums_73 rfl (by decide) (by decide) (fun _ => rfl) (fun v10 => ?_)
  refine x_goto (tgt := 32) dX7_drums_76 (by decide) ?_
  refine x_sub [2, 3, 4, 1, 0] rfl ?_
  exact hk32 s0 v10 im
def f_X7_drums_j11 (a1 : Int32) (a2 : Int32) (k32 : Int32 → Int32 → IM → Option (Int32 × IM)) (x4 : Int32) (im : IM) : Option (Int32 × IM) :=
  f_X7_drums_j12 a1 a2 k32 x4 0 im
set_option maxRecDepth 20000 in
set_option maxHeartbeats 4000000 in
theorem s_X7_drums_j11 {g : GX} (a1 : Int32) (a2 : Int32)  (k32 : Int32 → Int32 → IM → Option (Int32 × IM)) (hk32 : ∀ (x3 : Int32) (x4 : Int32) (im : IM), X g md_X7_drums eI 32 [(0, .ref (g.1 82)), (1, .int a1), (2, .int a2), (3, .int x3), (4, .int x4)] [] im (k32 x3 x4 im)) (x4 : Int32)  (im : IM) : X g md_X7_drums eI 71 [(0, .ref (g.1 82)), (1, .int a1), (2, .int a2), (4, .int x4)] [] im (f_X7_drums_j11 a1 a2 k32 x4 im) := by
  refine x_iconst (v := (0)) (by decide) dX7_drums_71 ?_
  refine x_sub [0, 1, 2, 3] rfl ?_
  exact s_X7_drums_j12 a1 a2 k32 hk32 x4 0 im
def f_X7_drums_j13 (a1 : Int32) (a2 : Int32) (k32 : Int32 → Int32 → IM → Option (Int32 × IM)) (x4 : Int32) (im : IM) : Option (Int32 × IM) :=
  f_X7_drums_j12 a1 a2 k32 x4 1 im
set_option maxRecDepth 20000 in
set_option maxHeartbeats 4000000 in
theorem s_X7_drums_j13 {g : GX} (a1 : Int32) (a2 : Int32)  (k32 : Int32 → Int32 → IM → Option (Int32 × IM)) (hk32 : ∀ (x3 : Int32) (x4 : Int32) (im : IM), X g md_X7_drums eI 32 [(0, .ref (g.1 82)), (1, .int a1), (2, .int a2), (3, .int x3), (4, .int x4)] [] im (k32 x3 x4 im)) (x4 : Int32)  (im : IM) : X g md_X7_drums eI 67 [(0, .ref (g.1 82)), (1, .int a1), (2, .int a2), (4, .int x4)] [] im (f_X7_drums_j13 a1 a2 k32 x4 im) := by
  refine x_iconst (v := (1)) (by decide) dX7_drums_67 ?_
  refine x_goto (tgt := 72) dX7_drums_68 (by decide) ?_
  refine x_sub [0, 1, 2, 3] rfl ?_
  exact s_X7_drums_j12 a1 a2 k32 hk32 x4 1 im
def f_X7_drums_l2b (a1 : Int32) (a2 : Int32)   (k32 : Int32 → Int32 → IM → Option (Int32 × IM)) (x3 : Int32) (x4 : Int32) (im : IM) : Option (Int32 × IM) :=
  if (im 83 1) ≤ x4 then
    if x3 = 0 then
      (f_X7_finds ((-1000004)) im).bind fun r9 =>
      some ((r9.1, r9.2))
    else
      bnd (up im 87 0 0) fun m2 =>
      f_X7_drums_l3 a1 a2 xF 1 m2
  else
    if x3 = 0 then
      f_X7_drums_j11 a1 a2 k32 x4 im
    else
      if (f_X7_has a1 x4) = 0 then
        f_X7_drums_j13 a1 a2 k32 x4 im
      else
        (f_X7_its x4 1 im).bind fun r11 =>
        if a2 < r11 then
          f_X7_drums_j11 a1 a2 k32 x4 im
        else
          f_X7_drums_j13 a1 a2 k32 x4 im
def f_X7_drums_l2 (a1 : Int32) (a2 : Int32)   : Nat → Int32 → Int32 → IM → Option (Int32 × IM)
  | 0, _, _, _ => none
  | n + 1, x3, x4, im => f_X7_drums_l2b a1 a2 (f_X7_drums_l2 a1 a2 n) x3 x4 im
set_option maxRecDepth 20000 in
set_option maxHeartbeats 4000000 in
theorem s_X7_drums_l2b {g : GX} (a1 : Int32) (a2 : Int32)    (k32 : Int32 → Int32 → IM → Option (Int32 × IM)) (hk32 : ∀ (x3 : Int32) (x4 : Int32) (im : IM), X g md_X7_drums eI 32 [(0, .ref (g.1 82)), (1, .int a1), (2, .int a2), (3, .int x3), (4, .int x4)] [] im (k32 x3 x4 im)) (x3 : Int32) (x4 : Int32)  (im : IM) : X g md_X7_drums eI 32 [(0, .ref (g.1 82)), (1, .int a1), (2, .int a2), (3, .int x3), (4, .int x4)] [] im (f_X7_drums_l2b a1 a2 k32 x3 x4 im) := by
  refine x_iload (q := 4) rfl dX7_drums_32 ?_
  refine x_aload_n (q := 0) rfl rfl dX7_drums_34 ?_
  refine x_get (C := RX7) (T := TX7) sh_82 (by decide) rfl in_X7 0 (by decide) fl_X7_7 xf_7_0 dX7_drums_35 ?_
  refine x_iconst (v := (1)) (by decide) dX7_drums_38 ?_
  refine x_ialdc sh_83 (by decide) ix_1 dX7_drums_39 ?_
  refine x_icmp_ge (tgt := 79) dX7_drums_40 (by decide) ?_ ?_
  · refine x_iload_n (q := 3) rfl rfl dX7_drums_79 ?_
    refine x_if_ne (tgt := 90) dX7_drums_80 (by decide) ?_ ?_
    · refine x_aload_n (q := 0) rfl rfl dX7_drums_90 ?_
      refine x_get (C := RX7) (T := TX7) sh_82 (by decide) rfl in_X7 12 (by decide) fl_X7_22 xf_7_12 dX7_drums_91 ?_
      refine x_iconst (v := (0)) (by decide) dX7_drums_94 ?_
      refine x_iconst (v := (0)) (by decide) dX7_drums_95 ?_
      refine x_iastc sh_87 (by decide) ix_0 dX7_drums_96 ?_
      refine x_bm (fun m2 => ?_)
      refine x_iconst (v := (1)) (by decide) dX7_drums_97 ?_
      refine x_istore (lv' := [(4, .int 1), (0, .ref (g.1 82)), (1, .int a1), (2, .int a2), (3, .int x3)]) dX7_drums_98 (by decide) rfl ?_
      refine x_sub [1, 2, 3, 0] rfl ?_
      exact s_X7_drums_l3 a1 a2 xF 1 m2
    · refine x_aload_n (q := 0) rfl rfl dX7_drums_83 ?_
      refine x_ldc co_X7_157 dX7_drums_84 ?_
      refine x_bind (fun r9 er9 => ?_)
      refine x_callVI (av := [.int ((-1000004))]) (st := []) (m_X7_finds  (((-1000004))) im r9 er9) sh_82 (by decide) rfl rfl (by decide) (by decide) lk_X7_59 cd_X7_finds xd_X7_finds rfl (Nat.le_of_ble_eq_true rfl) dX7_drums_86 ?_
      exact x_iret rfl rfl dX7_drums_89
  · refine x_iload_n (q := 3) rfl rfl dX7_drums_43 ?_
    refine x_if_eq (tgt := 71) dX7_drums_44 (by decide) ?_ ?_
    · refine x_sub [0, 1, 2, 4] rfl ?_
      exact s_X7_drums_j11 a1 a2 k32 hk32 x4 im
    · refine x_iload_n (q := 1) rfl rfl dX7_drums_47 ?_
      refine x_iload (q := 4) rfl dX7_drums_48 ?_
      refine x_callSR (av := [.int a1, .int x4]) (st := []) (m_X7_has  a1 x4 im) rfl (by decide) (by decide) lk_X7_186 cd_X7_has xd_X7_has rfl (Nat.le_of_ble_eq_true rfl) dX7_drums_50 ?_
      refine x_if_eq (tgt := 67) dX7_drums_53 (by decide) ?_ ?_
      · refine x_sub [0, 1, 2, 4] rfl ?_
        exact s_X7_drums_j13 a1 a2 k32 hk32 x4 im
      · refine x_aload_n (q := 0) rfl rfl dX7_drums_56 ?_
        refine x_iload (q := 4) rfl dX7_drums_57 ?_
        refine x_iconst (v := (1)) (by decide) dX7_drums_59 ?_
        refine x_bind (fun r11 er11 => ?_)
        refine x_callVR (av := [.int x4, .int 1]) (st := []) (m_X7_its  x4 1 im r11 er11) sh_82 (by decide) rfl rfl (by decide) (by decide) lk_X7_89 cd_X7_its xd_X7_its rfl (Nat.le_of_ble_eq_true rfl) dX7_drums_60 ?_
        refine x_iload_n (q := 2) rfl rfl dX7_drums_63 ?_
        refine x_icmp_gt (tgt := 71) dX7_drums_64 (by decide) ?_ ?_
        · refine x_sub [0, 1, 2, 4] rfl ?_
          exact s_X7_drums_j11 a1 a2 k32 hk32 x4 im
        · refine x_sub [0, 1, 2, 4] rfl ?_
          exact s_X7_drums_j13 a1 a2 k32 hk32 x4 im
set_option maxRecDepth 20000 in
set_option maxHeartbeats 4000000 in
theorem s_X7_drums_l2 {g : GX} (a1 : Int32) (a2 : Int32)    (n : Nat) : ∀ (x3 : Int32) (x4 : Int32) (im : IM), X g md_X7_drums eI 32 [(0, .ref (g.1 82)), (1, .int a1), (2, .int a2), (3, .int x3), (4, .int x4)] [] im (f_X7_drums_l2 a1 a2 n x3 x4 im) := by
  induction n with
  | zero => intro x3 x4 im; exact x_none
  | succ n ih => intro x3 x4 im; exact s_X7_drums_l2b a1 a2 (f_X7_drums_l2 a1 a2 n) ih x3 x4 im
def f_X7_drums (a1 : Int32) (a2 : Int32) (im : IM) : Option (Int32 × IM) :=
  if (f_X7_isSet a1 im) = 0 then
    f_X7_drums_j1 a1 a2 im
  else
    if (f_X7_in a2.toInt64 1 999) = 0 then
      f_X7_drums_j1 a1 a2 im
    else
      f_X7_drums_l2 a1 a2 xF 1 0 im
set_option maxRecDepth 20000 in
set_option maxHeartbeats 4000000 in
theorem s_X7_drums {g : GX}   (a1 : Int32) (a2 : Int32) (im : IM) : X g md_X7_drums eI 0 [(0, .ref (g.1 82)), (1, .int a1), (2, .int a2)] [] im (f_X7_drums a1 a2 im) := by
  refine x_aload_n (q := 0) rfl rfl dX7_drums_0 ?_
  refine x_iload_n (q := 1) rfl rfl dX7_drums_1 ?_
  refine x_callVR (av := [.int a1]) (st := []) (m_X7_isSet  a1 im) sh_82 (by decide) rfl rfl (by decide) (by decide) lk_X7_195 cd_X7_isSet xd_X7_isSet rfl (Nat.le_of_ble_eq_true rfl) dX7_drums_2 ?_
  refine x_if_eq (tgt := 20) dX7_drums_5 (by decide) ?_ ?_
  · refine x_sub [0] rfl ?_
    exact s_X7_drums_j1 a1 a2 im
  · refine x_iload_n (q := 2) rfl rfl dX7_drums_8 ?_
    refine x_i2l dX7_drums_9 ?_
    refine x_lconst (v := (1)) (by decide) dX7_drums_10 ?_
    refine x_ldc2 cl_X7_201 dX7_drums_11 ?_
    refine x_callSR (av := [.long a2.toInt64, .long 1, .long 999]) (st := []) (m_X7_in  a2.toInt64 1 999 im) rfl (by decide) (by decide) lk_X7_46 cd_X7_in xd_X7_in rfl (Nat.le_of_ble_eq_true rfl) dX7_drums_14 ?_
    refine x_if_ne (tgt := 27) dX7_drums_17 (by decide) ?_ ?_
    · refine x_iconst (v := (1)) (by decide) dX7_drums_27 ?_
      refine x_istore_n (lv' := [(3, .int 1), (0, .ref (g.1 82)), (1, .int a1), (2, .int a2)]) rfl dX7_drums_28 (by decide) rfl ?_
      refine x_iconst (v := (0)) (by decide) dX7_drums_29 ?_
      refine x_istore (lv' := [(4, .int 0), (3, .int 1), (0, .ref (g.1 82)), (1, .int a1), (2, .int a2)]) dX7_drums_30 (by decide) rfl ?_
      refine x_sub [2, 3, 4, 1, 0] rfl ?_
      exact s_X7_drums_l2 a1 a2 xF 1 0 im
    · refine x_sub [0] rfl ?_
      exact s_X7_drums_j1 a1 a2 im
theorem m_X7_drums {g : GX}   (a1 : Int32) (a2 : Int32) (im : IM) (r : Int32 × IM) (hr : f_X7_drums a1 a2 im = some r) : xMet g 2 yX7_drums cX7_drums 10 (some .int) [.ref (g.1 82), .int a1, .int a2] im (eI r) := x_met (by decide) (Nat.le_of_ble_eq_true rfl) rfl (s_X7_drums a1 a2 im) r hr
abbrev md_X7_findLine : xM := (2, 3, RX7, cX7_findLine, none)
def f_X7_findLine_j3  (k7 : Int32 → IM → Option (IM)) (k15 : Int32 → Int32 → IM → Option (IM)) (x1 : Int32) (x2 : Int32) (im : IM) : Option (IM) :=
  bnd (x2 + 1) fun v4 =>
  k15 x1 v4 im
set_option maxRecDepth 20000 in
set_option maxHeartbeats 4000000 in
theorem s_X7_findLine_j3 {g : GX}  (k7 : Int32 → IM → Option (IM)) (k15 : Int32 → Int32 → IM → Option (IM)) (hk7 : ∀ (x1 : Int32) (im : IM), X g md_X7_findLine eV 7 [(0, .ref (g.1 82)), (1, .int x1)] [] im (k7 x1 im)) (hk15 : ∀ (x1 : Int32) (x2 : Int32) (im : IM), X g md_X7_findLine eV 15 [(0, .ref (g.1 82)), (1, .int x1), (2, .int x2)] [] im (k15 x1 x2 im)) (x1 : Int32) (x2 : Int32)  (im : IM) : X g md_X7_findLine eV 76 [(0, .ref (g.1 82)), (1, .int x1), (2, .int x2)] [] im (f_X7_findLine_j3 k7 k15 x1 x2 im) := by
  refine x_iinc (q := 2) (a := 1) (lv' := fun v4 => [(2, .int v4), (0, .ref (g.1 82)), (1, .int x1)]) dX7_findLine_76 rfl (by decide) (by decide) (fun _ => rfl) (fun v4 => ?_)
  refine x_goto (tgt := 15) dX7_findLine_79 (by decide) ?_
  refine x_sub [1, 2, 0] rfl ?_
  exact hk15 x1 v4 im
def f_X7_findLine_l2b  (k7 : Int32 → IM → Option (IM))  (k15 : Int32 → Int32 → IM → Option (IM)) (x1 : Int32) (x2 : Int32) (im : IM) : Option (IM) :=
  if (im 83 1) ≤ x2 then
    bnd (x1 + 1) fun v2 =>
    k7 v2 im
  else
    (f_X7_its x2 6 im).bind fun r3 =>
    if r3 = 0 then
      (f_X7_its x2 4 im).bind fun r5 =>
      if r5 = 30 then
        (f_X7_its x2 1 im).bind fun r6 =>
        if r6 = x1 then
          if inb (im 82 14) 10 = true then
            bnd (up im 88 (ix (im 82 14)) x2) fun m7 =>
            bnd (up m7 82 14 ((m7 82 14) + 1)) fun m8 =>
            f_X7_findLine_j3 k7 k15 x1 x2 m8
          else none
        else
          f_X7_findLine_j3 k7 k15 x1 x2 im
      else
        f_X7_findLine_j3 k7 k15 x1 x2 im
    else
      f_X7_findLine_j3 k7 k15 x1 x2 im
def f_X7_findLine_l2  (k7 : Int32 → IM → Option (IM))  : Nat → Int32 → Int32 → IM → Option (IM)
  | 0, _, _, _ => none
  | n + 1, x1, x2, im => f_X7_findLine_l2b k7 (f_X7_findLine_l2 k7 n) x1 x2 im
set_option maxRecDepth 20000 in
set_option maxHeartbeats 4000000 in
theorem s_X7_findLine_l2b {g : GX}  (k7 : Int32 → IM → Option (IM)) (hk7 : ∀ (x1 : Int32) (im : IM), X g md_X7_findLine eV 7 [(0, .ref (g.1 82)), (1, .int x1)] [] im (k7 x1 im)) (k15 : Int32 → Int32 → IM → Option (IM)) (hk15 : ∀ (x1 : Int32) (x2 : Int32) (im : IM), X g md_X7_findLine eV 15 [(0, .ref (g.1 82)), (1, .int x1), (2, .int x2)] [] im (k15 x1 x2 im)) (x1 : Int32) (x2 : Int32)  (im : IM) : X g md_X7_findLine eV 15 [(0, .ref (g.1 82)), (1, .int x1), (2, .int x2)] [] im (f_X7_findLine_l2b k7 k15 x1 x2 im) := by
  refine x_iload_n (q := 2) rfl rfl dX7_findLine_15 ?_
  refine x_aload_n (q := 0) rfl rfl dX7_findLine_16 ?_
  refine x_get (C := RX7) (T := TX7) sh_82 (by decide) rfl in_X7 0 (by decide) fl_X7_7 xf_7_0 dX7_findLine_17 ?_
  refine x_iconst (v := (1)) (by decide) dX7_findLine_20 ?_
  refine x_ialdc sh_83 (by decide) ix_1 dX7_findLine_21 ?_
  refine x_icmp_ge (tgt := 82) dX7_findLine_22 (by decide) ?_ ?_
  · refine x_iinc (q := 1) (a := 1) (lv' := fun v2 => [(1, .int v2), (0, .ref (g.1 82)), (2, .int x2)]) dX7_findLine_82 rfl (by decide) (by decide) (fun _ => rfl) (fun v2 => ?_)
    refine x_goto (tgt := 7) dX7_findLine_85 (by decide) ?_
    refine x_sub [1, 0] rfl ?_
    exact hk7 v2 im
  · refine x_aload_n (q := 0) rfl rfl dX7_findLine_25 ?_
    refine x_iload_n (q := 2) rfl rfl dX7_findLine_26 ?_
    refine x_bipush (v := (6)) (by decide) dX7_findLine_27 ?_
    refine x_bind (fun r3 er3 => ?_)
    refine x_callVR (av := [.int x2, .int 6]) (st := []) (m_X7_its  x2 6 im r3 er3) sh_82 (by decide) rfl rfl (by decide) (by decide) lk_X7_89 cd_X7_its xd_X7_its rfl (Nat.le_of_ble_eq_true rfl) dX7_findLine_29 ?_
    refine x_if_ne (tgt := 76) dX7_findLine_32 (by decide) ?_ ?_
    · refine x_sub [0, 1, 2] rfl ?_
      exact s_X7_findLine_j3 k7 k15 hk7 hk15 x1 x2 im
    · refine x_aload_n (q := 0) rfl rfl dX7_findLine_35 ?_
      refine x_iload_n (q := 2) rfl rfl dX7_findLine_36 ?_
      refine x_iconst (v := (4)) (by decide) dX7_findLine_37 ?_
      refine x_bind (fun r5 er5 => ?_)
      refine x_callVR (av := [.int x2, .int 4]) (st := []) (m_X7_its  x2 4 im r5 er5) sh_82 (by decide) rfl rfl (by decide) (by decide) lk_X7_89 cd_X7_its xd_X7_its rfl (Nat.le_of_ble_eq_true rfl) dX7_findLine_38 ?_
      refine x_bipush (v := (30)) (by decide) dX7_findLine_41 ?_
      refine x_icmp_ne (tgt := 76) dX7_findLine_43 (by decide) ?_ ?_
      · refine x_sub [0, 1, 2] rfl ?_
        exact s_X7_findLine_j3 k7 k15 hk7 hk15 x1 x2 im
      · refine x_aload_n (q := 0) rfl rfl dX7_findLine_46 ?_
        refine x_iload_n (q := 2) rfl rfl dX7_findLine_47 ?_
        refine x_iconst (v := (1)) (by decide) dX7_findLine_48 ?_
        refine x_bind (fun r6 er6 => ?_)
        refine x_callVR (av := [.int x2, .int 1]) (st := []) (m_X7_its  x2 1 im r6 er6) sh_82 (by decide) rfl rfl (by decide) (by decide) lk_X7_89 cd_X7_its xd_X7_its rfl (Nat.le_of_ble_eq_true rfl) dX7_findLine_49 ?_
        refine x_iload_n (q := 1) rfl rfl dX7_findLine_52 ?_
        refine x_icmp_ne (tgt := 76) dX7_findLine_53 (by decide) ?_ ?_
        · refine x_sub [0, 1, 2] rfl ?_
          exact s_X7_findLine_j3 k7 k15 hk7 hk15 x1 x2 im
        · refine x_aload_n (q := 0) rfl rfl dX7_findLine_56 ?_
          refine x_get (C := RX7) (T := TX7) sh_82 (by decide) rfl in_X7 13 (by decide) fl_X7_25 xf_7_13 dX7_findLine_57 ?_
          refine x_aload_n (q := 0) rfl rfl dX7_findLine_60 ?_
          refine x_get (C := RX7) (T := TX7) sh_82 (by decide) rfl in_X7 14 (by decide) fl_X7_204 xf_7_14 dX7_findLine_61 ?_
          refine x_iload_n (q := 2) rfl rfl dX7_findLine_64 ?_
          refine x_iast sh_88 dX7_findLine_65 ?_
          refine x_bm (fun m7 => ?_)
          refine x_aload_n (q := 0) rfl rfl dX7_findLine_66 ?_
          refine x_dup rfl dX7_findLine_67 ?_
          refine x_get (C := RX7) (T := TX7) sh_82 (by decide) rfl in_X7 14 (by decide) fl_X7_204 xf_7_14 dX7_findLine_68 ?_
          refine x_iconst (v := (1)) (by decide) dX7_findLine_71 ?_
          refine x_iadd dX7_findLine_72 ?_
          refine x_put (C := RX7) (T := TX7) (ty := .int) tyX7 tyX7_ok nmX7 sh_82 (by decide) rfl in_X7 14 (by decide) (by decide) fl_X7_204 rfl (by decide +kernel) rfl rfl dX7_findLine_73 ?_
          refine x_bm (fun m8 => ?_)
          refine x_sub [0, 1, 2] rfl ?_
          exact s_X7_findLine_j3 k7 k15 hk7 hk15 x1 x2 m8
set_option maxRecDepth 20000 in
set_option maxHeartbeats 4000000 in
theorem s_X7_findLine_l2 {g : GX}  (k7 : Int32 → IM → Option (IM)) (hk7 : ∀ (x1 : Int32) (im : IM), X g md_X7_findLine eV 7 [(0, .ref (g.1 82)), (1, .int x1)] [] im (k7 x1 im)) (n : Nat) : ∀ (x1 : Int32) (x2 : Int32) (im : IM), X g md_X7_findLine eV 15 [(0, .ref (g.1 82)), (1, .int x1), (2, .int x2)] [] im (f_X7_findLine_l2 k7 n x1 x2 im) := by
  induction n with
  | zero => intro x1 x2 im; exact x_none
  | succ n ih => intro x1 x2 im; exact s_X7_findLine_l2b k7 hk7 (f_X7_findLine_l2 k7 n) ih x1 x2 im
def f_X7_findLine_l1b    (k7 : Int32 → IM → Option (IM)) (x1 : Int32) (im : IM) : Option (IM) :=
  if 100 ≤ x1 then
    some im
  else
    f_X7_findLine_l2 k7 xF x1 0 im
def f_X7_findLine_l1    : Nat → Int32 → IM → Option (IM)
  | 0, _, _ => none
  | n + 1, x1, im => f_X7_findLine_l1b (f_X7_findLine_l1 n) x1 im
set_option maxRecDepth 20000 in
set_option maxHeartbeats 4000000 in
theorem s_X7_findLine_l1b {g : GX}    (k7 : Int32 → IM → Option (IM)) (hk7 : ∀ (x1 : Int32) (im : IM), X g md_X7_findLine eV 7 [(0, .ref (g.1 82)), (1, .int x1)] [] im (k7 x1 im)) (x1 : Int32)  (im : IM) : X g md_X7_findLine eV 7 [(0, .ref (g.1 82)), (1, .int x1)] [] im (f_X7_findLine_l1b k7 x1 im) := by
  refine x_iload_n (q := 1) rfl rfl dX7_findLine_7 ?_
  refine x_bipush (v := (100)) (by decide) dX7_findLine_8 ?_
  refine x_icmp_ge (tgt := 88) dX7_findLine_10 (by decide) ?_ ?_
  · exact x_vret rfl rfl dX7_findLine_88
  · refine x_iconst (v := (0)) (by decide) dX7_findLine_13 ?_
    refine x_istore_n (lv' := [(2, .int 0), (0, .ref (g.1 82)), (1, .int x1)]) rfl dX7_findLine_14 (by decide) rfl ?_
    refine x_sub [1, 2, 0] rfl ?_
    exact s_X7_findLine_l2 k7 hk7 xF x1 0 im
set_option maxRecDepth 20000 in
set_option maxHeartbeats 4000000 in
theorem s_X7_findLine_l1 {g : GX}    (n : Nat) : ∀ (x1 : Int32) (im : IM), X g md_X7_findLine eV 7 [(0, .ref (g.1 82)), (1, .int x1)] [] im (f_X7_findLine_l1 n x1 im) := by
  induction n with
  | zero => intro x1 im; exact x_none
  | succ n ih => intro x1 im; exact s_X7_findLine_l1b (f_X7_findLine_l1 n) ih x1 im
def f_X7_findLine  (im : IM) : Option (IM) :=
  bnd (up im 82 14 0) fun m1 =>
  f_X7_findLine_l1 xF 1 m1
set_option maxRecDepth 20000 in
set_option maxHeartbeats 4000000 in
theorem s_X7_findLine {g : GX}   (im : IM) : X g md_X7_findLine eV 0 [(0, .ref (g.1 82))] [] im (f_X7_findLine im) := by
  refine x_aload_n (q := 0) rfl rfl dX7_findLine_0 ?_
  refine x_iconst (v := (0)) (by decide) dX7_findLine_1 ?_
  refine x_put (C := RX7) (T := TX7) (ty := .int) tyX7 tyX7_ok nmX7 sh_82 (by decide) rfl in_X7 14 (by decide) (by decide) fl_X7_204 rfl (by decide +kernel) rfl rfl dX7_findLine_2 ?_
  refine x_bm (fun m1 => ?_)
  refine x_iconst (v := (1)) (by decide) dX7_findLine_5 ?_
  refine x_istore_n (lv' := [(1, .int 1), (0, .ref (g.1 82))]) rfl dX7_findLine_6 (by decide) rfl ?_
  refine x_sub [1, 0] rfl ?_
  exact s_X7_findLine_l1 xF 1 m1
theorem m_X7_findLine {g : GX}   (im : IM) (r : IM) (hr : f_X7_findLine im = some r) : xMet g 2 yX7_findLine cX7_findLine 3 none [.ref (g.1 82)] im (eV r) := x_met (by decide) (Nat.le_of_ble_eq_true rfl) rfl (s_X7_findLine im) r hr
abbrev md_X7_minutesUp : xM := (2, 2, RX7, cX7_minutesUp, (some .int))
def f_X7_minutesUp (a1 : Int32) (im : IM) : Option (Int32) :=
  (f_X7_its a1 1 im).bind fun r1 =>
  some ((r1 / 10) + 1)
set_option maxRecDepth 20000 in
set_option maxHeartbeats 4000000 in
theorem s_X7_minutesUp {g : GX}  (a1 : Int32) (im : IM) : X g md_X7_minutesUp (eR im) 0 [(0, .ref (g.1 82)), (1, .int a1)] [] im (f_X7_minutesUp a1 im) := by
  refine x_aload_n (q := 0) rfl rfl dX7_minutesUp_0 ?_
  refine x_iload_n (q := 1) rfl rfl dX7_minutesUp_1 ?_
  refine x_iconst (v := (1)) (by decide) dX7_minutesUp_2 ?_
  refine x_bind (fun r1 er1 => ?_)
  refine x_callVR (av := [.int a1, .int 1]) (st := []) (m_X7_its  a1 1 im r1 er1) sh_82 (by decide) rfl rfl (by decide) (by decide) lk_X7_89 cd_X7_its xd_X7_its rfl (Nat.le_of_ble_eq_true rfl) dX7_minutesUp_3 ?_
  refine x_bipush (v := (10)) (by decide) dX7_minutesUp_6 ?_
  refine x_idiv (by decide) dX7_minutesUp_8 ?_
  refine x_iconst (v := (1)) (by decide) dX7_minutesUp_9 ?_
  refine x_iadd dX7_minutesUp_10 ?_
  exact x_iret rfl rfl dX7_minutesUp_11
theorem m_X7_minutesUp {g : GX}  (a1 : Int32) (im : IM) (r : Int32) (hr : f_X7_minutesUp a1 im = some r) : xMet g 2 yX7_minutesUp cX7_minutesUp 2 (some .int) [.ref (g.1 82), .int a1] im ((eR im) r) := x_met (by decide) (Nat.le_of_ble_eq_true rfl) rfl (s_X7_minutesUp a1 im) r hr
abbrev md_X7_waits : xM := (3, 4, RX7, cX7_waits, (some .int))
def f_X7_waits_j2  (k6 : Int32 → Int32 → Int32 → Option (Int32)) (x1 : Int32) (x2 : Int32) (x3 : Int32) (im : IM) : Option (Int32) :=
  bnd (x3 + 1) fun v2 =>
  k6 x1 x2 v2
set_option maxRecDepth 20000 in
set_option maxHeartbeats 4000000 in
theorem s_X7_waits_j2 {g : GX}  (k6 : Int32 → Int32 → Int32 → Option (Int32)) (im : IM) (hk6 : ∀ (x1 : Int32) (x2 : Int32) (x3 : Int32), X g md_X7_waits (eR im) 6 [(0, .ref (g.1 82)), (1, .int x1), (2, .int x2), (3, .int x3)] [] im (k6 x1 x2 x3)) (x1 : Int32) (x2 : Int32) (x3 : Int32)  : X g md_X7_waits (eR im) 49 [(0, .ref (g.1 82)), (1, .int x1), (2, .int x2), (3, .int x3)] [] im (f_X7_waits_j2 k6 x1 x2 x3 im) := by
  refine x_iinc (q := 3) (a := 1) (lv' := fun v2 => [(3, .int v2), (0, .ref (g.1 82)), (1, .int x1), (2, .int x2)]) dX7_waits_49 rfl (by decide) (by decide) (fun _ => rfl) (fun v2 => ?_)
  refine x_goto (tgt := 6) dX7_waits_52 (by decide) ?_
  refine x_sub [1, 2, 3, 0] rfl ?_
  exact hk6 x1 x2 v2
def f_X7_waits_l1b   (im : IM) (k6 : Int32 → Int32 → Int32 → Option (Int32)) (x1 : Int32) (x2 : Int32) (x3 : Int32)  : Option (Int32) :=
  if (im 83 1) ≤ x3 then
    some x1
  else
    (f_X7_its x3 6 im).bind fun r1 =>
    if r1 = 0 then
      (f_X7_its x3 4 im).bind fun r3 =>
      if r3 = 30 then
        (f_X7_minutesUp x3 im).bind fun r4 =>
        bnd (x2 + r4) fun v5 =>
        bnd (x1 + v5) fun v6 =>
        f_X7_waits_j2 k6 v6 v5 x3 im
      else
        f_X7_waits_j2 k6 x1 x2 x3 im
    else
      f_X7_waits_j2 k6 x1 x2 x3 im
def f_X7_waits_l1   (im : IM) : Nat → Int32 → Int32 → Int32 → Option (Int32)
  | 0, _, _, _ => none
  | n + 1, x1, x2, x3 => f_X7_waits_l1b im (f_X7_waits_l1 im n) x1 x2 x3
set_option maxRecDepth 20000 in
set_option maxHeartbeats 4000000 in
theorem s_X7_waits_l1b {g : GX}   (im : IM)  (k6 : Int32 → Int32 → Int32 → Option (Int32)) (hk6 : ∀ (x1 : Int32) (x2 : Int32) (x3 : Int32), X g md_X7_waits (eR im) 6 [(0, .ref (g.1 82)), (1, .int x1), (2, .int x2), (3, .int x3)] [] im (k6 x1 x2 x3)) (x1 : Int32) (x2 : Int32) (x3 : Int32)  : X g md_X7_waits (eR im) 6 [(0, .ref (g.1 82)), (1, .int x1), (2, .int x2), (3, .int x3)] [] im (f_X7_waits_l1b im k6 x1 x2 x3) := by
  refine x_iload_n (q := 3) rfl rfl dX7_waits_6 ?_
  refine x_aload_n (q := 0) rfl rfl dX7_waits_7 ?_
  refine x_get (C := RX7) (T := TX7) sh_82 (by decide) rfl in_X7 0 (by decide) fl_X7_7 xf_7_0 dX7_waits_8 ?_
  refine x_iconst (v := (1)) (by decide) dX7_waits_11 ?_
  refine x_ialdc sh_83 (by decide) ix_1 dX7_waits_12 ?_
  refine x_icmp_ge (tgt := 55) dX7_waits_13 (by decide) ?_ ?_
  · refine x_iload_n (q := 1) rfl rfl dX7_waits_55 ?_
    exact x_iret rfl rfl dX7_waits_56
  · refine x_aload_n (q := 0) rfl rfl dX7_waits_16 ?_
    refine x_iload_n (q := 3) rfl rfl dX7_waits_17 ?_
    refine x_bipush (v := (6)) (by decide) dX7_waits_18 ?_
    refine x_bind (fun r1 er1 => ?_)
    refine x_callVR (av := [.int x3, .int 6]) (st := []) (m_X7_its  x3 6 im r1 er1) sh_82 (by decide) rfl rfl (by decide) (by decide) lk_X7_89 cd_X7_its xd_X7_its rfl (Nat.le_of_ble_eq_true rfl) dX7_waits_20 ?_
    refine x_if_ne (tgt := 49) dX7_waits_23 (by decide) ?_ ?_
    · refine x_sub [0, 1, 2, 3] rfl ?_
      exact s_X7_waits_j2 k6 im hk6 x1 x2 x3
    · refine x_aload_n (q := 0) rfl rfl dX7_waits_26 ?_
      refine x_iload_n (q := 3) rfl rfl dX7_waits_27 ?_
      refine x_iconst (v := (4)) (by decide) dX7_waits_28 ?_
      refine x_bind (fun r3 er3 => ?_)
      refine x_callVR (av := [.int x3, .int 4]) (st := []) (m_X7_its  x3 4 im r3 er3) sh_82 (by decide) rfl rfl (by decide) (by decide) lk_X7_89 cd_X7_its xd_X7_its rfl (Nat.le_of_ble_eq_true rfl) dX7_waits_29 ?_
      refine x_bipush (v := (30)) (by decide) dX7_waits_32 ?_
      refine x_icmp_ne (tgt := 49) dX7_waits_34 (by decide) ?_ ?_
      · refine x_sub [0, 1, 2, 3] rfl ?_
        exact s_X7_waits_j2 k6 im hk6 x1 x2 x3
      · refine x_iload_n (q := 2) rfl rfl dX7_waits_37 ?_
        refine x_aload_n (q := 0) rfl rfl dX7_waits_38 ?_
        refine x_iload_n (q := 3) rfl rfl dX7_waits_39 ?_
        refine x_bind (fun r4 er4 => ?_)
        refine x_callVR (av := [.int x3]) (st := [.int x2]) (m_X7_minutesUp  x3 im r4 er4) sh_82 (by decide) rfl rfl (by decide) (by decide) lk_X7_207 cd_X7_minutesUp xd_X7_minutesUp rfl (Nat.le_of_ble_eq_true rfl) dX7_waits_40 ?_
        refine x_iadd dX7_waits_43 ?_
        refine x_bi (fun v5 => ?_)
        refine x_istore_n (lv' := [(2, .int v5), (0, .ref (g.1 82)), (1, .int x1), (3, .int x3)]) rfl dX7_waits_44 (by decide) rfl ?_
        refine x_iload_n (q := 2) rfl rfl dX7_waits_45 ?_
        refine x_iload_n (q := 0) rfl rfl dX7_waits_46 ?_
        refine x_iadd dX7_waits_47 ?_
        refine x_bi (fun v6 => ?_)
        refine x_istore_n (lv' := [(1, .int v6), (2, .int v5), (0, .ref (g.1 82)), (3, .int x3)]) rfl dX7_waits_48 (by decide) rfl ?_
        refine x_sub [2, 0, 1, 3] rfl ?_
        exact s_X7_waits_j2 k6 im hk6 v6 v5 x3
set_option maxRecDepth 20000 in
set_option maxHeartbeats 4000000 in
theorem s_X7_waits_l1 {g : GX}   (im : IM)  (n : Nat) : ∀ (x1 : Int32) (x2 : Int32) (x3 : Int32), X g md_X7_waits (eR im) 6 [(0, .ref (g.1 82)), (1, .int x1), (2, .int x2), (3, .int x3)] [] im (f_X7_waits_l1 im n x1 x2 x3) := by
  induction n with
  | zero => intro x1 x2 x3; exact x_none
  | succ n ih => intro x1 x2 x3; exact s_X7_waits_l1b im (f_X7_waits_l1 im n) ih x1 x2 x3
def f_X7_waits  (im : IM) : Option (Int32) :=
  f_X7_waits_l1 im xF 0 0 0
set_option maxRecDepth 20000 in
set_option maxHeartbeats 4000000 in
theorem s_X7_waits {g : GX}   (im : IM) : X g md_X7_waits (eR im) 0 [(0, .ref (g.1 82))] [] im (f_X7_waits im) := by
  refine x_iconst (v := (0)) (by decide) dX7_waits_0 ?_
  refine x_istore_n (lv' := [(1, .int 0), (0, .ref (g.1 82))]) rfl dX7_waits_1 (by decide) rfl ?_
  refine x_iconst (v := (0)) (by decide) dX7_waits_2 ?_
  refine x_istore_n (lv' := [(2, .int 0), (1, .int 0), (0, .ref (g.1 82))]) rfl dX7_waits_3 (by decide) rfl ?_
  refine x_iconst (v := (0)) (by decide) dX7_waits_4 ?_
  refine x_istore_n (lv' := [(3, .int 0), (2, .int 0), (1, .int 0), (0, .ref (g.1 82))]) rfl dX7_waits_5 (by decide) rfl ?_
  refine x_sub [3, 2, 1, 0] rfl ?_
  exact s_X7_waits_l1 im xF 0 0 0
theorem m_X7_waits {g : GX}   (im : IM) (r : Int32) (hr : f_X7_waits im = some r) : xMet g 3 yX7_waits cX7_waits 4 (some .int) [.ref (g.1 82)] im ((eR im) r) := x_met (by decide) (Nat.le_of_ble_eq_true rfl) rfl (s_X7_waits im) r hr
abbrev md_X7_least : xM := (3, 4, RX7, cX7_least, (some .int))
def f_X7_least_l1b    (k10 : Int32 → Int32 → Int32 → IM → Option (Int32 × IM)) (x1 : Int32) (x2 : Int32) (x3 : Int32) (im : IM) : Option (Int32 × IM) :=
  if (im 82 14) ≤ x3 then
    some ((x1, im))
  else
    if inb x3 10 = true then
      (f_X7_minutesUp (im 88 (ix x3)) im).bind fun r2 =>
      bnd (x2 + r2) fun v3 =>
      bnd (x1 + v3) fun v4 =>
      bnd (x3 + 1) fun v5 =>
      k10 v4 v3 v5 im
    else none
def f_X7_least_l1    : Nat → Int32 → Int32 → Int32 → IM → Option (Int32 × IM)
  | 0, _, _, _, _ => none
  | n + 1, x1, x2, x3, im => f_X7_least_l1b (f_X7_least_l1 n) x1 x2 x3 im
set_option maxRecDepth 20000 in
set_option maxHeartbeats 4000000 in
theorem s_X7_least_l1b {g : GX}    (k10 : Int32 → Int32 → Int32 → IM → Option (Int32 × IM)) (hk10 : ∀ (x1 : Int32) (x2 : Int32) (x3 : Int32) (im : IM), X g md_X7_least eI 10 [(0, .ref (g.1 82)), (1, .int x1), (2, .int x2), (3, .int x3)] [] im (k10 x1 x2 x3 im)) (x1 : Int32) (x2 : Int32) (x3 : Int32)  (im : IM) : X g md_X7_least eI 10 [(0, .ref (g.1 82)), (1, .int x1), (2, .int x2), (3, .int x3)] [] im (f_X7_least_l1b k10 x1 x2 x3 im) := by
  refine x_iload_n (q := 3) rfl rfl dX7_least_10 ?_
  refine x_aload_n (q := 0) rfl rfl dX7_least_11 ?_
  refine x_get (C := RX7) (T := TX7) sh_82 (by decide) rfl in_X7 14 (by decide) fl_X7_204 xf_7_14 dX7_least_12 ?_
  refine x_icmp_ge (tgt := 41) dX7_least_15 (by decide) ?_ ?_
  · refine x_iload_n (q := 1) rfl rfl dX7_least_41 ?_
    exact x_iret rfl rfl dX7_least_42
  · refine x_iload_n (q := 2) rfl rfl dX7_least_18 ?_
    refine x_aload_n (q := 0) rfl rfl dX7_least_19 ?_
    refine x_aload_n (q := 0) rfl rfl dX7_least_20 ?_
    refine x_get (C := RX7) (T := TX7) sh_82 (by decide) rfl in_X7 13 (by decide) fl_X7_25 xf_7_13 dX7_least_21 ?_
    refine x_iload_n (q := 3) rfl rfl dX7_least_24 ?_
    refine x_iald sh_88 dX7_least_25 ?_
    refine x_bind (fun r2 er2 => ?_)
    refine x_callVR (av := [.int (im 88 (ix x3))]) (st := [.int x2]) (m_X7_minutesUp  ((im 88 (ix x3))) im r2 er2) sh_82 (by decide) rfl rfl (by decide) (by decide) lk_X7_207 cd_X7_minutesUp xd_X7_minutesUp rfl (Nat.le_of_ble_eq_true rfl) dX7_least_26 ?_
    refine x_iadd dX7_least_29 ?_
    refine x_bi (fun v3 => ?_)
    refine x_istore_n (lv' := [(2, .int v3), (0, .ref (g.1 82)), (1, .int x1), (3, .int x3)]) rfl dX7_least_30 (by decide) rfl ?_
    refine x_iload_n (q := 2) rfl rfl dX7_least_31 ?_
    refine x_iload_n (q := 0) rfl rfl dX7_least_32 ?_
    refine x_iadd dX7_least_33 ?_
    refine x_bi (fun v4 => ?_)
    refine x_istore_n (lv' := [(1, .int v4), (2, .int v3), (0, .ref (g.1 82)), (3, .int x3)]) rfl dX7_least_34 (by decide) rfl ?_
    refine x_iinc (q := 3) (a := 1) (lv' := fun v5 => [(3, .int v5), (1, .int v4), (2, .int v3), (0, .ref (g.1 82))]) dX7_least_35 rfl (by decide) (by decide) (fun _ => rfl) (fun v5 => ?_)
    refine x_goto (tgt := 10) dX7_least_38 (by decide) ?_
    refine x_sub [3, 1, 2, 0] rfl ?_
    exact hk10 v4 v3 v5 im
set_option maxRecDepth 20000 in
set_option maxHeartbeats 4000000 in
theorem s_X7_least_l1 {g : GX}    (n : Nat) : ∀ (x1 : Int32) (x2 : Int32) (x3 : Int32) (im : IM), X g md_X7_least eI 10 [(0, .ref (g.1 82)), (1, .int x1), (2, .int x2), (3, .int x3)] [] im (f_X7_least_l1 n x1 x2 x3 im) := by
  induction n with
  | zero => intro x1 x2 x3 im; exact x_none
  | succ n ih => intro x1 x2 x3 im; exact s_X7_least_l1b (f_X7_least_l1 n) ih x1 x2 x3 im
def f_X7_least  (im : IM) : Option (Int32 × IM) :=
  (f_X7_findLine im).bind fun r1 =>
  f_X7_least_l1 xF 0 0 0 r1
set_option maxRecDepth 20000 in
set_option maxHeartbeats 4000000 in
theorem s_X7_least {g : GX}   (im : IM) : X g md_X7_least eI 0 [(0, .ref (g.1 82))] [] im (f_X7_least im) := by
  refine x_aload_n (q := 0) rfl rfl dX7_least_0 ?_
  refine x_bind (fun r1 er1 => ?_)
  refine x_callVV (av := []) (st := []) (m_X7_findLine   im r1 er1) sh_82 (by decide) rfl rfl (by decide) (by decide) lk_X7_210 cd_X7_findLine xd_X7_findLine rfl (Nat.le_of_ble_eq_true rfl) dX7_least_1 ?_
  refine x_iconst (v := (0)) (by decide) dX7_least_4 ?_
  refine x_istore_n (lv' := [(1, .int 0), (0, .ref (g.1 82))]) rfl dX7_least_5 (by decide) rfl ?_
  refine x_iconst (v := (0)) (by decide) dX7_least_6 ?_
  refine x_istore_n (lv' := [(2, .int 0), (1, .int 0), (0, .ref (g.1 82))]) rfl dX7_least_7 (by decide) rfl ?_
  refine x_iconst (v := (0)) (by decide) dX7_least_8 ?_
  refine x_istore_n (lv' := [(3, .int 0), (2, .int 0), (1, .int 0), (0, .ref (g.1 82))]) rfl dX7_least_9 (by decide) rfl ?_
  refine x_sub [3, 2, 1, 0] rfl ?_
  exact s_X7_least_l1 xF 0 0 0 r1
theorem m_X7_least {g : GX}   (im : IM) (r : Int32 × IM) (hr : f_X7_least im = some r) : xMet g 3 yX7_least cX7_least 4 (some .int) [.ref (g.1 82)] im (eI r) := x_met (by decide) (Nat.le_of_ble_eq_true rfl) rfl (s_X7_least im) r hr
abbrev md_X7_order : xM := (3, 2, RX7, cX7_order, (some .int))
def f_X7_order (a1 : Int32) (im : IM) : Option (Int32 × IM) :=
  if (f_X7_in a1.toInt64 0 9) = 0 then
    (f_X7_finds ((-1000001)) im).bind fun r3 =>
    some ((r3.1, r3.2))
  else
    (f_X7_findLine im).bind fun r1 =>
    if (r1 82 14) ≤ a1 then
      (f_X7_finds ((-1000004)) r1).bind fun r2 =>
      some ((r2.1, r2.2))
    else
      if inb a1 10 = true then
        some ((r1 88 (ix a1), r1))
      else none
set_option maxRecDepth 20000 in
set_option maxHeartbeats 4000000 in
theorem s_X7_order {g : GX}  (a1 : Int32) (im : IM) : X g md_X7_order eI 0 [(0, .ref (g.1 82)), (1, .int a1)] [] im (f_X7_order a1 im) := by
  refine x_iload_n (q := 1) rfl rfl dX7_order_0 ?_
  refine x_i2l dX7_order_1 ?_
  refine x_lconst (v := (0)) (by decide) dX7_order_2 ?_
  refine x_ldc2 cl_X7_57 dX7_order_3 ?_
  refine x_callSR (av := [.long a1.toInt64, .long 0, .long 9]) (st := []) (m_X7_in  a1.toInt64 0 9 im) rfl (by decide) (by decide) lk_X7_46 cd_X7_in xd_X7_in rfl (Nat.le_of_ble_eq_true rfl) dX7_order_6 ?_
  refine x_if_ne (tgt := 19) dX7_order_9 (by decide) ?_ ?_
  · refine x_aload_n (q := 0) rfl rfl dX7_order_19 ?_
    refine x_bind (fun r1 er1 => ?_)
    refine x_callVV (av := []) (st := []) (m_X7_findLine   im r1 er1) sh_82 (by decide) rfl rfl (by decide) (by decide) lk_X7_210 cd_X7_findLine xd_X7_findLine rfl (Nat.le_of_ble_eq_true rfl) dX7_order_20 ?_
    refine x_iload_n (q := 1) rfl rfl dX7_order_23 ?_
    refine x_aload_n (q := 0) rfl rfl dX7_order_24 ?_
    refine x_get (C := RX7) (T := TX7) sh_82 (by decide) rfl in_X7 14 (by decide) fl_X7_204 xf_7_14 dX7_order_25 ?_
    refine x_icmp_ge (tgt := 40) dX7_order_28 (by decide) ?_ ?_
    · refine x_aload_n (q := 0) rfl rfl dX7_order_40 ?_
      refine x_ldc co_X7_157 dX7_order_41 ?_
      refine x_bind (fun r2 er2 => ?_)
      refine x_callVI (av := [.int ((-1000004))]) (st := []) (m_X7_finds  (((-1000004))) r1 r2 er2) sh_82 (by decide) rfl rfl (by decide) (by decide) lk_X7_59 cd_X7_finds xd_X7_finds rfl (Nat.le_of_ble_eq_true rfl) dX7_order_43 ?_
      exact x_iret rfl rfl dX7_order_46
    · refine x_aload_n (q := 0) rfl rfl dX7_order_31 ?_
      refine x_get (C := RX7) (T := TX7) sh_82 (by decide) rfl in_X7 13 (by decide) fl_X7_25 xf_7_13 dX7_order_32 ?_
      refine x_iload_n (q := 1) rfl rfl dX7_order_35 ?_
      refine x_iald sh_88 dX7_order_36 ?_
      refine x_goto (tgt := 46) dX7_order_37 (by decide) ?_
      exact x_iret rfl rfl dX7_order_46
  · refine x_aload_n (q := 0) rfl rfl dX7_order_12 ?_
    refine x_ldc co_X7_43 dX7_order_13 ?_
    refine x_bind (fun r3 er3 => ?_)
    refine x_callVI (av := [.int ((-1000001))]) (st := []) (m_X7_finds  (((-1000001))) im r3 er3) sh_82 (by decide) rfl rfl (by decide) (by decide) lk_X7_59 cd_X7_finds xd_X7_finds rfl (Nat.le_of_ble_eq_true rfl) dX7_order_15 ?_
    exact x_iret rfl rfl dX7_order_18
theorem m_X7_order {g : GX}  (a1 : Int32) (im : IM) (r : Int32 × IM) (hr : f_X7_order a1 im = some r) : xMet g 3 yX7_order cX7_order 2 (some .int) [.ref (g.1 82), .int a1] im (eI r) := x_met (by decide) (Nat.le_of_ble_eq_true rfl) rfl (s_X7_order a1 im) r hr
abbrev md_X7_wheel : xM := (3, 4, RX7, cX7_wheel, (some .int))
def f_X7_wheel_j2 (a1 : Int32)  (x3 : Int32) (im : IM) : Option (Int32 × IM) :=
  some ((x3, im))
set_option maxRecDepth 20000 in
set_option maxHeartbeats 4000000 in
theorem s_X7_wheel_j2 {g : GX} (a1 : Int32)    (x3 : Int32)  (im : IM) : X g md_X7_wheel eI 85 [(3, .int x3)] [] im (f_X7_wheel_j2 a1 x3 im) := by
  refine x_iload_n (q := 0) rfl rfl dX7_wheel_85 ?_
  exact x_iret rfl rfl dX7_wheel_86
def f_X7_wheel_l1b (a1 : Int32)   (k27 : Int32 → Int32 → IM → Option (Int32 × IM)) (x2 : Int32) (x3 : Int32) (im : IM) : Option (Int32 × IM) :=
  if (im 82 14) ≤ x3 then
    f_X7_wheel_j2 a1 x3 im
  else
    if inb x3 10 = true then
      (f_X7_minutesUp (im 88 (ix x3)) im).bind fun r2 =>
      if x2 < r2 then
        f_X7_wheel_j2 a1 x3 im
      else
        if inb x3 10 = true then
          (f_X7_minutesUp (im 88 (ix x3)) im).bind fun r3 =>
          bnd (x2 - r3) fun v4 =>
          if inb x3 10 = true then
            if inb (f_X7_at (im 88 (ix x3)) 6) 167 = true then
              bnd (up im 83 (ix (f_X7_at (im 88 (ix x3)) 6)) 3) fun m5 =>
              bnd (x3 + 1) fun v6 =>
              k27 v4 v6 m5
            else none
          else none
        else none
    else none
def f_X7_wheel_l1 (a1 : Int32)   : Nat → Int32 → Int32 → IM → Option (Int32 × IM)
  | 0, _, _, _ => none
  | n + 1, x2, x3, im => f_X7_wheel_l1b a1 (f_X7_wheel_l1 a1 n) x2 x3 im
set_option maxRecDepth 20000 in
set_option maxHeartbeats 4000000 in
theorem s_X7_wheel_l1b {g : GX} (a1 : Int32)    (k27 : Int32 → Int32 → IM → Option (Int32 × IM)) (hk27 : ∀ (x2 : Int32) (x3 : Int32) (im : IM), X g md_X7_wheel eI 27 [(0, .ref (g.1 82)), (2, .int x2), (3, .int x3)] [] im (k27 x2 x3 im)) (x2 : Int32) (x3 : Int32)  (im : IM) : X g md_X7_wheel eI 27 [(0, .ref (g.1 82)), (2, .int x2), (3, .int x3)] [] im (f_X7_wheel_l1b a1 k27 x2 x3 im) := by
  refine x_iload_n (q := 2) rfl rfl dX7_wheel_27 ?_
  refine x_aload_n (q := 0) rfl rfl dX7_wheel_28 ?_
  refine x_get (C := RX7) (T := TX7) sh_82 (by decide) rfl in_X7 14 (by decide) fl_X7_204 xf_7_14 dX7_wheel_29 ?_
  refine x_icmp_ge (tgt := 85) dX7_wheel_32 (by decide) ?_ ?_
  · refine x_sub [2] rfl ?_
    exact s_X7_wheel_j2 a1 x3 im
  · refine x_aload_n (q := 0) rfl rfl dX7_wheel_35 ?_
    refine x_aload_n (q := 0) rfl rfl dX7_wheel_36 ?_
    refine x_get (C := RX7) (T := TX7) sh_82 (by decide) rfl in_X7 13 (by decide) fl_X7_25 xf_7_13 dX7_wheel_37 ?_
    refine x_iload_n (q := 2) rfl rfl dX7_wheel_40 ?_
    refine x_iald sh_88 dX7_wheel_41 ?_
    refine x_bind (fun r2 er2 => ?_)
    refine x_callVR (av := [.int (im 88 (ix x3))]) (st := []) (m_X7_minutesUp  ((im 88 (ix x3))) im r2 er2) sh_82 (by decide) rfl rfl (by decide) (by decide) lk_X7_207 cd_X7_minutesUp xd_X7_minutesUp rfl (Nat.le_of_ble_eq_true rfl) dX7_wheel_42 ?_
    refine x_iload_n (q := 1) rfl rfl dX7_wheel_45 ?_
    refine x_icmp_gt (tgt := 85) dX7_wheel_46 (by decide) ?_ ?_
    · refine x_sub [2] rfl ?_
      exact s_X7_wheel_j2 a1 x3 im
    · refine x_iload_n (q := 1) rfl rfl dX7_wheel_49 ?_
      refine x_aload_n (q := 0) rfl rfl dX7_wheel_50 ?_
      refine x_aload_n (q := 0) rfl rfl dX7_wheel_51 ?_
      refine x_get (C := RX7) (T := TX7) sh_82 (by decide) rfl in_X7 13 (by decide) fl_X7_25 xf_7_13 dX7_wheel_52 ?_
      refine x_iload_n (q := 2) rfl rfl dX7_wheel_55 ?_
      refine x_iald sh_88 dX7_wheel_56 ?_
      refine x_bind (fun r3 er3 => ?_)
      refine x_callVR (av := [.int (im 88 (ix x3))]) (st := [.int x2]) (m_X7_minutesUp  ((im 88 (ix x3))) im r3 er3) sh_82 (by decide) rfl rfl (by decide) (by decide) lk_X7_207 cd_X7_minutesUp xd_X7_minutesUp rfl (Nat.le_of_ble_eq_true rfl) dX7_wheel_57 ?_
      refine x_isub dX7_wheel_60 ?_
      refine x_bi (fun v4 => ?_)
      refine x_istore_n (lv' := [(2, .int v4), (0, .ref (g.1 82)), (3, .int x3)]) rfl dX7_wheel_61 (by decide) rfl ?_
      refine x_aload_n (q := 1) rfl rfl dX7_wheel_62 ?_
      refine x_get (C := RX7) (T := TX7) sh_82 (by decide) rfl in_X7 0 (by decide) fl_X7_7 xf_7_0 dX7_wheel_63 ?_
      refine x_aload_n (q := 1) rfl rfl dX7_wheel_66 ?_
      refine x_get (C := RX7) (T := TX7) sh_82 (by decide) rfl in_X7 13 (by decide) fl_X7_25 xf_7_13 dX7_wheel_67 ?_
      refine x_iload_n (q := 2) rfl rfl dX7_wheel_70 ?_
      refine x_iald sh_88 dX7_wheel_71 ?_
      refine x_bipush (v := (6)) (by decide) dX7_wheel_72 ?_
      refine x_callSR (av := [.int (im 88 (ix x3)), .int 6]) (st := [.ref (g.1 83)]) (m_X7_at  ((im 88 (ix x3))) 6 im) rfl (by decide) (by decide) lk_X7_72 cd_X7_at xd_X7_at rfl (Nat.le_of_ble_eq_true rfl) dX7_wheel_74 ?_
      refine x_iconst (v := (3)) (by decide) dX7_wheel_77 ?_
      refine x_iast sh_83 dX7_wheel_78 ?_
      refine x_bm (fun m5 => ?_)
      refine x_iinc (q := 2) (a := 1) (lv' := fun v6 => [(3, .int v6), (2, .int v4), (0, .ref (g.1 82))]) dX7_wheel_79 rfl (by decide) (by decide) (fun _ => rfl) (fun v6 => ?_)
      refine x_goto (tgt := 27) dX7_wheel_82 (by decide) ?_
      refine x_sub [2, 1, 0] rfl ?_
      exact hk27 v4 v6 m5
set_option maxRecDepth 20000 in
set_option maxHeartbeats 4000000 in
theorem s_X7_wheel_l1 {g : GX} (a1 : Int32)    (n : Nat) : ∀ (x2 : Int32) (x3 : Int32) (im : IM), X g md_X7_wheel eI 27 [(0, .ref (g.1 82)), (2, .int x2), (3, .int x3)] [] im (f_X7_wheel_l1 a1 n x2 x3 im) := by
  induction n with
  | zero => intro x2 x3 im; exact x_none
  | succ n ih => intro x2 x3 im; exact s_X7_wheel_l1b a1 (f_X7_wheel_l1 a1 n) ih x2 x3 im
def f_X7_wheel (a1 : Int32) (im : IM) : Option (Int32 × IM) :=
  if (f_X7_in a1.toInt64 1 999) = 0 then
    (f_X7_finds ((-1000001)) im).bind fun r7 =>
    some ((r7.1, r7.2))
  else
    (f_X7_findLine im).bind fun r1 =>
    f_X7_wheel_l1 a1 xF a1 0 r1
set_option maxRecDepth 20000 in
set_option maxHeartbeats 4000000 in
theorem s_X7_wheel {g : GX}  (a1 : Int32) (im : IM) : X g md_X7_wheel eI 0 [(0, .ref (g.1 82)), (1, .int a1)] [] im (f_X7_wheel a1 im) := by
  refine x_iload_n (q := 1) rfl rfl dX7_wheel_0 ?_
  refine x_i2l dX7_wheel_1 ?_
  refine x_lconst (v := (1)) (by decide) dX7_wheel_2 ?_
  refine x_ldc2 cl_X7_201 dX7_wheel_3 ?_
  refine x_callSR (av := [.long a1.toInt64, .long 1, .long 999]) (st := []) (m_X7_in  a1.toInt64 1 999 im) rfl (by decide) (by decide) lk_X7_46 cd_X7_in xd_X7_in rfl (Nat.le_of_ble_eq_true rfl) dX7_wheel_6 ?_
  refine x_if_ne (tgt := 19) dX7_wheel_9 (by decide) ?_ ?_
  · refine x_aload_n (q := 0) rfl rfl dX7_wheel_19 ?_
    refine x_bind (fun r1 er1 => ?_)
    refine x_callVV (av := []) (st := []) (m_X7_findLine   im r1 er1) sh_82 (by decide) rfl rfl (by decide) (by decide) lk_X7_210 cd_X7_findLine xd_X7_findLine rfl (Nat.le_of_ble_eq_true rfl) dX7_wheel_20 ?_
    refine x_iload_n (q := 1) rfl rfl dX7_wheel_23 ?_
    refine x_istore_n (lv' := [(2, .int a1), (0, .ref (g.1 82)), (1, .int a1)]) rfl dX7_wheel_24 (by decide) rfl ?_
    refine x_iconst (v := (0)) (by decide) dX7_wheel_25 ?_
    refine x_istore_n (lv' := [(3, .int 0), (2, .int a1), (0, .ref (g.1 82)), (1, .int a1)]) rfl dX7_wheel_26 (by decide) rfl ?_
    refine x_sub [2, 1, 0] rfl ?_
    exact s_X7_wheel_l1 a1 xF a1 0 r1
  · refine x_aload_n (q := 0) rfl rfl dX7_wheel_12 ?_
    refine x_ldc co_X7_43 dX7_wheel_13 ?_
    refine x_bind (fun r7 er7 => ?_)
    refine x_callVI (av := [.int ((-1000001))]) (st := []) (m_X7_finds  (((-1000001))) im r7 er7) sh_82 (by decide) rfl rfl (by decide) (by decide) lk_X7_59 cd_X7_finds xd_X7_finds rfl (Nat.le_of_ble_eq_true rfl) dX7_wheel_15 ?_
    exact x_iret rfl rfl dX7_wheel_18
theorem m_X7_wheel {g : GX}  (a1 : Int32) (im : IM) (r : Int32 × IM) (hr : f_X7_wheel a1 im = some r) : xMet g 3 yX7_wheel cX7_wheel 4 (some .int) [.ref (g.1 82), .int a1] im (eI r) := x_met (by decide) (Nat.le_of_ble_eq_true rfl) rfl (s_X7_wheel a1 im) r hr
abbrev md_X7_odds : xM := (5, 5, RX7, cX7_odds, (some .int))
def f_X7_odds_j1 (a1 : Int32) (a2 : Int32)   (im : IM) : Option (Int32 × IM) :=
  (f_X7_finds ((-1000001)) im).bind fun r1 =>
  some ((r1.1, r1.2))
set_option maxRecDepth 20000 in
set_option maxHeartbeats 4000000 in
theorem s_X7_odds_j1 {g : GX} (a1 : Int32) (a2 : Int32)      (im : IM) : X g md_X7_odds eI 20 [(0, .ref (g.1 82))] [] im (f_X7_odds_j1 a1 a2 im) := by
  refine x_aload_n (q := 0) rfl rfl dX7_odds_20 ?_
  refine x_ldc co_X7_43 dX7_odds_21 ?_
  refine x_bind (fun r1 er1 => ?_)
  refine x_callVI (av := [.int ((-1000001))]) (st := []) (m_X7_finds  (((-1000001))) im r1 er1) sh_82 (by decide) rfl rfl (by decide) (by decide) lk_X7_59 cd_X7_finds xd_X7_finds rfl (Nat.le_of_ble_eq_true rfl) dX7_odds_23 ?_
  exact x_iret rfl rfl dX7_odds_26
def f_X7_odds_j2 (a1 : Int32) (a2 : Int32)   (im : IM) : Option (Int32 × IM) :=
  (f_X7_finds ((-1000005)) im).bind fun r3 =>
  some ((r3.1, r3.2))
set_option maxRecDepth 20000 in
set_option maxHeartbeats 4000000 in
theorem s_X7_odds_j2 {g : GX} (a1 : Int32) (a2 : Int32)      (im : IM) : X g md_X7_odds eI 45 [(0, .ref (g.1 82))] [] im (f_X7_odds_j2 a1 a2 im) := by
  refine x_aload_n (q := 0) rfl rfl dX7_odds_45 ?_
  refine x_ldc co_X7_109 dX7_odds_46 ?_
  refine x_bind (fun r3 er3 => ?_)
  refine x_callVI (av := [.int ((-1000005))]) (st := []) (m_X7_finds  (((-1000005))) im r3 er3) sh_82 (by decide) rfl rfl (by decide) (by decide) lk_X7_59 cd_X7_finds xd_X7_finds rfl (Nat.le_of_ble_eq_true rfl) dX7_odds_48 ?_
  exact x_iret rfl rfl dX7_odds_51
def f_X7_odds_j4 (a1 : Int32) (a2 : Int32) (k57 : Int32 → Int32 → IM → Option (Int32 × IM)) (x4 : Int32) (s0 : Int32) (s1 : Int32) (im : IM) : Option (Int32 × IM) :=
  bnd (s1 + s0) fun v6 =>
  bnd (x4 + 1) fun v7 =>
  k57 v6 v7 im
set_option maxRecDepth 20000 in
set_option maxHeartbeats 4000000 in
theorem s_X7_odds_j4 {g : GX} (a1 : Int32) (a2 : Int32)  (k57 : Int32 → Int32 → IM → Option (Int32 × IM)) (hk57 : ∀ (x3 : Int32) (x4 : Int32) (im : IM), X g md_X7_odds eI 57 [(0, .ref (g.1 82)), (1, .int a1), (2, .int a2), (3, .int x3), (4, .int x4)] [] im (k57 x3 x4 im)) (x4 : Int32) (s0 : Int32) (s1 : Int32)  (im : IM) : X g md_X7_odds eI 92 [(0, .ref (g.1 82)), (1, .int a1), (2, .int a2), (4, .int x4)] [.int s0, .int s1] im (f_X7_odds_j4 a1 a2 k57 x4 s0 s1 im) := by
  refine x_iadd dX7_odds_92 ?_
  refine x_bi (fun v6 => ?_)
  refine x_istore_n (lv' := [(3, .int v6), (0, .ref (g.1 82)), (1, .int a1), (2, .int a2), (4, .int x4)]) rfl dX7_odds_93 (by decide) rfl ?_
  refine x_iinc (q := 4) (a := 1) (lv' := fun v7 => [(4, .int v7), (3, .int v6), (0, .ref (g.1 82)), (1, .int a1), (2, .int a2)]) dX7_odds_94 rfl (by decide) (by decide) (fun _ => rfl) (fun v7 => ?_)
  refine x_goto (tgt := 57) dX7_odds_97 (by decide) ?_
  refine x_sub [2, 3, 4, 1, 0] rfl ?_
  exact hk57 v6 v7 im
def f_X7_odds_l3b (a1 : Int32) (a2 : Int32)   (k57 : Int32 → Int32 → IM → Option (Int32 × IM)) (x3 : Int32) (x4 : Int32) (im : IM) : Option (Int32 × IM) :=
  if a2 ≤ x4 then
    some ((x3, im))
  else
    bnd (f_X7_draw im) fun r4 =>
    (f_X7_alone a1 (10 + (jrem r4.1 30)) r4.2).bind fun r5 =>
    if (r5 82 8) = 2 then
      f_X7_odds_j4 a1 a2 k57 x4 1 x3 r5
    else
      f_X7_odds_j4 a1 a2 k57 x4 0 x3 r5
def f_X7_odds_l3 (a1 : Int32) (a2 : Int32)   : Nat → Int32 → Int32 → IM → Option (Int32 × IM)
  | 0, _, _, _ => none
  | n + 1, x3, x4, im => f_X7_odds_l3b a1 a2 (f_X7_odds_l3 a1 a2 n) x3 x4 im
set_option maxRecDepth 20000 in
set_option maxHeartbeats 4000000 in
theorem s_X7_odds_l3b {g : GX} (a1 : Int32) (a2 : Int32)    (k57 : Int32 → Int32 → IM → Option (Int32 × IM)) (hk57 : ∀ (x3 : Int32) (x4 : Int32) (im : IM), X g md_X7_odds eI 57 [(0, .ref (g.1 82)), (1, .int a1), (2, .int a2), (3, .int x3), (4, .int x4)] [] im (k57 x3 x4 im)) (x3 : Int32) (x4 : Int32)  (im : IM) : X g md_X7_odds eI 57 [(0, .ref (g.1 82)), (1, .int a1), (2, .int a2), (3, .int x3), (4, .int x4)] [] im (f_X7_odds_l3b a1 a2 k57 x3 x4 im) := by
  refine x_iload (q := 4) rfl dX7_odds_57 ?_
  refine x_iload_n (q := 2) rfl rfl dX7_odds_59 ?_
  refine x_icmp_ge (tgt := 100) dX7_odds_60 (by decide) ?_ ?_
  · refine x_iload_n (q := 3) rfl rfl dX7_odds_100 ?_
    exact x_iret rfl rfl dX7_odds_101
  · refine x_aload_n (q := 0) rfl rfl dX7_odds_63 ?_
    refine x_iload_n (q := 1) rfl rfl dX7_odds_64 ?_
    refine x_bipush (v := (10)) (by decide) dX7_odds_65 ?_
    refine x_aload_n (q := 0) rfl rfl dX7_odds_67 ?_
    refine x_callVI (av := []) (st := [.int 10, .int a1, .ref (g.1 82)]) (m_X7_draw   im) sh_82 (by decide) rfl rfl (by decide) (by decide) lk_X7_215 cd_X7_draw xd_X7_draw rfl (Nat.le_of_ble_eq_true rfl) dX7_odds_68 ?_
    refine x_bp (fun r4 => ?_)
    refine x_bipush (v := (30)) (by decide) dX7_odds_71 ?_
    refine x_irem (by decide) dX7_odds_73 ?_
    refine x_iadd dX7_odds_74 ?_
    refine x_bind (fun r5 er5 => ?_)
    refine x_callVV (av := [.int a1, .int (10 + (jrem r4.1 30))]) (st := []) (m_X7_alone  a1 ((10 + (jrem r4.1 30))) r4.2 r5 er5) sh_82 (by decide) rfl rfl (by decide) (by decide) lk_X7_173 cd_X7_alone xd_X7_alone rfl (Nat.le_of_ble_eq_true rfl) dX7_odds_75 ?_
    refine x_iload_n (q := 3) rfl rfl dX7_odds_78 ?_
    refine x_aload_n (q := 0) rfl rfl dX7_odds_79 ?_
    refine x_get (C := RX7) (T := TX7) sh_82 (by decide) rfl in_X7 8 (by decide) fl_X7_167 xf_7_8 dX7_odds_80 ?_
    refine x_iconst (v := (2)) (by decide) dX7_odds_83 ?_
    refine x_icmp_ne (tgt := 91) dX7_odds_84 (by decide) ?_ ?_
    · refine x_iconst (v := (0)) (by decide) dX7_odds_91 ?_
      refine x_sub [0, 1, 2, 4] rfl ?_
      exact s_X7_odds_j4 a1 a2 k57 hk57 x4 0 x3 r5
    · refine x_iconst (v := (1)) (by decide) dX7_odds_87 ?_
      refine x_goto (tgt := 92) dX7_odds_88 (by decide) ?_
      refine x_sub [0, 1, 2, 4] rfl ?_
      exact s_X7_odds_j4 a1 a2 k57 hk57 x4 1 x3 r5
set_option maxRecDepth 20000 in
set_option maxHeartbeats 4000000 in
theorem s_X7_odds_l3 {g : GX} (a1 : Int32) (a2 : Int32)    (n : Nat) : ∀ (x3 : Int32) (x4 : Int32) (im : IM), X g md_X7_odds eI 57 [(0, .ref (g.1 82)), (1, .int a1), (2, .int a2), (3, .int x3), (4, .int x4)] [] im (f_X7_odds_l3 a1 a2 n x3 x4 im) := by
  induction n with
  | zero => intro x3 x4 im; exact x_none
  | succ n ih => intro x3 x4 im; exact s_X7_odds_l3b a1 a2 (f_X7_odds_l3 a1 a2 n) ih x3 x4 im
def f_X7_odds (a1 : Int32) (a2 : Int32) (im : IM) : Option (Int32 × IM) :=
  if (f_X7_isThing a1 im) = 0 then
    f_X7_odds_j1 a1 a2 im
  else
    if (f_X7_in a2.toInt64 1 20) = 0 then
      f_X7_odds_j1 a1 a2 im
    else
      (f_X7_isReady a1 im).bind fun r2 =>
      if r2 = 0 then
        f_X7_odds_j2 a1 a2 im
      else
        if (f_X7_isTooLate 200 im) = 0 then
          f_X7_odds_l3 a1 a2 xF 0 0 im
        else
          f_X7_odds_j2 a1 a2 im
set_option maxRecDepth 20000 in
set_option maxHeartbeats 4000000 in
theorem s_X7_odds {g : GX}   (a1 : Int32) (a2 : Int32) (im : IM) : X g md_X7_odds eI 0 [(0, .ref (g.1 82)), (1, .int a1), (2, .int a2)] [] im (f_X7_odds a1 a2 im) := by
  refine x_aload_n (q := 0) rfl rfl dX7_odds_0 ?_
  refine x_iload_n (q := 1) rfl rfl dX7_odds_1 ?_
  refine x_callVR (av := [.int a1]) (st := []) (m_X7_isThing  a1 im) sh_82 (by decide) rfl rfl (by decide) (by decide) lk_X7_92 cd_X7_isThing xd_X7_isThing rfl (Nat.le_of_ble_eq_true rfl) dX7_odds_2 ?_
  refine x_if_eq (tgt := 20) dX7_odds_5 (by decide) ?_ ?_
  · refine x_sub [0] rfl ?_
    exact s_X7_odds_j1 a1 a2 im
  · refine x_iload_n (q := 2) rfl rfl dX7_odds_8 ?_
    refine x_i2l dX7_odds_9 ?_
    refine x_lconst (v := (1)) (by decide) dX7_odds_10 ?_
    refine x_ldc2 cl_X7_213 dX7_odds_11 ?_
    refine x_callSR (av := [.long a2.toInt64, .long 1, .long 20]) (st := []) (m_X7_in  a2.toInt64 1 20 im) rfl (by decide) (by decide) lk_X7_46 cd_X7_in xd_X7_in rfl (Nat.le_of_ble_eq_true rfl) dX7_odds_14 ?_
    refine x_if_ne (tgt := 27) dX7_odds_17 (by decide) ?_ ?_
    · refine x_aload_n (q := 0) rfl rfl dX7_odds_27 ?_
      refine x_iload_n (q := 1) rfl rfl dX7_odds_28 ?_
      refine x_bind (fun r2 er2 => ?_)
      refine x_callVR (av := [.int a1]) (st := []) (m_X7_isReady  a1 im r2 er2) sh_82 (by decide) rfl rfl (by decide) (by decide) lk_X7_106 cd_X7_isReady xd_X7_isReady rfl (Nat.le_of_ble_eq_true rfl) dX7_odds_29 ?_
      refine x_if_eq (tgt := 45) dX7_odds_32 (by decide) ?_ ?_
      · refine x_sub [0] rfl ?_
        exact s_X7_odds_j2 a1 a2 im
      · refine x_aload_n (q := 0) rfl rfl dX7_odds_35 ?_
        refine x_sipush (v := (200)) (by decide) dX7_odds_36 ?_
        refine x_callVR (av := [.int 200]) (st := []) (m_X7_isTooLate  200 im) sh_82 (by decide) rfl rfl (by decide) (by decide) lk_X7_132 cd_X7_isTooLate xd_X7_isTooLate rfl (Nat.le_of_ble_eq_true rfl) dX7_odds_39 ?_
        refine x_if_eq (tgt := 52) dX7_odds_42 (by decide) ?_ ?_
        · refine x_iconst (v := (0)) (by decide) dX7_odds_52 ?_
          refine x_istore_n (lv' := [(3, .int 0), (0, .ref (g.1 82)), (1, .int a1), (2, .int a2)]) rfl dX7_odds_53 (by decide) rfl ?_
          refine x_iconst (v := (0)) (by decide) dX7_odds_54 ?_
          refine x_istore (lv' := [(4, .int 0), (3, .int 0), (0, .ref (g.1 82)), (1, .int a1), (2, .int a2)]) dX7_odds_55 (by decide) rfl ?_
          refine x_sub [2, 3, 4, 1, 0] rfl ?_
          exact s_X7_odds_l3 a1 a2 xF 0 0 im
        · refine x_sub [0] rfl ?_
          exact s_X7_odds_j2 a1 a2 im
    · refine x_sub [0] rfl ?_
      exact s_X7_odds_j1 a1 a2 im
theorem m_X7_odds {g : GX}   (a1 : Int32) (a2 : Int32) (im : IM) (r : Int32 × IM) (hr : f_X7_odds a1 a2 im = some r) : xMet g 5 yX7_odds cX7_odds 5 (some .int) [.ref (g.1 82), .int a1, .int a2] im (eI r) := x_met (by decide) (Nat.le_of_ble_eq_true rfl) rfl (s_X7_odds a1 a2 im) r hr
abbrev md_X7_worst : xM := (2, 4, RX7, cX7_worst, (some .int))
def f_X7_worst_j3  (k6 : Int32 → Int32 → Int32 → IM → Option (Int32 × IM)) (x1 : Int32) (x3 : Int32) (s0 : Int32) (im : IM) : Option (Int32 × IM) :=
  bnd (x3 + 1) fun v4 =>
  k6 x1 s0 v4 im
set_option maxRecDepth 20000 in
set_option maxHeartbeats 4000000 in
theorem s_X7_worst_j3 {g : GX}  (k6 : Int32 → Int32 → Int32 → IM → Option (Int32 × IM)) (hk6 : ∀ (x1 : Int32) (x2 : Int32) (x3 : Int32) (im : IM), X g md_X7_worst eI 6 [(0, .ref (g.1 82)), (1, .int x1), (2, .int x2), (3, .int x3)] [] im (k6 x1 x2 x3 im)) (x1 : Int32) (x3 : Int32) (s0 : Int32)  (im : IM) : X g md_X7_worst eI 55 [(0, .ref (g.1 82)), (1, .int x1), (3, .int x3)] [.int s0] im (f_X7_worst_j3 k6 x1 x3 s0 im) := by
  refine x_istore_n (lv' := [(2, .int s0), (0, .ref (g.1 82)), (1, .int x1), (3, .int x3)]) rfl dX7_worst_55 (by decide) rfl ?_
  refine x_iinc (q := 3) (a := 1) (lv' := fun v4 => [(3, .int v4), (2, .int s0), (0, .ref (g.1 82)), (1, .int x1)]) dX7_worst_56 rfl (by decide) (by decide) (fun _ => rfl) (fun v4 => ?_)
  refine x_goto (tgt := 6) dX7_worst_59 (by decide) ?_
  refine x_sub [2, 3, 1, 0] rfl ?_
  exact hk6 x1 s0 v4 im
def f_X7_worst_j2  (k6 : Int32 → Int32 → Int32 → IM → Option (Int32 × IM)) (x2 : Int32) (x3 : Int32) (s0 : Int32) (im : IM) : Option (Int32 × IM) :=
  (f_X7_its x3 7 im).bind fun r3 =>
  if r3 ≤ x2 then
    f_X7_worst_j3 k6 s0 x3 x2 im
  else
    (f_X7_its x3 7 im).bind fun r5 =>
    f_X7_worst_j3 k6 s0 x3 r5 im
set_option maxRecDepth 20000 in
set_option maxHeartbeats 4000000 in
theorem s_X7_worst_j2 {g : GX}  (k6 : Int32 → Int32 → Int32 → IM → Option (Int32 × IM)) (hk6 : ∀ (x1 : Int32) (x2 : Int32) (x3 : Int32) (im : IM), X g md_X7_worst eI 6 [(0, .ref (g.1 82)), (1, .int x1), (2, .int x2), (3, .int x3)] [] im (k6 x1 x2 x3 im)) (x2 : Int32) (x3 : Int32) (s0 : Int32)  (im : IM) : X g md_X7_worst eI 32 [(0, .ref (g.1 82)), (2, .int x2), (3, .int x3)] [.int s0] im (f_X7_worst_j2 k6 x2 x3 s0 im) := by
  refine x_istore_n (lv' := [(1, .int s0), (0, .ref (g.1 82)), (2, .int x2), (3, .int x3)]) rfl dX7_worst_32 (by decide) rfl ?_
  refine x_aload_n (q := 1) rfl rfl dX7_worst_33 ?_
  refine x_iload_n (q := 3) rfl rfl dX7_worst_34 ?_
  refine x_bipush (v := (7)) (by decide) dX7_worst_35 ?_
  refine x_bind (fun r3 er3 => ?_)
  refine x_callVR (av := [.int x3, .int 7]) (st := []) (m_X7_its  x3 7 im r3 er3) sh_82 (by decide) rfl rfl (by decide) (by decide) lk_X7_89 cd_X7_its xd_X7_its rfl (Nat.le_of_ble_eq_true rfl) dX7_worst_37 ?_
  refine x_iload_n (q := 2) rfl rfl dX7_worst_40 ?_
  refine x_icmp_le (tgt := 54) dX7_worst_41 (by decide) ?_ ?_
  · refine x_iload_n (q := 2) rfl rfl dX7_worst_54 ?_
    refine x_sub [1, 0, 3] rfl ?_
    exact s_X7_worst_j3 k6 hk6 s0 x3 x2 im
  · refine x_aload_n (q := 1) rfl rfl dX7_worst_44 ?_
    refine x_iload_n (q := 3) rfl rfl dX7_worst_45 ?_
    refine x_bipush (v := (7)) (by decide) dX7_worst_46 ?_
    refine x_bind (fun r5 er5 => ?_)
    refine x_callVR (av := [.int x3, .int 7]) (st := []) (m_X7_its  x3 7 im r5 er5) sh_82 (by decide) rfl rfl (by decide) (by decide) lk_X7_89 cd_X7_its xd_X7_its rfl (Nat.le_of_ble_eq_true rfl) dX7_worst_48 ?_
    refine x_goto (tgt := 55) dX7_worst_51 (by decide) ?_
    refine x_sub [1, 0, 3] rfl ?_
    exact s_X7_worst_j3 k6 hk6 s0 x3 r5 im
def f_X7_worst_l1b    (k6 : Int32 → Int32 → Int32 → IM → Option (Int32 × IM)) (x1 : Int32) (x2 : Int32) (x3 : Int32) (im : IM) : Option (Int32 × IM) :=
  if (im 83 1) ≤ x3 then
    if 0 ≤ x1 then
      some ((x1, im))
    else
      (f_X7_finds ((-1000004)) im).bind fun r1 =>
      some ((r1.1, r1.2))
  else
    (f_X7_its x3 7 im).bind fun r2 =>
    if r2 ≤ x2 then
      f_X7_worst_j2 k6 x2 x3 x1 im
    else
      f_X7_worst_j2 k6 x2 x3 x3 im
def f_X7_worst_l1    : Nat → Int32 → Int32 → Int32 → IM → Option (Int32 × IM)
  | 0, _, _, _, _ => none
  | n + 1, x1, x2, x3, im => f_X7_worst_l1b (f_X7_worst_l1 n) x1 x2 x3 im
set_option maxRecDepth 20000 in
set_option maxHeartbeats 4000000 in
theorem s_X7_worst_l1b {g : GX}    (k6 : Int32 → Int32 → Int32 → IM → Option (Int32 × IM)) (hk6 : ∀ (x1 : Int32) (x2 : Int32) (x3 : Int32) (im : IM), X g md_X7_worst eI 6 [(0, .ref (g.1 82)), (1, .int x1), (2, .int x2), (3, .int x3)] [] im (k6 x1 x2 x3 im)) (x1 : Int32) (x2 : Int32) (x3 : Int32)  (im : IM) : X g md_X7_worst eI 6 [(0, .ref (g.1 82)), (1, .int x1), (2, .int x2), (3, .int x3)] [] im (f_X7_worst_l1b k6 x1 x2 x3 im) := by
  refine x_iload_n (q := 3) rfl rfl dX7_worst_6 ?_
  refine x_aload_n (q := 0) rfl rfl dX7_worst_7 ?_
  refine x_get (C := RX7) (T := TX7) sh_82 (by decide) rfl in_X7 0 (by decide) fl_X7_7 xf_7_0 dX7_worst_8 ?_
  refine x_iconst (v := (1)) (by decide) dX7_worst_11 ?_
  refine x_ialdc sh_83 (by decide) ix_1 dX7_worst_12 ?_
  refine x_icmp_ge (tgt := 62) dX7_worst_13 (by decide) ?_ ?_
  · refine x_iload_n (q := 1) rfl rfl dX7_worst_62 ?_
    refine x_if_ge (tgt := 75) dX7_worst_63 (by decide) ?_ ?_
    · refine x_iload_n (q := 1) rfl rfl dX7_worst_75 ?_
      exact x_iret rfl rfl dX7_worst_76
    · refine x_aload_n (q := 0) rfl rfl dX7_worst_66 ?_
      refine x_ldc co_X7_157 dX7_worst_67 ?_
      refine x_bind (fun r1 er1 => ?_)
      refine x_callVI (av := [.int ((-1000004))]) (st := []) (m_X7_finds  (((-1000004))) im r1 er1) sh_82 (by decide) rfl rfl (by decide) (by decide) lk_X7_59 cd_X7_finds xd_X7_finds rfl (Nat.le_of_ble_eq_true rfl) dX7_worst_69 ?_
      refine x_goto (tgt := 76) dX7_worst_72 (by decide) ?_
      exact x_iret rfl rfl dX7_worst_76
  · refine x_aload_n (q := 0) rfl rfl dX7_worst_16 ?_
    refine x_iload_n (q := 3) rfl rfl dX7_worst_17 ?_
    refine x_bipush (v := (7)) (by decide) dX7_worst_18 ?_
    refine x_bind (fun r2 er2 => ?_)
    refine x_callVR (av := [.int x3, .int 7]) (st := []) (m_X7_its  x3 7 im r2 er2) sh_82 (by decide) rfl rfl (by decide) (by decide) lk_X7_89 cd_X7_its xd_X7_its rfl (Nat.le_of_ble_eq_true rfl) dX7_worst_20 ?_
    refine x_iload_n (q := 2) rfl rfl dX7_worst_23 ?_
    refine x_icmp_le (tgt := 31) dX7_worst_24 (by decide) ?_ ?_
    · refine x_iload_n (q := 1) rfl rfl dX7_worst_31 ?_
      refine x_sub [0, 2, 3] rfl ?_
      exact s_X7_worst_j2 k6 hk6 x2 x3 x1 im
    · refine x_iload_n (q := 3) rfl rfl dX7_worst_27 ?_
      refine x_goto (tgt := 32) dX7_worst_28 (by decide) ?_
      refine x_sub [0, 2, 3] rfl ?_
      exact s_X7_worst_j2 k6 hk6 x2 x3 x3 im
set_option maxRecDepth 20000 in
set_option maxHeartbeats 4000000 in
theorem s_X7_worst_l1 {g : GX}    (n : Nat) : ∀ (x1 : Int32) (x2 : Int32) (x3 : Int32) (im : IM), X g md_X7_worst eI 6 [(0, .ref (g.1 82)), (1, .int x1), (2, .int x2), (3, .int x3)] [] im (f_X7_worst_l1 n x1 x2 x3 im) := by
  induction n with
  | zero => intro x1 x2 x3 im; exact x_none
  | succ n ih => intro x1 x2 x3 im; exact s_X7_worst_l1b (f_X7_worst_l1 n) ih x1 x2 x3 im
def f_X7_worst  (im : IM) : Option (Int32 × IM) :=
  f_X7_worst_l1 xF ((-1)) 0 0 im
set_option maxRecDepth 20000 in
set_option maxHeartbeats 4000000 in
theorem s_X7_worst {g : GX}   (im : IM) : X g md_X7_worst eI 0 [(0, .ref (g.1 82))] [] im (f_X7_worst im) := by
  refine x_iconst (v := (-1)) (by decide) dX7_worst_0 ?_
  refine x_istore_n (lv' := [(1, .int ((-1))), (0, .ref (g.1 82))]) rfl dX7_worst_1 (by decide) rfl ?_
  refine x_iconst (v := (0)) (by decide) dX7_worst_2 ?_
  refine x_istore_n (lv' := [(2, .int 0), (1, .int ((-1))), (0, .ref (g.1 82))]) rfl dX7_worst_3 (by decide) rfl ?_
  refine x_iconst (v := (0)) (by decide) dX7_worst_4 ?_
  refine x_istore_n (lv' := [(3, .int 0), (2, .int 0), (1, .int ((-1))), (0, .ref (g.1 82))]) rfl dX7_worst_5 (by decide) rfl ?_
  refine x_sub [3, 2, 1, 0] rfl ?_
  exact s_X7_worst_l1 xF ((-1)) 0 0 im
theorem m_X7_worst {g : GX}   (im : IM) (r : Int32 × IM) (hr : f_X7_worst im = some r) : xMet g 2 yX7_worst cX7_worst 4 (some .int) [.ref (g.1 82)] im (eI r) := x_met (by decide) (Nat.le_of_ble_eq_true rfl) rfl (s_X7_worst im) r hr
abbrev md_X7_seed : xM := (0, 3, RX7, cX7_seed, (some .int))
def f_X7_seed (a1 : Int32) (im : IM) : Int32 × IM :=
  bnd (im 83 4) fun v1 =>
  bnd (up im 83 4 a1) fun m2 =>
  ((v1, m2))
set_option maxRecDepth 20000 in
set_option maxHeartbeats 4000000 in
theorem s_X7_seed {g : GX}  (a1 : Int32) (im : IM) : X g md_X7_seed eI 0 [(0, .ref (g.1 82)), (1, .int a1)] [] im (some (f_X7_seed a1 im)) := by
  refine x_aload_n (q := 0) rfl rfl dX7_seed_0 ?_
  refine x_get (C := RX7) (T := TX7) sh_82 (by decide) rfl in_X7 0 (by decide) fl_X7_7 xf_7_0 dX7_seed_1 ?_
  refine x_iconst (v := (4)) (by decide) dX7_seed_4 ?_
  refine x_ialdc sh_83 (by decide) ix_4 dX7_seed_5 ?_
  refine x_bs (x_bi (fun v1 => ?_))
  refine x_istore_n (lv' := [(2, .int v1), (0, .ref (g.1 82)), (1, .int a1)]) rfl dX7_seed_6 (by decide) rfl ?_
  refine x_aload_n (q := 1) rfl rfl dX7_seed_7 ?_
  refine x_get (C := RX7) (T := TX7) sh_82 (by decide) rfl in_X7 0 (by decide) fl_X7_7 xf_7_0 dX7_seed_8 ?_
  refine x_iconst (v := (4)) (by decide) dX7_seed_11 ?_
  refine x_iload_n (q := 2) rfl rfl dX7_seed_12 ?_
  refine x_iastc sh_83 (by decide) ix_4 dX7_seed_13 ?_
  refine x_bs (x_bm (fun m2 => ?_))
  refine x_iload_n (q := 0) rfl rfl dX7_seed_14 ?_
  exact x_iret rfl rfl dX7_seed_15
theorem m_X7_seed {g : GX}  (a1 : Int32) (im : IM) : xMet g 0 yX7_seed cX7_seed 3 (some .int) [.ref (g.1 82), .int a1] im (eI (f_X7_seed a1 im)) := x_met (by decide) (Nat.le_of_ble_eq_true rfl) rfl (s_X7_seed a1 im) _ rfl
abbrev md_X7_feed : xM := (1, 4, RX7, cX7_feed, (some .int))
def f_X7_feed_l1b (a1 : Int32) (a2 : Int32)   (k41 : Int32 → IM → Option (Int32 × IM)) (x3 : Int32) (im : IM) : Option (Int32 × IM) :=
  if x3 < 0 then
    some ((im 82 16, im))
  else
    if inb (im 82 16) 120 = true then
      bnd (up im 89 (ix (im 82 16)) ((jshr a1 (8 * x3)) &&& 255)) fun m2 =>
      bnd (up m2 82 16 ((m2 82 16) + 1)) fun m3 =>
      bnd (x3 + (-1)) fun v4 =>
      k41 v4 m3
    else none
def f_X7_feed_l1 (a1 : Int32) (a2 : Int32)   : Nat → Int32 → IM → Option (Int32 × IM)
  | 0, _, _ => none
  | n + 1, x3, im => f_X7_feed_l1b a1 a2 (f_X7_feed_l1 a1 a2 n) x3 im
set_option maxRecDepth 20000 in
set_option maxHeartbeats 4000000 in
theorem s_X7_feed_l1b {g : GX} (a1 : Int32) (a2 : Int32)    (k41 : Int32 → IM → Option (Int32 × IM)) (hk41 : ∀ (x3 : Int32) (im : IM), X g md_X7_feed eI 41 [(0, .ref (g.1 82)), (1, .int a1), (3, .int x3)] [] im (k41 x3 im)) (x3 : Int32)  (im : IM) : X g md_X7_feed eI 41 [(0, .ref (g.1 82)), (1, .int a1), (3, .int x3)] [] im (f_X7_feed_l1b a1 a2 k41 x3 im) := by
  refine x_iload_n (q := 2) rfl rfl dX7_feed_41 ?_
  refine x_if_lt (tgt := 80) dX7_feed_42 (by decide) ?_ ?_
  · refine x_aload_n (q := 0) rfl rfl dX7_feed_80 ?_
    refine x_get (C := RX7) (T := TX7) sh_82 (by decide) rfl in_X7 16 (by decide) fl_X7_219 xf_7_16 dX7_feed_81 ?_
    exact x_iret rfl rfl dX7_feed_84
  · refine x_aload_n (q := 0) rfl rfl dX7_feed_45 ?_
    refine x_get (C := RX7) (T := TX7) sh_82 (by decide) rfl in_X7 15 (by decide) fl_X7_28 xf_7_15 dX7_feed_46 ?_
    refine x_aload_n (q := 0) rfl rfl dX7_feed_49 ?_
    refine x_get (C := RX7) (T := TX7) sh_82 (by decide) rfl in_X7 16 (by decide) fl_X7_219 xf_7_16 dX7_feed_50 ?_
    refine x_iload_n (q := 1) rfl rfl dX7_feed_53 ?_
    refine x_bipush (v := (8)) (by decide) dX7_feed_54 ?_
    refine x_iload_n (q := 2) rfl rfl dX7_feed_56 ?_
    refine x_imul dX7_feed_57 ?_
    refine x_ishr dX7_feed_58 ?_
    refine x_sipush (v := (255)) (by decide) dX7_feed_59 ?_
    refine x_iand dX7_feed_62 ?_
    refine x_iast sh_89 dX7_feed_63 ?_
    refine x_bm (fun m2 => ?_)
    refine x_aload_n (q := 0) rfl rfl dX7_feed_64 ?_
    refine x_dup rfl dX7_feed_65 ?_
    refine x_get (C := RX7) (T := TX7) sh_82 (by decide) rfl in_X7 16 (by decide) fl_X7_219 xf_7_16 dX7_feed_66 ?_
    refine x_iconst (v := (1)) (by decide) dX7_feed_69 ?_
    refine x_iadd dX7_feed_70 ?_
    refine x_put (C := RX7) (T := TX7) (ty := .int) tyX7 tyX7_ok nmX7 sh_82 (by decide) rfl in_X7 16 (by decide) (by decide) fl_X7_219 rfl (by decide +kernel) rfl rfl dX7_feed_71 ?_
    refine x_bm (fun m3 => ?_)
    refine x_iinc (q := 2) (a := (-1)) (lv' := fun v4 => [(3, .int v4), (0, .ref (g.1 82)), (1, .int a1)]) dX7_feed_74 rfl (by decide) (by decide) (fun _ => rfl) (fun v4 => ?_)
    refine x_goto (tgt := 41) dX7_feed_77 (by decide) ?_
    refine x_sub [1, 2, 0] rfl ?_
    exact hk41 v4 m3
set_option maxRecDepth 20000 in
set_option maxHeartbeats 4000000 in
theorem s_X7_feed_l1 {g : GX} (a1 : Int32) (a2 : Int32)    (n : Nat) : ∀ (x3 : Int32) (im : IM), X g md_X7_feed eI 41 [(0, .ref (g.1 82)), (1, .int a1), (3, .int x3)] [] im (f_X7_feed_l1 a1 a2 n x3 im) := by
  induction n with
  | zero => intro x3 im; exact x_none
  | succ n ih => intro x3 im; exact s_X7_feed_l1b a1 a2 (f_X7_feed_l1 a1 a2 n) ih x3 im
def f_X7_feed (a1 : Int32) (a2 : Int32) (im : IM) : Option (Int32 × IM) :=
  if (f_X7_in a2.toInt64 1 4) = 0 then
    (f_X7_finds ((-1000001)) im).bind fun r6 =>
    some ((r6.1, r6.2))
  else
    if ((im 82 16) + a2) ≤ 120 then
      bnd (a2 - 1) fun v1 =>
      f_X7_feed_l1 a1 a2 xF v1 im
    else
      (f_X7_finds ((-1000002)) im).bind fun r5 =>
      some ((r5.1, r5.2))
set_option maxRecDepth 20000 in
set_option maxHeartbeats 4000000 in
theorem s_X7_feed {g : GX}   (a1 : Int32) (a2 : Int32) (im : IM) : X g md_X7_feed eI 0 [(0, .ref (g.1 82)), (1, .int a1), (2, .int a2)] [] im (f_X7_feed a1 a2 im) := by
  refine x_iload_n (q := 2) rfl rfl dX7_feed_0 ?_
  refine x_i2l dX7_feed_1 ?_
  refine x_lconst (v := (1)) (by decide) dX7_feed_2 ?_
  refine x_ldc2 cl_X7_63 dX7_feed_3 ?_
  refine x_callSR (av := [.long a2.toInt64, .long 1, .long 4]) (st := []) (m_X7_in  a2.toInt64 1 4 im) rfl (by decide) (by decide) lk_X7_46 cd_X7_in xd_X7_in rfl (Nat.le_of_ble_eq_true rfl) dX7_feed_6 ?_
  refine x_if_ne (tgt := 19) dX7_feed_9 (by decide) ?_ ?_
  · refine x_aload_n (q := 0) rfl rfl dX7_feed_19 ?_
    refine x_get (C := RX7) (T := TX7) sh_82 (by decide) rfl in_X7 16 (by decide) fl_X7_219 xf_7_16 dX7_feed_20 ?_
    refine x_iload_n (q := 2) rfl rfl dX7_feed_23 ?_
    refine x_iadd dX7_feed_24 ?_
    refine x_bipush (v := (120)) (by decide) dX7_feed_25 ?_
    refine x_icmp_le (tgt := 37) dX7_feed_27 (by decide) ?_ ?_
    · refine x_iload_n (q := 2) rfl rfl dX7_feed_37 ?_
      refine x_iconst (v := (1)) (by decide) dX7_feed_38 ?_
      refine x_isub dX7_feed_39 ?_
      refine x_bi (fun v1 => ?_)
      refine x_istore_n (lv' := [(3, .int v1), (0, .ref (g.1 82)), (1, .int a1), (2, .int a2)]) rfl dX7_feed_40 (by decide) rfl ?_
      refine x_sub [1, 2, 0] rfl ?_
      exact s_X7_feed_l1 a1 a2 xF v1 im
    · refine x_aload_n (q := 0) rfl rfl dX7_feed_30 ?_
      refine x_ldc co_X7_84 dX7_feed_31 ?_
      refine x_bind (fun r5 er5 => ?_)
      refine x_callVI (av := [.int ((-1000002))]) (st := []) (m_X7_finds  (((-1000002))) im r5 er5) sh_82 (by decide) rfl rfl (by decide) (by decide) lk_X7_59 cd_X7_finds xd_X7_finds rfl (Nat.le_of_ble_eq_true rfl) dX7_feed_33 ?_
      exact x_iret rfl rfl dX7_feed_36
  · refine x_aload_n (q := 0) rfl rfl dX7_feed_12 ?_
    refine x_ldc co_X7_43 dX7_feed_13 ?_
    refine x_bind (fun r6 er6 => ?_)
    refine x_callVI (av := [.int ((-1000001))]) (st := []) (m_X7_finds  (((-1000001))) im r6 er6) sh_82 (by decide) rfl rfl (by decide) (by decide) lk_X7_59 cd_X7_finds xd_X7_finds rfl (Nat.le_of_ble_eq_true rfl) dX7_feed_15 ?_
    exact x_iret rfl rfl dX7_feed_18
theorem m_X7_feed {g : GX}   (a1 : Int32) (a2 : Int32) (im : IM) (r : Int32 × IM) (hr : f_X7_feed a1 a2 im = some r) : xMet g 1 yX7_feed cX7_feed 4 (some .int) [.ref (g.1 82), .int a1, .int a2] im (eI r) := x_met (by decide) (Nat.le_of_ble_eq_true rfl) rfl (s_X7_feed a1 a2 im) r hr
abbrev md_X7_wipe : xM := (0, 2, RX7, cX7_wipe, (some .int))
def f_X7_wipe  (im : IM) : Int32 × IM :=
  bnd (im 82 16) fun v1 =>
  bnd (up im 82 16 0) fun m2 =>
  ((v1, m2))
set_option maxRecDepth 20000 in
set_option maxHeartbeats 4000000 in
theorem s_X7_wipe {g : GX}   (im : IM) : X g md_X7_wipe eI 0 [(0, .ref (g.1 82))] [] im (some (f_X7_wipe im)) := by
  refine x_aload_n (q := 0) rfl rfl dX7_wipe_0 ?_
  refine x_get (C := RX7) (T := TX7) sh_82 (by decide) rfl in_X7 16 (by decide) fl_X7_219 xf_7_16 dX7_wipe_1 ?_
  refine x_bs (x_bi (fun v1 => ?_))
  refine x_istore_n (lv' := [(1, .int v1), (0, .ref (g.1 82))]) rfl dX7_wipe_4 (by decide) rfl ?_
  refine x_aload_n (q := 1) rfl rfl dX7_wipe_5 ?_
  refine x_iconst (v := (0)) (by decide) dX7_wipe_6 ?_
  refine x_put (C := RX7) (T := TX7) (ty := .int) tyX7 tyX7_ok nmX7 sh_82 (by decide) rfl in_X7 16 (by decide) (by decide) fl_X7_219 rfl (by decide +kernel) rfl rfl dX7_wipe_7 ?_
  refine x_bs (x_bm (fun m2 => ?_))
  refine x_iload_n (q := 0) rfl rfl dX7_wipe_10 ?_
  exact x_iret rfl rfl dX7_wipe_11
theorem m_X7_wipe {g : GX}   (im : IM) : xMet g 0 yX7_wipe cX7_wipe 2 (some .int) [.ref (g.1 82)] im (eI (f_X7_wipe im)) := x_met (by decide) (Nat.le_of_ble_eq_true rfl) rfl (s_X7_wipe im) _ rfl
abbrev md_X7_byteAt : xM := (0, 2, RX7, cX7_byteAt, (some .int))
def f_X7_byteAt (a1 : Int32) (im : IM) : Option (Int32) :=
  if (im 82 16) ≤ a1 then
    some ((-1))
  else
    if inb a1 120 = true then
      some (im 89 (ix a1))
    else none
set_option maxRecDepth 20000 in
set_option maxHeartbeats 4000000 in
theorem s_X7_byteAt {g : GX}  (a1 : Int32) (im : IM) : X g md_X7_byteAt (eR im) 0 [(0, .ref (g.1 82)), (1, .int a1)] [] im (f_X7_byteAt a1 im) := by
  refine x_iload_n (q := 1) rfl rfl dX7_byteAt_0 ?_
  refine x_aload_n (q := 0) rfl rfl dX7_byteAt_1 ?_
  refine x_get (C := RX7) (T := TX7) sh_82 (by decide) rfl in_X7 16 (by decide) fl_X7_219 xf_7_16 dX7_byteAt_2 ?_
  refine x_icmp_ge (tgt := 17) dX7_byteAt_5 (by decide) ?_ ?_
  · refine x_iconst (v := (-1)) (by decide) dX7_byteAt_17 ?_
    exact x_iret rfl rfl dX7_byteAt_18
  · refine x_aload_n (q := 0) rfl rfl dX7_byteAt_8 ?_
    refine x_get (C := RX7) (T := TX7) sh_82 (by decide) rfl in_X7 15 (by decide) fl_X7_28 xf_7_15 dX7_byteAt_9 ?_
    refine x_iload_n (q := 1) rfl rfl dX7_byteAt_12 ?_
    refine x_iald sh_89 dX7_byteAt_13 ?_
    refine x_goto (tgt := 18) dX7_byteAt_14 (by decide) ?_
    exact x_iret rfl rfl dX7_byteAt_18
theorem m_X7_byteAt {g : GX}  (a1 : Int32) (im : IM) (r : Int32) (hr : f_X7_byteAt a1 im = some r) : xMet g 0 yX7_byteAt cX7_byteAt 2 (some .int) [.ref (g.1 82), .int a1] im ((eR im) r) := x_met (by decide) (Nat.le_of_ble_eq_true rfl) rfl (s_X7_byteAt a1 im) r hr
abbrev md_X7_isLetter : xM := (1, 1, RX7, cX7_isLetter, (some .boolean))
def f_X7_isLetter (a0 : Int32)  : Int32 :=
  (zb (f_X7_in a0.toInt64 97 122))
set_option maxRecDepth 20000 in
set_option maxHeartbeats 4000000 in
theorem s_X7_isLetter {g : GX}  (a0 : Int32) (im : IM) : X g md_X7_isLetter (eR im) 0 [(0, .int a0)] [] im (some (f_X7_isLetter a0)) := by
  refine x_iload_n (q := 0) rfl rfl dX7_isLetter_0 ?_
  refine x_i2l dX7_isLetter_1 ?_
  refine x_ldc2 cl_X7_222 dX7_isLetter_2 ?_
  refine x_ldc2 cl_X7_224 dX7_isLetter_5 ?_
  refine x_callSR (av := [.long a0.toInt64, .long 97, .long 122]) (st := []) (m_X7_in  a0.toInt64 97 122 im) rfl (by decide) (by decide) lk_X7_46 cd_X7_in xd_X7_in rfl (Nat.le_of_ble_eq_true rfl) dX7_isLetter_8 ?_
  exact x_nret (y := zb (f_X7_in a0.toInt64 97 122)) rfl rfl rfl dX7_isLetter_11
theorem m_X7_isLetter {g : GX}  (a0 : Int32) (im : IM) : xMet g 1 yX7_isLetter cX7_isLetter 1 (some .boolean) [.int a0] im ((eR im) (f_X7_isLetter a0)) := x_met (by decide) (Nat.le_of_ble_eq_true rfl) rfl (s_X7_isLetter a0 im) _ rfl
abbrev md_X7_isDigit : xM := (1, 1, RX7, cX7_isDigit, (some .boolean))
def f_X7_isDigit (a0 : Int32)  : Int32 :=
  (zb (f_X7_in a0.toInt64 48 57))
set_option maxRecDepth 20000 in
set_option maxHeartbeats 4000000 in
theorem s_X7_isDigit {g : GX}  (a0 : Int32) (im : IM) : X g md_X7_isDigit (eR im) 0 [(0, .int a0)] [] im (some (f_X7_isDigit a0)) := by
  refine x_iload_n (q := 0) rfl rfl dX7_isDigit_0 ?_
  refine x_i2l dX7_isDigit_1 ?_
  refine x_ldc2 cl_X7_226 dX7_isDigit_2 ?_
  refine x_ldc2 cl_X7_228 dX7_isDigit_5 ?_
  refine x_callSR (av := [.long a0.toInt64, .long 48, .long 57]) (st := []) (m_X7_in  a0.toInt64 48 57 im) rfl (by decide) (by decide) lk_X7_46 cd_X7_in xd_X7_in rfl (Nat.le_of_ble_eq_true rfl) dX7_isDigit_8 ?_
  exact x_nret (y := zb (f_X7_in a0.toInt64 48 57)) rfl rfl rfl dX7_isDigit_11
theorem m_X7_isDigit {g : GX}  (a0 : Int32) (im : IM) : xMet g 1 yX7_isDigit cX7_isDigit 1 (some .boolean) [.int a0] im ((eR im) (f_X7_isDigit a0)) := x_met (by decide) (Nat.le_of_ble_eq_true rfl) rfl (s_X7_isDigit a0 im) _ rfl
abbrev md_X7_token : xM := (2, 3, RX7, cX7_token, none)
def f_X7_token_j5  (k86 : Int32 → Int32 → IM → Option (IM)) (x1 : Int32) (x2 : Int32) (im : IM) : Option (IM) :=
  bnd (up im 82 18 ((im 82 18) + 1)) fun m9 =>
  k86 x1 x2 m9
set_option maxRecDepth 20000 in
set_option maxHeartbeats 4000000 in
theorem s_X7_token_j5 {g : GX}  (k86 : Int32 → Int32 → IM → Option (IM)) (hk86 : ∀ (x1 : Int32) (x2 : Int32) (im : IM), X g md_X7_token eV 86 [(0, .ref (g.1 82)), (1, .int x1), (2, .int x2)] [] im (k86 x1 x2 im)) (x1 : Int32) (x2 : Int32)  (im : IM) : X g md_X7_token eV 122 [(0, .ref (g.1 82)), (1, .int x1), (2, .int x2)] [] im (f_X7_token_j5 k86 x1 x2 im) := by
  refine x_aload_n (q := 0) rfl rfl dX7_token_122 ?_
  refine x_dup rfl dX7_token_123 ?_
  refine x_get (C := RX7) (T := TX7) sh_82 (by decide) rfl in_X7 18 (by decide) fl_X7_230 xf_7_18 dX7_token_124 ?_
  refine x_iconst (v := (1)) (by decide) dX7_token_127 ?_
  refine x_iadd dX7_token_128 ?_
  refine x_put (C := RX7) (T := TX7) (ty := .int) tyX7 tyX7_ok nmX7 sh_82 (by decide) rfl in_X7 18 (by decide) (by decide) fl_X7_230 rfl (by decide +kernel) rfl rfl dX7_token_129 ?_
  refine x_bm (fun m9 => ?_)
  refine x_goto (tgt := 86) dX7_token_132 (by decide) ?_
  refine x_sub [0, 1, 2] rfl ?_
  exact hk86 x1 x2 m9
def f_X7_token_j4  (k86 : Int32 → Int32 → IM → Option (IM)) (x1 : Int32) (x2 : Int32) (im : IM) : Option (IM) :=
  if x2 = 0 then
    some im
  else
    (f_X7_byteAt (im 82 18) im).bind fun r8 =>
    if (f_X7_isDigit r8) = 0 then
      some im
    else
      f_X7_token_j5 k86 x1 x2 im
set_option maxRecDepth 20000 in
set_option maxHeartbeats 4000000 in
theorem s_X7_token_j4 {g : GX}  (k86 : Int32 → Int32 → IM → Option (IM)) (hk86 : ∀ (x1 : Int32) (x2 : Int32) (im : IM), X g md_X7_token eV 86 [(0, .ref (g.1 82)), (1, .int x1), (2, .int x2)] [] im (k86 x1 x2 im)) (x1 : Int32) (x2 : Int32)  (im : IM) : X g md_X7_token eV 104 [(0, .ref (g.1 82)), (1, .int x1), (2, .int x2)] [] im (f_X7_token_j4 k86 x1 x2 im) := by
  refine x_iload_n (q := 2) rfl rfl dX7_token_104 ?_
  refine x_if_eq (tgt := 135) dX7_token_105 (by decide) ?_ ?_
  · exact x_vret rfl rfl dX7_token_135
  · refine x_aload_n (q := 0) rfl rfl dX7_token_108 ?_
    refine x_aload_n (q := 0) rfl rfl dX7_token_109 ?_
    refine x_get (C := RX7) (T := TX7) sh_82 (by decide) rfl in_X7 18 (by decide) fl_X7_230 xf_7_18 dX7_token_110 ?_
    refine x_bind (fun r8 er8 => ?_)
    refine x_callVR (av := [.int (im 82 18)]) (st := []) (m_X7_byteAt  ((im 82 18)) im r8 er8) sh_82 (by decide) rfl rfl (by decide) (by decide) lk_X7_236 cd_X7_byteAt xd_X7_byteAt rfl (Nat.le_of_ble_eq_true rfl) dX7_token_113 ?_
    refine x_callSR (av := [.int r8]) (st := []) (m_X7_isDigit  r8 im) rfl (by decide) (by decide) lk_X7_242 cd_X7_isDigit xd_X7_isDigit rfl (Nat.le_of_ble_eq_true rfl) dX7_token_116 ?_
    refine x_if_eq (tgt := 135) dX7_token_119 (by decide) ?_ ?_
    · exact x_vret rfl rfl dX7_token_135
    · refine x_sub [0, 1, 2] rfl ?_
      exact s_X7_token_j5 k86 hk86 x1 x2 im
def f_X7_token_l3b    (k86 : Int32 → Int32 → IM → Option (IM)) (x1 : Int32) (x2 : Int32) (im : IM) : Option (IM) :=
  if x1 = 0 then
    f_X7_token_j4 k86 x1 x2 im
  else
    (f_X7_byteAt (im 82 18) im).bind fun r10 =>
    if (f_X7_isLetter r10) = 0 then
      f_X7_token_j4 k86 x1 x2 im
    else
      f_X7_token_j5 k86 x1 x2 im
def f_X7_token_l3    : Nat → Int32 → Int32 → IM → Option (IM)
  | 0, _, _, _ => none
  | n + 1, x1, x2, im => f_X7_token_l3b (f_X7_token_l3 n) x1 x2 im
set_option maxRecDepth 20000 in
set_option maxHeartbeats 4000000 in
theorem s_X7_token_l3b {g : GX}    (k86 : Int32 → Int32 → IM → Option (IM)) (hk86 : ∀ (x1 : Int32) (x2 : Int32) (im : IM), X g md_X7_token eV 86 [(0, .ref (g.1 82)), (1, .int x1), (2, .int x2)] [] im (k86 x1 x2 im)) (x1 : Int32) (x2 : Int32)  (im : IM) : X g md_X7_token eV 86 [(0, .ref (g.1 82)), (1, .int x1), (2, .int x2)] [] im (f_X7_token_l3b k86 x1 x2 im) := by
  refine x_iload_n (q := 1) rfl rfl dX7_token_86 ?_
  refine x_if_eq (tgt := 104) dX7_token_87 (by decide) ?_ ?_
  · refine x_sub [0, 1, 2] rfl ?_
    exact s_X7_token_j4 k86 hk86 x1 x2 im
  · refine x_aload_n (q := 0) rfl rfl dX7_token_90 ?_
    refine x_aload_n (q := 0) rfl rfl dX7_token_91 ?_
    refine x_get (C := RX7) (T := TX7) sh_82 (by decide) rfl in_X7 18 (by decide) fl_X7_230 xf_7_18 dX7_token_92 ?_
    refine x_bind (fun r10 er10 => ?_)
    refine x_callVR (av := [.int (im 82 18)]) (st := []) (m_X7_byteAt  ((im 82 18)) im r10 er10) sh_82 (by decide) rfl rfl (by decide) (by decide) lk_X7_236 cd_X7_byteAt xd_X7_byteAt rfl (Nat.le_of_ble_eq_true rfl) dX7_token_95 ?_
    refine x_callSR (av := [.int r10]) (st := []) (m_X7_isLetter  r10 im) rfl (by decide) (by decide) lk_X7_239 cd_X7_isLetter xd_X7_isLetter rfl (Nat.le_of_ble_eq_true rfl) dX7_token_98 ?_
    refine x_if_ne (tgt := 122) dX7_token_101 (by decide) ?_ ?_
    · refine x_sub [0, 1, 2] rfl ?_
      exact s_X7_token_j5 k86 hk86 x1 x2 im
    · refine x_sub [0, 1, 2] rfl ?_
      exact s_X7_token_j4 k86 hk86 x1 x2 im
set_option maxRecDepth 20000 in
set_option maxHeartbeats 4000000 in
theorem s_X7_token_l3 {g : GX}    (n : Nat) : ∀ (x1 : Int32) (x2 : Int32) (im : IM), X g md_X7_token eV 86 [(0, .ref (g.1 82)), (1, .int x1), (2, .int x2)] [] im (f_X7_token_l3 n x1 x2 im) := by
  induction n with
  | zero => intro x1 x2 im; exact x_none
  | succ n ih => intro x1 x2 im; exact s_X7_token_l3b (f_X7_token_l3 n) ih x1 x2 im
def f_X7_token_j2   (x1 : Int32) (x2 : Int32) (s0 : Int32) (im : IM) : Option (IM) :=
  bnd (up im 82 18 s0) fun m7 =>
  f_X7_token_l3 xF x1 x2 m7
set_option maxRecDepth 20000 in
set_option maxHeartbeats 4000000 in
theorem s_X7_token_j2 {g : GX}    (x1 : Int32) (x2 : Int32) (s0 : Int32)  (im : IM) : X g md_X7_token eV 83 [(0, .ref (g.1 82)), (1, .int x1), (2, .int x2)] [.int s0, .ref (g.1 82)] im (f_X7_token_j2 x1 x2 s0 im) := by
  refine x_put (C := RX7) (T := TX7) (ty := .int) tyX7 tyX7_ok nmX7 sh_82 (by decide) rfl in_X7 18 (by decide) (by decide) fl_X7_230 rfl (by decide +kernel) rfl rfl dX7_token_83 ?_
  refine x_bm (fun m7 => ?_)
  refine x_sub [0, 1, 2] rfl ?_
  exact s_X7_token_l3 xF x1 x2 m7
def f_X7_token_l1b    (k8 : IM → Option (IM))  (im : IM) : Option (IM) :=
  (f_X7_byteAt (im 82 17) im).bind fun r2 =>
  if r2 = 32 then
    bnd (up im 82 17 ((im 82 17) + 1)) fun m11 =>
    k8 m11
  else
    (f_X7_byteAt (im 82 17) im).bind fun r3 =>
    bnd (f_X7_isLetter r3) fun v4 =>
    (f_X7_byteAt (im 82 17) im).bind fun r5 =>
    bnd (f_X7_isDigit r5) fun v6 =>
    if (im 82 16) ≤ (im 82 17) then
      f_X7_token_j2 v4 v6 (im 82 17) im
    else
      f_X7_token_j2 v4 v6 ((im 82 17) + 1) im
def f_X7_token_l1    : Nat → IM → Option (IM)
  | 0, _ => none
  | n + 1, im => f_X7_token_l1b (f_X7_token_l1 n) im
set_option maxRecDepth 20000 in
set_option maxHeartbeats 4000000 in
theorem s_X7_token_l1b {g : GX}    (k8 : IM → Option (IM)) (hk8 : ∀ (im : IM), X g md_X7_token eV 8 [(0, .ref (g.1 82))] [] im (k8 im))   (im : IM) : X g md_X7_token eV 8 [(0, .ref (g.1 82))] [] im (f_X7_token_l1b k8 im) := by
  refine x_aload_n (q := 0) rfl rfl dX7_token_8 ?_
  refine x_aload_n (q := 0) rfl rfl dX7_token_9 ?_
  refine x_get (C := RX7) (T := TX7) sh_82 (by decide) rfl in_X7 17 (by decide) fl_X7_233 xf_7_17 dX7_token_10 ?_
  refine x_bind (fun r2 er2 => ?_)
  refine x_callVR (av := [.int (im 82 17)]) (st := []) (m_X7_byteAt  ((im 82 17)) im r2 er2) sh_82 (by decide) rfl rfl (by decide) (by decide) lk_X7_236 cd_X7_byteAt xd_X7_byteAt rfl (Nat.le_of_ble_eq_true rfl) dX7_token_13 ?_
  refine x_bipush (v := (32)) (by decide) dX7_token_16 ?_
  refine x_icmp_ne (tgt := 34) dX7_token_18 (by decide) ?_ ?_
  · refine x_aload_n (q := 0) rfl rfl dX7_token_34 ?_
    refine x_aload_n (q := 0) rfl rfl dX7_token_35 ?_
    refine x_get (C := RX7) (T := TX7) sh_82 (by decide) rfl in_X7 17 (by decide) fl_X7_233 xf_7_17 dX7_token_36 ?_
    refine x_bind (fun r3 er3 => ?_)
    refine x_callVR (av := [.int (im 82 17)]) (st := []) (m_X7_byteAt  ((im 82 17)) im r3 er3) sh_82 (by decide) rfl rfl (by decide) (by decide) lk_X7_236 cd_X7_byteAt xd_X7_byteAt rfl (Nat.le_of_ble_eq_true rfl) dX7_token_39 ?_
    refine x_callSR (av := [.int r3]) (st := []) (m_X7_isLetter  r3 im) rfl (by decide) (by decide) lk_X7_239 cd_X7_isLetter xd_X7_isLetter rfl (Nat.le_of_ble_eq_true rfl) dX7_token_42 ?_
    refine x_bi (fun v4 => ?_)
    refine x_istore_n (lv' := [(1, .int v4), (0, .ref (g.1 82))]) rfl dX7_token_45 (by decide) rfl ?_
    refine x_aload_n (q := 1) rfl rfl dX7_token_46 ?_
    refine x_aload_n (q := 1) rfl rfl dX7_token_47 ?_
    refine x_get (C := RX7) (T := TX7) sh_82 (by decide) rfl in_X7 17 (by decide) fl_X7_233 xf_7_17 dX7_token_48 ?_
    refine x_bind (fun r5 er5 => ?_)
    refine x_callVR (av := [.int (im 82 17)]) (st := []) (m_X7_byteAt  ((im 82 17)) im r5 er5) sh_82 (by decide) rfl rfl (by decide) (by decide) lk_X7_236 cd_X7_byteAt xd_X7_byteAt rfl (Nat.le_of_ble_eq_true rfl) dX7_token_51 ?_
    refine x_callSR (av := [.int r5]) (st := []) (m_X7_isDigit  r5 im) rfl (by decide) (by decide) lk_X7_242 cd_X7_isDigit xd_X7_isDigit rfl (Nat.le_of_ble_eq_true rfl) dX7_token_54 ?_
    refine x_bi (fun v6 => ?_)
    refine x_istore_n (lv' := [(2, .int v6), (1, .int v4), (0, .ref (g.1 82))]) rfl dX7_token_57 (by decide) rfl ?_
    refine x_aload_n (q := 2) rfl rfl dX7_token_58 ?_
    refine x_aload_n (q := 2) rfl rfl dX7_token_59 ?_
    refine x_get (C := RX7) (T := TX7) sh_82 (by decide) rfl in_X7 17 (by decide) fl_X7_233 xf_7_17 dX7_token_60 ?_
    refine x_aload_n (q := 2) rfl rfl dX7_token_63 ?_
    refine x_get (C := RX7) (T := TX7) sh_82 (by decide) rfl in_X7 16 (by decide) fl_X7_219 xf_7_16 dX7_token_64 ?_
    refine x_icmp_ge (tgt := 79) dX7_token_67 (by decide) ?_ ?_
    · refine x_aload_n (q := 2) rfl rfl dX7_token_79 ?_
      refine x_get (C := RX7) (T := TX7) sh_82 (by decide) rfl in_X7 17 (by decide) fl_X7_233 xf_7_17 dX7_token_80 ?_
      refine x_sub [2, 1, 0] rfl ?_
      exact s_X7_token_j2 v4 v6 (im 82 17) im
    · refine x_aload_n (q := 2) rfl rfl dX7_token_70 ?_
      refine x_get (C := RX7) (T := TX7) sh_82 (by decide) rfl in_X7 17 (by decide) fl_X7_233 xf_7_17 dX7_token_71 ?_
      refine x_iconst (v := (1)) (by decide) dX7_token_74 ?_
      refine x_iadd dX7_token_75 ?_
      refine x_goto (tgt := 83) dX7_token_76 (by decide) ?_
      refine x_sub [2, 1, 0] rfl ?_
      exact s_X7_token_j2 v4 v6 ((im 82 17) + 1) im
  · refine x_aload_n (q := 0) rfl rfl dX7_token_21 ?_
    refine x_dup rfl dX7_token_22 ?_
    refine x_get (C := RX7) (T := TX7) sh_82 (by decide) rfl in_X7 17 (by decide) fl_X7_233 xf_7_17 dX7_token_23 ?_
    refine x_iconst (v := (1)) (by decide) dX7_token_26 ?_
    refine x_iadd dX7_token_27 ?_
    refine x_put (C := RX7) (T := TX7) (ty := .int) tyX7 tyX7_ok nmX7 sh_82 (by decide) rfl in_X7 17 (by decide) (by decide) fl_X7_233 rfl (by decide +kernel) rfl rfl dX7_token_28 ?_
    refine x_bm (fun m11 => ?_)
    refine x_goto (tgt := 8) dX7_token_31 (by decide) ?_
    refine x_sub [0] rfl ?_
    exact hk8 m11
set_option maxRecDepth 20000 in
set_option maxHeartbeats 4000000 in
theorem s_X7_token_l1 {g : GX}    (n : Nat) : ∀ (im : IM), X g md_X7_token eV 8 [(0, .ref (g.1 82))] [] im (f_X7_token_l1 n im) := by
  induction n with
  | zero => intro im; exact x_none
  | succ n ih => intro im; exact s_X7_token_l1b (f_X7_token_l1 n) ih im
def f_X7_token  (im : IM) : Option (IM) :=
  bnd (up im 82 17 (im 82 18)) fun m1 =>
  f_X7_token_l1 xF m1
set_option maxRecDepth 20000 in
set_option maxHeartbeats 4000000 in
theorem s_X7_token {g : GX}   (im : IM) : X g md_X7_token eV 0 [(0, .ref (g.1 82))] [] im (f_X7_token im) := by
  refine x_aload_n (q := 0) rfl rfl dX7_token_0 ?_
  refine x_aload_n (q := 0) rfl rfl dX7_token_1 ?_
  refine x_get (C := RX7) (T := TX7) sh_82 (by decide) rfl in_X7 18 (by decide) fl_X7_230 xf_7_18 dX7_token_2 ?_
  refine x_put (C := RX7) (T := TX7) (ty := .int) tyX7 tyX7_ok nmX7 sh_82 (by decide) rfl in_X7 17 (by decide) (by decide) fl_X7_233 rfl (by decide +kernel) rfl rfl dX7_token_5 ?_
  refine x_bm (fun m1 => ?_)
  refine x_sub [0] rfl ?_
  exact s_X7_token_l1 xF m1
theorem m_X7_token {g : GX}   (im : IM) (r : IM) (hr : f_X7_token im = some r) : xMet g 2 yX7_token cX7_token 3 none [.ref (g.1 82)] im (eV r) := x_met (by decide) (Nat.le_of_ble_eq_true rfl) rfl (s_X7_token im) r hr
abbrev md_X7_needs : xM := (3, 2, RX7, cX7_needs, none)
def f_X7_needs_j2 (a1 : Int32)  (s0 : Int32) (im : IM) : Option (IM) :=
  if isb s0 = true then
    bnd (up im 82 20 s0) fun m2 =>
    if (m2 82 20) = 0 then
      (f_X7_token m2).bind fun r3 =>
      some r3
    else
      some m2
  else none
set_option maxRecDepth 20000 in
set_option maxHeartbeats 4000000 in
theorem s_X7_needs_j2 {g : GX} (a1 : Int32)    (s0 : Int32)  (im : IM) : X g md_X7_needs eV 17 [(0, .ref (g.1 82))] [.int s0, .ref (g.1 82)] im (f_X7_needs_j2 a1 s0 im) := by
  refine x_isb (fun hb1 => ?_)
  refine x_put (C := RX7) (T := TX7) (ty := .boolean) tyX7 tyX7_ok nmX7 sh_82 (by decide) rfl in_X7 20 (by decide) (by decide) fl_X7_245 rfl (by decide +kernel) (isb_n hb1) (isb_f hb1) dX7_needs_17 ?_
  refine x_bm (fun m2 => ?_)
  refine x_aload_n (q := 0) rfl rfl dX7_needs_20 ?_
  refine x_get (C := RX7) (T := TX7) sh_82 (by decide) rfl in_X7 20 (by decide) fl_X7_245 xf_7_20 dX7_needs_21 ?_
  refine x_if_ne (tgt := 31) dX7_needs_24 (by decide) ?_ ?_
  · exact x_vret rfl rfl dX7_needs_31
  · refine x_aload_n (q := 0) rfl rfl dX7_needs_27 ?_
    refine x_bind (fun r3 er3 => ?_)
    refine x_callVV (av := []) (st := []) (m_X7_token   m2 r3 er3) sh_82 (by decide) rfl rfl (by decide) (by decide) lk_X7_249 cd_X7_token xd_X7_token rfl (Nat.le_of_ble_eq_true rfl) dX7_needs_28 ?_
    exact x_vret rfl rfl dX7_needs_31
def f_X7_needs_j1 (a1 : Int32)   (im : IM) : Option (IM) :=
  f_X7_needs_j2 a1 1 im
set_option maxRecDepth 20000 in
set_option maxHeartbeats 4000000 in
theorem s_X7_needs_j1 {g : GX} (a1 : Int32)      (im : IM) : X g md_X7_needs eV 12 [(0, .ref (g.1 82))] [.ref (g.1 82)] im (f_X7_needs_j1 a1 im) := by
  refine x_iconst (v := (1)) (by decide) dX7_needs_12 ?_
  refine x_goto (tgt := 17) dX7_needs_13 (by decide) ?_
  refine x_sub [0] rfl ?_
  exact s_X7_needs_j2 a1 1 im
def f_X7_needs (a1 : Int32) (im : IM) : Option (IM) :=
  if (im 82 20) = 0 then
    if a1 = 0 then
      f_X7_needs_j1 a1 im
    else
      f_X7_needs_j2 a1 0 im
  else
    f_X7_needs_j1 a1 im
set_option maxRecDepth 20000 in
set_option maxHeartbeats 4000000 in
theorem s_X7_needs {g : GX}  (a1 : Int32) (im : IM) : X g md_X7_needs eV 0 [(0, .ref (g.1 82)), (1, .int a1)] [] im (f_X7_needs a1 im) := by
  refine x_aload_n (q := 0) rfl rfl dX7_needs_0 ?_
  refine x_aload_n (q := 0) rfl rfl dX7_needs_1 ?_
  refine x_get (C := RX7) (T := TX7) sh_82 (by decide) rfl in_X7 20 (by decide) fl_X7_245 xf_7_20 dX7_needs_2 ?_
  refine x_if_ne (tgt := 12) dX7_needs_5 (by decide) ?_ ?_
  · refine x_sub [0] rfl ?_
    exact s_X7_needs_j1 a1 im
  · refine x_iload_n (q := 1) rfl rfl dX7_needs_8 ?_
    refine x_if_ne (tgt := 16) dX7_needs_9 (by decide) ?_ ?_
    · refine x_iconst (v := (0)) (by decide) dX7_needs_16 ?_
      refine x_sub [0] rfl ?_
      exact s_X7_needs_j2 a1 0 im
    · refine x_sub [0] rfl ?_
      exact s_X7_needs_j1 a1 im
theorem m_X7_needs {g : GX}  (a1 : Int32) (im : IM) (r : IM) (hr : f_X7_needs a1 im = some r) : xMet g 3 yX7_needs cX7_needs 2 none [.ref (g.1 82), .int a1] im (eV r) := x_met (by decide) (Nat.le_of_ble_eq_true rfl) rfl (s_X7_needs a1 im) r hr
abbrev md_X7_word : xM := (2, 4, RX7, cX7_word, (some .long))
def f_X7_word_j2    (im : IM) : Option (Int64) :=
  some 0
set_option maxRecDepth 20000 in
set_option maxHeartbeats 4000000 in
theorem s_X7_word_j2 {g : GX}   (im : IM)    : X g md_X7_word (eL im) 71 [] [] im (f_X7_word_j2 im) := by
  refine x_lconst (v := (0)) (by decide) dX7_word_71 ?_
  refine x_goto (tgt := 76) dX7_word_72 (by decide) ?_
  exact x_lret rfl rfl dX7_word_76
def f_X7_word_j3  (k7 : Int64 → Int32 → Option (Int64)) (x3 : Int32) (s0 : Int64) (im : IM) : Option (Int64) :=
  bnd (x3 + 1) fun v3 =>
  k7 s0 v3
set_option maxRecDepth 20000 in
set_option maxHeartbeats 4000000 in
theorem s_X7_word_j3 {g : GX}  (k7 : Int64 → Int32 → Option (Int64)) (im : IM) (hk7 : ∀ (x1 : Int64) (x3 : Int32), X g md_X7_word (eL im) 7 [(0, .ref (g.1 82)), (1, .long x1), (3, .int x3)] [] im (k7 x1 x3)) (x3 : Int32) (s0 : Int64)  : X g md_X7_word (eL im) 43 [(0, .ref (g.1 82)), (3, .int x3)] [.long s0] im (f_X7_word_j3 k7 x3 s0 im) := by
  refine x_lstore_n (lv' := [(1, .long s0), (0, .ref (g.1 82)), (3, .int x3)]) rfl dX7_word_43 (by decide) rfl ?_
  refine x_iinc (q := 2) (a := 1) (lv' := fun v3 => [(3, .int v3), (1, .long s0), (0, .ref (g.1 82))]) dX7_word_44 rfl (by decide) (by decide) (fun _ => rfl) (fun v3 => ?_)
  refine x_goto (tgt := 7) dX7_word_47 (by decide) ?_
  refine x_sub [2, 1, 0] rfl ?_
  exact hk7 s0 v3
def f_X7_word_l1b   (im : IM) (k7 : Int64 → Int32 → Option (Int64)) (x1 : Int64) (x3 : Int32)  : Option (Int64) :=
  if (im 82 18) ≤ x3 then
    if (im 82 20) = 0 then
      (f_X7_byteAt (im 82 17) im).bind fun r2 =>
      if (f_X7_isLetter r2) = 0 then
        f_X7_word_j2 im
      else
        some x1
    else
      f_X7_word_j2 im
  else
    if (lg_cmp x1 36028797018963967) ≤ 0 then
      if inb x3 120 = true then
        f_X7_word_j3 k7 x3 ((32 * x1) + (((im 89 (ix x3)) - 96).toInt64)) im
      else none
    else
      f_X7_word_j3 k7 x3 x1 im
def f_X7_word_l1   (im : IM) : Nat → Int64 → Int32 → Option (Int64)
  | 0, _, _ => none
  | n + 1, x1, x3 => f_X7_word_l1b im (f_X7_word_l1 im n) x1 x3
set_option maxRecDepth 20000 in
set_option maxHeartbeats 4000000 in
theorem s_X7_word_l1b {g : GX}   (im : IM)  (k7 : Int64 → Int32 → Option (Int64)) (hk7 : ∀ (x1 : Int64) (x3 : Int32), X g md_X7_word (eL im) 7 [(0, .ref (g.1 82)), (1, .long x1), (3, .int x3)] [] im (k7 x1 x3)) (x1 : Int64) (x3 : Int32)  : X g md_X7_word (eL im) 7 [(0, .ref (g.1 82)), (1, .long x1), (3, .int x3)] [] im (f_X7_word_l1b im k7 x1 x3) := by
  refine x_iload_n (q := 2) rfl rfl dX7_word_7 ?_
  refine x_aload_n (q := 0) rfl rfl dX7_word_8 ?_
  refine x_get (C := RX7) (T := TX7) sh_82 (by decide) rfl in_X7 18 (by decide) fl_X7_230 xf_7_18 dX7_word_9 ?_
  refine x_icmp_ge (tgt := 50) dX7_word_12 (by decide) ?_ ?_
  · refine x_aload_n (q := 0) rfl rfl dX7_word_50 ?_
    refine x_get (C := RX7) (T := TX7) sh_82 (by decide) rfl in_X7 20 (by decide) fl_X7_245 xf_7_20 dX7_word_51 ?_
    refine x_if_ne (tgt := 71) dX7_word_54 (by decide) ?_ ?_
    · refine x_sub [] rfl ?_
      exact s_X7_word_j2 im
    · refine x_aload_n (q := 0) rfl rfl dX7_word_57 ?_
      refine x_aload_n (q := 0) rfl rfl dX7_word_58 ?_
      refine x_get (C := RX7) (T := TX7) sh_82 (by decide) rfl in_X7 17 (by decide) fl_X7_233 xf_7_17 dX7_word_59 ?_
      refine x_bind (fun r2 er2 => ?_)
      refine x_callVR (av := [.int (im 82 17)]) (st := []) (m_X7_byteAt  ((im 82 17)) im r2 er2) sh_82 (by decide) rfl rfl (by decide) (by decide) lk_X7_236 cd_X7_byteAt xd_X7_byteAt rfl (Nat.le_of_ble_eq_true rfl) dX7_word_62 ?_
      refine x_callSR (av := [.int r2]) (st := []) (m_X7_isLetter  r2 im) rfl (by decide) (by decide) lk_X7_239 cd_X7_isLetter xd_X7_isLetter rfl (Nat.le_of_ble_eq_true rfl) dX7_word_65 ?_
      refine x_if_ne (tgt := 75) dX7_word_68 (by decide) ?_ ?_
      · refine x_lload_n (q := 1) rfl rfl dX7_word_75 ?_
        exact x_lret rfl rfl dX7_word_76
      · refine x_sub [] rfl ?_
        exact s_X7_word_j2 im
  · refine x_lload_n (q := 1) rfl rfl dX7_word_15 ?_
    refine x_ldc2 cl_X7_252 dX7_word_16 ?_
    refine x_lcmp dX7_word_19 ?_
    refine x_if_le (tgt := 27) dX7_word_20 (by decide) ?_ ?_
    · refine x_ldc2 cl_X7_254 dX7_word_27 ?_
      refine x_lload_n (q := 1) rfl rfl dX7_word_30 ?_
      refine x_lmul dX7_word_31 ?_
      refine x_aload_n (q := 0) rfl rfl dX7_word_32 ?_
      refine x_get (C := RX7) (T := TX7) sh_82 (by decide) rfl in_X7 15 (by decide) fl_X7_28 xf_7_15 dX7_word_33 ?_
      refine x_iload_n (q := 2) rfl rfl dX7_word_36 ?_
      refine x_iald sh_89 dX7_word_37 ?_
      refine x_bipush (v := (96)) (by decide) dX7_word_38 ?_
      refine x_isub dX7_word_40 ?_
      refine x_i2l dX7_word_41 ?_
      refine x_ladd dX7_word_42 ?_
      refine x_sub [0, 2] rfl ?_
      exact s_X7_word_j3 k7 im hk7 x3 ((32 * x1) + (((im 89 (ix x3)) - 96).toInt64))
    · refine x_lload_n (q := 1) rfl rfl dX7_word_23 ?_
      refine x_goto (tgt := 43) dX7_word_24 (by decide) ?_
      refine x_sub [0, 2] rfl ?_
      exact s_X7_word_j3 k7 im hk7 x3 x1
set_option maxRecDepth 20000 in
set_option maxHeartbeats 4000000 in
theorem s_X7_word_l1 {g : GX}   (im : IM)  (n : Nat) : ∀ (x1 : Int64) (x3 : Int32), X g md_X7_word (eL im) 7 [(0, .ref (g.1 82)), (1, .long x1), (3, .int x3)] [] im (f_X7_word_l1 im n x1 x3) := by
  induction n with
  | zero => intro x1 x3; exact x_none
  | succ n ih => intro x1 x3; exact s_X7_word_l1b im (f_X7_word_l1 im n) ih x1 x3
def f_X7_word  (im : IM) : Option (Int64) :=
  bnd (im 82 17) fun v1 =>
  f_X7_word_l1 im xF 0 v1
set_option maxRecDepth 20000 in
set_option maxHeartbeats 4000000 in
theorem s_X7_word {g : GX}   (im : IM) : X g md_X7_word (eL im) 0 [(0, .ref (g.1 82))] [] im (f_X7_word im) := by
  refine x_lconst (v := (0)) (by decide) dX7_word_0 ?_
  refine x_lstore_n (lv' := [(1, .long 0), (0, .ref (g.1 82))]) rfl dX7_word_1 (by decide) rfl ?_
  refine x_aload_n (q := 1) rfl rfl dX7_word_2 ?_
  refine x_get (C := RX7) (T := TX7) sh_82 (by decide) rfl in_X7 17 (by decide) fl_X7_233 xf_7_17 dX7_word_3 ?_
  refine x_bi (fun v1 => ?_)
  refine x_istore_n (lv' := [(3, .int v1), (1, .long 0), (0, .ref (g.1 82))]) rfl dX7_word_6 (by decide) rfl ?_
  refine x_sub [2, 1, 0] rfl ?_
  exact s_X7_word_l1 im xF 0 v1
theorem m_X7_word {g : GX}   (im : IM) (r : Int64) (hr : f_X7_word im = some r) : xMet g 2 yX7_word cX7_word 4 (some .long) [.ref (g.1 82)] im ((eL im) r) := x_met (by decide) (Nat.le_of_ble_eq_true rfl) rfl (s_X7_word im) r hr
abbrev md_X7_number : xM := (4, 6, RX7, cX7_number, none)
def f_X7_number_j4 (a1 : Int32) (a2 : Int32)  (s0 : Int32) (im : IM) : Option (IM) :=
  (f_X7_needs s0 im).bind fun r5 =>
  some r5
set_option maxRecDepth 20000 in
set_option maxHeartbeats 4000000 in
theorem s_X7_number_j4 {g : GX} (a1 : Int32) (a2 : Int32)    (s0 : Int32)  (im : IM) : X g md_X7_number eV 108 [] [.int s0, .ref (g.1 82)] im (f_X7_number_j4 a1 a2 s0 im) := by
  refine x_bind (fun r5 er5 => ?_)
  refine x_callVV (av := [.int s0]) (st := []) (m_X7_needs  s0 im r5 er5) sh_82 (by decide) rfl rfl (by decide) (by decide) lk_X7_259 cd_X7_needs xd_X7_needs rfl (Nat.le_of_ble_eq_true rfl) dX7_number_108 ?_
  exact x_vret rfl rfl dX7_number_111
def f_X7_number_j3 (a1 : Int32) (a2 : Int32)   (im : IM) : Option (IM) :=
  f_X7_number_j4 a1 a2 0 im
set_option maxRecDepth 20000 in
set_option maxHeartbeats 4000000 in
theorem s_X7_number_j3 {g : GX} (a1 : Int32) (a2 : Int32)      (im : IM) : X g md_X7_number eV 107 [] [.ref (g.1 82)] im (f_X7_number_j3 a1 a2 im) := by
  refine x_iconst (v := (0)) (by decide) dX7_number_107 ?_
  refine x_sub [] rfl ?_
  exact s_X7_number_j4 a1 a2 0 im
def f_X7_number_j2 (a1 : Int32) (a2 : Int32)  (x3 : Int32) (x4 : Int32) (im : IM) : Option (IM) :=
  bnd (up im 82 19 x4) fun m4 =>
  if x3 = 0 then
    f_X7_number_j3 a1 a2 m4
  else
    if (f_X7_in x4.toInt64 a1.toInt64 a2.toInt64) = 0 then
      f_X7_number_j3 a1 a2 m4
    else
      f_X7_number_j4 a1 a2 1 m4
set_option maxRecDepth 20000 in
set_option maxHeartbeats 4000000 in
theorem s_X7_number_j2 {g : GX} (a1 : Int32) (a2 : Int32)    (x3 : Int32) (x4 : Int32)  (im : IM) : X g md_X7_number eV 79 [(0, .ref (g.1 82)), (1, .int a1), (2, .int a2), (3, .int x3), (4, .int x4)] [] im (f_X7_number_j2 a1 a2 x3 x4 im) := by
  refine x_aload_n (q := 0) rfl rfl dX7_number_79 ?_
  refine x_iload (q := 4) rfl dX7_number_80 ?_
  refine x_put (C := RX7) (T := TX7) (ty := .int) tyX7 tyX7_ok nmX7 sh_82 (by decide) rfl in_X7 19 (by decide) (by decide) fl_X7_256 rfl (by decide +kernel) rfl rfl dX7_number_82 ?_
  refine x_bm (fun m4 => ?_)
  refine x_aload_n (q := 0) rfl rfl dX7_number_85 ?_
  refine x_iload_n (q := 3) rfl rfl dX7_number_86 ?_
  refine x_if_eq (tgt := 107) dX7_number_87 (by decide) ?_ ?_
  · refine x_sub [] rfl ?_
    exact s_X7_number_j3 a1 a2 m4
  · refine x_iload (q := 4) rfl dX7_number_90 ?_
    refine x_i2l dX7_number_92 ?_
    refine x_iload_n (q := 1) rfl rfl dX7_number_93 ?_
    refine x_i2l dX7_number_94 ?_
    refine x_iload_n (q := 2) rfl rfl dX7_number_95 ?_
    refine x_i2l dX7_number_96 ?_
    refine x_callSR (av := [.long x4.toInt64, .long a1.toInt64, .long a2.toInt64]) (st := [.ref (g.1 82)]) (m_X7_in  x4.toInt64 a1.toInt64 a2.toInt64 m4) rfl (by decide) (by decide) lk_X7_46 cd_X7_in xd_X7_in rfl (Nat.le_of_ble_eq_true rfl) dX7_number_97 ?_
    refine x_if_eq (tgt := 107) dX7_number_100 (by decide) ?_ ?_
    · refine x_sub [] rfl ?_
      exact s_X7_number_j3 a1 a2 m4
    · refine x_iconst (v := (1)) (by decide) dX7_number_103 ?_
      refine x_goto (tgt := 108) dX7_number_104 (by decide) ?_
      refine x_sub [] rfl ?_
      exact s_X7_number_j4 a1 a2 1 m4
def f_X7_number_j5 (a1 : Int32) (a2 : Int32) (k29 : Int32 → Int32 → Int32 → IM → Option (IM)) (x3 : Int32) (x5 : Int32) (s0 : Int32) (im : IM) : Option (IM) :=
  bnd (x5 + 1) fun v6 =>
  k29 x3 s0 v6 im
set_option maxRecDepth 20000 in
set_option maxHeartbeats 4000000 in
theorem s_X7_number_j5 {g : GX} (a1 : Int32) (a2 : Int32)  (k29 : Int32 → Int32 → Int32 → IM → Option (IM)) (hk29 : ∀ (x3 : Int32) (x4 : Int32) (x5 : Int32) (im : IM), X g md_X7_number eV 29 [(0, .ref (g.1 82)), (1, .int a1), (2, .int a2), (3, .int x3), (4, .int x4), (5, .int x5)] [] im (k29 x3 x4 x5 im)) (x3 : Int32) (x5 : Int32) (s0 : Int32)  (im : IM) : X g md_X7_number eV 71 [(0, .ref (g.1 82)), (1, .int a1), (2, .int a2), (3, .int x3), (5, .int x5)] [.int s0] im (f_X7_number_j5 a1 a2 k29 x3 x5 s0 im) := by
  refine x_istore (lv' := [(4, .int s0), (0, .ref (g.1 82)), (1, .int a1), (2, .int a2), (3, .int x3), (5, .int x5)]) dX7_number_71 (by decide) rfl ?_
  refine x_iinc (q := 5) (a := 1) (lv' := fun v6 => [(5, .int v6), (4, .int s0), (0, .ref (g.1 82)), (1, .int a1), (2, .int a2), (3, .int x3)]) dX7_number_73 rfl (by decide) (by decide) (fun _ => rfl) (fun v6 => ?_)
  refine x_goto (tgt := 29) dX7_number_76 (by decide) ?_
  refine x_sub [2, 3, 4, 5, 1, 0] rfl ?_
  exact hk29 x3 s0 v6 im
def f_X7_number_l1b (a1 : Int32) (a2 : Int32)   (k29 : Int32 → Int32 → Int32 → IM → Option (IM)) (x3 : Int32) (x4 : Int32) (x5 : Int32) (im : IM) : Option (IM) :=
  if (im 82 18) ≤ x5 then
    f_X7_number_j2 a1 a2 x3 x4 im
  else
    if x3 = 0 then
      f_X7_number_j2 a1 a2 x3 x4 im
    else
      if x4 ≤ 999 then
        if inb x5 120 = true then
          f_X7_number_j5 a1 a2 k29 x3 x5 (((10 * x4) + (im 89 (ix x5))) - 48) im
        else none
      else
        f_X7_number_j5 a1 a2 k29 x3 x5 x4 im
def f_X7_number_l1 (a1 : Int32) (a2 : Int32)   : Nat → Int32 → Int32 → Int32 → IM → Option (IM)
  | 0, _, _, _, _ => none
  | n + 1, x3, x4, x5, im => f_X7_number_l1b a1 a2 (f_X7_number_l1 a1 a2 n) x3 x4 x5 im
set_option maxRecDepth 20000 in
set_option maxHeartbeats 4000000 in
theorem s_X7_number_l1b {g : GX} (a1 : Int32) (a2 : Int32)    (k29 : Int32 → Int32 → Int32 → IM → Option (IM)) (hk29 : ∀ (x3 : Int32) (x4 : Int32) (x5 : Int32) (im : IM), X g md_X7_number eV 29 [(0, .ref (g.1 82)), (1, .int a1), (2, .int a2), (3, .int x3), (4, .int x4), (5, .int x5)] [] im (k29 x3 x4 x5 im)) (x3 : Int32) (x4 : Int32) (x5 : Int32)  (im : IM) : X g md_X7_number eV 29 [(0, .ref (g.1 82)), (1, .int a1), (2, .int a2), (3, .int x3), (4, .int x4), (5, .int x5)] [] im (f_X7_number_l1b a1 a2 k29 x3 x4 x5 im) := by
  refine x_iload (q := 5) rfl dX7_number_29 ?_
  refine x_aload_n (q := 0) rfl rfl dX7_number_31 ?_
  refine x_get (C := RX7) (T := TX7) sh_82 (by decide) rfl in_X7 18 (by decide) fl_X7_230 xf_7_18 dX7_number_32 ?_
  refine x_icmp_ge (tgt := 79) dX7_number_35 (by decide) ?_ ?_
  · refine x_sub [0, 1, 2, 3, 4] rfl ?_
    exact s_X7_number_j2 a1 a2 x3 x4 im
  · refine x_iload_n (q := 3) rfl rfl dX7_number_38 ?_
    refine x_if_eq (tgt := 79) dX7_number_39 (by decide) ?_ ?_
    · refine x_sub [0, 1, 2, 3, 4] rfl ?_
      exact s_X7_number_j2 a1 a2 x3 x4 im
    · refine x_iload (q := 4) rfl dX7_number_42 ?_
      refine x_sipush (v := (999)) (by decide) dX7_number_44 ?_
      refine x_icmp_le (tgt := 55) dX7_number_47 (by decide) ?_ ?_
      · refine x_bipush (v := (10)) (by decide) dX7_number_55 ?_
        refine x_iload (q := 4) rfl dX7_number_57 ?_
        refine x_imul dX7_number_59 ?_
        refine x_aload_n (q := 0) rfl rfl dX7_number_60 ?_
        refine x_get (C := RX7) (T := TX7) sh_82 (by decide) rfl in_X7 15 (by decide) fl_X7_28 xf_7_15 dX7_number_61 ?_
        refine x_iload (q := 5) rfl dX7_number_64 ?_
        refine x_iald sh_89 dX7_number_66 ?_
        refine x_iadd dX7_number_67 ?_
        refine x_bipush (v := (48)) (by decide) dX7_number_68 ?_
        refine x_isub dX7_number_70 ?_
        refine x_sub [0, 1, 2, 3, 5] rfl ?_
        exact s_X7_number_j5 a1 a2 k29 hk29 x3 x5 (((10 * x4) + (im 89 (ix x5))) - 48) im
      · refine x_iload (q := 4) rfl dX7_number_50 ?_
        refine x_goto (tgt := 71) dX7_number_52 (by decide) ?_
        refine x_sub [0, 1, 2, 3, 5] rfl ?_
        exact s_X7_number_j5 a1 a2 k29 hk29 x3 x5 x4 im
set_option maxRecDepth 20000 in
set_option maxHeartbeats 4000000 in
theorem s_X7_number_l1 {g : GX} (a1 : Int32) (a2 : Int32)    (n : Nat) : ∀ (x3 : Int32) (x4 : Int32) (x5 : Int32) (im : IM), X g md_X7_number eV 29 [(0, .ref (g.1 82)), (1, .int a1), (2, .int a2), (3, .int x3), (4, .int x4), (5, .int x5)] [] im (f_X7_number_l1 a1 a2 n x3 x4 x5 im) := by
  induction n with
  | zero => intro x3 x4 x5 im; exact x_none
  | succ n ih => intro x3 x4 x5 im; exact s_X7_number_l1b a1 a2 (f_X7_number_l1 a1 a2 n) ih x3 x4 x5 im
def f_X7_number (a1 : Int32) (a2 : Int32) (im : IM) : Option (IM) :=
  if (im 82 20) = 0 then
    (f_X7_byteAt (im 82 17) im).bind fun r1 =>
    bnd (f_X7_isDigit r1) fun v2 =>
    bnd (im 82 17) fun v3 =>
    f_X7_number_l1 a1 a2 xF v2 0 v3 im
  else
    some im
set_option maxRecDepth 20000 in
set_option maxHeartbeats 4000000 in
theorem s_X7_number {g : GX}   (a1 : Int32) (a2 : Int32) (im : IM) : X g md_X7_number eV 0 [(0, .ref (g.1 82)), (1, .int a1), (2, .int a2)] [] im (f_X7_number a1 a2 im) := by
  refine x_aload_n (q := 0) rfl rfl dX7_number_0 ?_
  refine x_get (C := RX7) (T := TX7) sh_82 (by decide) rfl in_X7 20 (by decide) fl_X7_245 xf_7_20 dX7_number_1 ?_
  refine x_if_eq (tgt := 8) dX7_number_4 (by decide) ?_ ?_
  · refine x_aload_n (q := 0) rfl rfl dX7_number_8 ?_
    refine x_aload_n (q := 0) rfl rfl dX7_number_9 ?_
    refine x_get (C := RX7) (T := TX7) sh_82 (by decide) rfl in_X7 17 (by decide) fl_X7_233 xf_7_17 dX7_number_10 ?_
    refine x_bind (fun r1 er1 => ?_)
    refine x_callVR (av := [.int (im 82 17)]) (st := []) (m_X7_byteAt  ((im 82 17)) im r1 er1) sh_82 (by decide) rfl rfl (by decide) (by decide) lk_X7_236 cd_X7_byteAt xd_X7_byteAt rfl (Nat.le_of_ble_eq_true rfl) dX7_number_13 ?_
    refine x_callSR (av := [.int r1]) (st := []) (m_X7_isDigit  r1 im) rfl (by decide) (by decide) lk_X7_242 cd_X7_isDigit xd_X7_isDigit rfl (Nat.le_of_ble_eq_true rfl) dX7_number_16 ?_
    refine x_bi (fun v2 => ?_)
    refine x_istore_n (lv' := [(3, .int v2), (0, .ref (g.1 82)), (1, .int a1), (2, .int a2)]) rfl dX7_number_19 (by decide) rfl ?_
    refine x_iconst (v := (0)) (by decide) dX7_number_20 ?_
    refine x_istore (lv' := [(4, .int 0), (3, .int v2), (0, .ref (g.1 82)), (1, .int a1), (2, .int a2)]) dX7_number_21 (by decide) rfl ?_
    refine x_aload_n (q := 2) rfl rfl dX7_number_23 ?_
    refine x_get (C := RX7) (T := TX7) sh_82 (by decide) rfl in_X7 17 (by decide) fl_X7_233 xf_7_17 dX7_number_24 ?_
    refine x_bi (fun v3 => ?_)
    refine x_istore (lv' := [(5, .int v3), (4, .int 0), (3, .int v2), (0, .ref (g.1 82)), (1, .int a1), (2, .int a2)]) dX7_number_27 (by decide) rfl ?_
    refine x_sub [3, 4, 5, 2, 1, 0] rfl ?_
    exact s_X7_number_l1 a1 a2 xF v2 0 v3 im
  · exact x_vret rfl rfl dX7_number_7
theorem m_X7_number {g : GX}   (a1 : Int32) (a2 : Int32) (im : IM) (r : IM) (hr : f_X7_number a1 a2 im = some r) : xMet g 4 yX7_number cX7_number 6 none [.ref (g.1 82), .int a1, .int a2] im (eV r) := x_met (by decide) (Nat.le_of_ble_eq_true rfl) rfl (s_X7_number a1 a2 im) r hr
abbrev md_X7_groundHere : xM := (3, 3, RX7, cX7_groundHere, (some .int))
def f_X7_groundHere  (im : IM) : Option (Int32) :=
  (f_X7_word im).bind fun r1 =>
  if (lg_cmp r1 20594117) = 0 then
    some 0
  else
    if (lg_cmp r1 624068) = 0 then
      some 1
    else
      if (lg_cmp r1 20596791) = 0 then
        some 2
      else
        if (lg_cmp r1 71108) = 0 then
          some 3
        else
          if (lg_cmp r1 231045) = 0 then
            some 4
          else
            some ((-1))
set_option maxRecDepth 20000 in
set_option maxHeartbeats 4000000 in
theorem s_X7_groundHere {g : GX}   (im : IM) : X g md_X7_groundHere (eR im) 0 [(0, .ref (g.1 82))] [] im (f_X7_groundHere im) := by
  refine x_aload_n (q := 0) rfl rfl dX7_groundHere_0 ?_
  refine x_bind (fun r1 er1 => ?_)
  refine x_callVL (av := []) (st := []) (m_X7_word   im r1 er1) sh_82 (by decide) rfl rfl (by decide) (by decide) lk_X7_263 cd_X7_word xd_X7_word rfl (Nat.le_of_ble_eq_true rfl) dX7_groundHere_1 ?_
  refine x_lstore_n (lv' := [(1, .long r1), (0, .ref (g.1 82))]) rfl dX7_groundHere_4 (by decide) rfl ?_
  refine x_lload_n (q := 0) rfl rfl dX7_groundHere_5 ?_
  refine x_ldc2 cl_X7_267 dX7_groundHere_6 ?_
  refine x_lcmp dX7_groundHere_9 ?_
  refine x_if_ne (tgt := 17) dX7_groundHere_10 (by decide) ?_ ?_
  · refine x_lload_n (q := 0) rfl rfl dX7_groundHere_17 ?_
    refine x_ldc2 cl_X7_269 dX7_groundHere_18 ?_
    refine x_lcmp dX7_groundHere_21 ?_
    refine x_if_ne (tgt := 29) dX7_groundHere_22 (by decide) ?_ ?_
    · refine x_lload_n (q := 0) rfl rfl dX7_groundHere_29 ?_
      refine x_ldc2 cl_X7_271 dX7_groundHere_30 ?_
      refine x_lcmp dX7_groundHere_33 ?_
      refine x_if_ne (tgt := 41) dX7_groundHere_34 (by decide) ?_ ?_
      · refine x_lload_n (q := 0) rfl rfl dX7_groundHere_41 ?_
        refine x_ldc2 cl_X7_273 dX7_groundHere_42 ?_
        refine x_lcmp dX7_groundHere_45 ?_
        refine x_if_ne (tgt := 53) dX7_groundHere_46 (by decide) ?_ ?_
        · refine x_lload_n (q := 0) rfl rfl dX7_groundHere_53 ?_
          refine x_ldc2 cl_X7_275 dX7_groundHere_54 ?_
          refine x_lcmp dX7_groundHere_57 ?_
          refine x_if_ne (tgt := 65) dX7_groundHere_58 (by decide) ?_ ?_
          · refine x_iconst (v := (-1)) (by decide) dX7_groundHere_65 ?_
            exact x_iret rfl rfl dX7_groundHere_66
          · refine x_iconst (v := (4)) (by decide) dX7_groundHere_61 ?_
            refine x_goto (tgt := 66) dX7_groundHere_62 (by decide) ?_
            exact x_iret rfl rfl dX7_groundHere_66
        · refine x_iconst (v := (3)) (by decide) dX7_groundHere_49 ?_
          refine x_goto (tgt := 66) dX7_groundHere_50 (by decide) ?_
          exact x_iret rfl rfl dX7_groundHere_66
      · refine x_iconst (v := (2)) (by decide) dX7_groundHere_37 ?_
        refine x_goto (tgt := 66) dX7_groundHere_38 (by decide) ?_
        exact x_iret rfl rfl dX7_groundHere_66
    · refine x_iconst (v := (1)) (by decide) dX7_groundHere_25 ?_
      refine x_goto (tgt := 66) dX7_groundHere_26 (by decide) ?_
      exact x_iret rfl rfl dX7_groundHere_66
  · refine x_iconst (v := (0)) (by decide) dX7_groundHere_13 ?_
    refine x_goto (tgt := 66) dX7_groundHere_14 (by decide) ?_
    exact x_iret rfl rfl dX7_groundHere_66
theorem m_X7_groundHere {g : GX}   (im : IM) (r : Int32) (hr : f_X7_groundHere im = some r) : xMet g 3 yX7_groundHere cX7_groundHere 3 (some .int) [.ref (g.1 82)] im ((eR im) r) := x_met (by decide) (Nat.le_of_ble_eq_true rfl) rfl (s_X7_groundHere im) r hr
abbrev md_X7_kindHere : xM := (3, 3, RX7, cX7_kindHere, (some .int))
def f_X7_kindHere  (im : IM) : Option (Int32) :=
  (f_X7_word im).bind fun r1 =>
  if (lg_cmp r1 21243335) = 0 then
    some 0
  else
    if (lg_cmp r1 109221477) = 0 then
      some 1
    else
      if (lg_cmp r1 150189) = 0 then
        some 2
      else
        if (lg_cmp r1 605291) = 0 then
          some 3
        else
          if (lg_cmp r1 66949) = 0 then
            some 4
          else
            if (lg_cmp r1 599495) = 0 then
              some 5
            else
              if (lg_cmp r1 2552) = 0 then
                some 6
              else
                some ((-1))
set_option maxRecDepth 20000 in
set_option maxHeartbeats 4000000 in
theorem s_X7_kindHere {g : GX}   (im : IM) : X g md_X7_kindHere (eR im) 0 [(0, .ref (g.1 82))] [] im (f_X7_kindHere im) := by
  refine x_aload_n (q := 0) rfl rfl dX7_kindHere_0 ?_
  refine x_bind (fun r1 er1 => ?_)
  refine x_callVL (av := []) (st := []) (m_X7_word   im r1 er1) sh_82 (by decide) rfl rfl (by decide) (by decide) lk_X7_263 cd_X7_word xd_X7_word rfl (Nat.le_of_ble_eq_true rfl) dX7_kindHere_1 ?_
  refine x_lstore_n (lv' := [(1, .long r1), (0, .ref (g.1 82))]) rfl dX7_kindHere_4 (by decide) rfl ?_
  refine x_lload_n (q := 0) rfl rfl dX7_kindHere_5 ?_
  refine x_ldc2 cl_X7_277 dX7_kindHere_6 ?_
  refine x_lcmp dX7_kindHere_9 ?_
  refine x_if_ne (tgt := 17) dX7_kindHere_10 (by decide) ?_ ?_
  · refine x_lload_n (q := 0) rfl rfl dX7_kindHere_17 ?_
    refine x_ldc2 cl_X7_279 dX7_kindHere_18 ?_
    refine x_lcmp dX7_kindHere_21 ?_
    refine x_if_ne (tgt := 29) dX7_kindHere_22 (by decide) ?_ ?_
    · refine x_lload_n (q := 0) rfl rfl dX7_kindHere_29 ?_
      refine x_ldc2 cl_X7_281 dX7_kindHere_30 ?_
      refine x_lcmp dX7_kindHere_33 ?_
      refine x_if_ne (tgt := 41) dX7_kindHere_34 (by decide) ?_ ?_
      · refine x_lload_n (q := 0) rfl rfl dX7_kindHere_41 ?_
        refine x_ldc2 cl_X7_283 dX7_kindHere_42 ?_
        refine x_lcmp dX7_kindHere_45 ?_
        refine x_if_ne (tgt := 53) dX7_kindHere_46 (by decide) ?_ ?_
        · refine x_lload_n (q := 0) rfl rfl dX7_kindHere_53 ?_
          refine x_ldc2 cl_X7_285 dX7_kindHere_54 ?_
          refine x_lcmp dX7_kindHere_57 ?_
          refine x_if_ne (tgt := 65) dX7_kindHere_58 (by decide) ?_ ?_
          · refine x_lload_n (q := 0) rfl rfl dX7_kindHere_65 ?_
            refine x_ldc2 cl_X7_287 dX7_kindHere_66 ?_
            refine x_lcmp dX7_kindHere_69 ?_
            refine x_if_ne (tgt := 77) dX7_kindHere_70 (by decide) ?_ ?_
            · refine x_lload_n (q := 0) rfl rfl dX7_kindHere_77 ?_
              refine x_ldc2 cl_X7_289 dX7_kindHere_78 ?_
              refine x_lcmp dX7_kindHere_81 ?_
              refine x_if_ne (tgt := 90) dX7_kindHere_82 (by decide) ?_ ?_
              · refine x_iconst (v := (-1)) (by decide) dX7_kindHere_90 ?_
                exact x_iret rfl rfl dX7_kindHere_91
              · refine x_bipush (v := (6)) (by decide) dX7_kindHere_85 ?_
                refine x_goto (tgt := 91) dX7_kindHere_87 (by decide) ?_
                exact x_iret rfl rfl dX7_kindHere_91
            · refine x_iconst (v := (5)) (by decide) dX7_kindHere_73 ?_
              refine x_goto (tgt := 91) dX7_kindHere_74 (by decide) ?_
              exact x_iret rfl rfl dX7_kindHere_91
          · refine x_iconst (v := (4)) (by decide) dX7_kindHere_61 ?_
            refine x_goto (tgt := 91) dX7_kindHere_62 (by decide) ?_
            exact x_iret rfl rfl dX7_kindHere_91
        · refine x_iconst (v := (3)) (by decide) dX7_kindHere_49 ?_
          refine x_goto (tgt := 91) dX7_kindHere_50 (by decide) ?_
          exact x_iret rfl rfl dX7_kindHere_91
      · refine x_iconst (v := (2)) (by decide) dX7_kindHere_37 ?_
        refine x_goto (tgt := 91) dX7_kindHere_38 (by decide) ?_
        exact x_iret rfl rfl dX7_kindHere_91
    · refine x_iconst (v := (1)) (by decide) dX7_kindHere_25 ?_
      refine x_goto (tgt := 91) dX7_kindHere_26 (by decide) ?_
      exact x_iret rfl rfl dX7_kindHere_91
  · refine x_iconst (v := (0)) (by decide) dX7_kindHere_13 ?_
    refine x_goto (tgt := 91) dX7_kindHere_14 (by decide) ?_
    exact x_iret rfl rfl dX7_kindHere_91
theorem m_X7_kindHere {g : GX}   (im : IM) (r : Int32) (hr : f_X7_kindHere im = some r) : xMet g 3 yX7_kindHere cX7_kindHere 3 (some .int) [.ref (g.1 82)] im ((eR im) r) := x_met (by decide) (Nat.le_of_ble_eq_true rfl) rfl (s_X7_kindHere im) r hr
abbrev md_X7_perhaps : xM := (5, 5, RX7, cX7_perhaps, (some .int))
def f_X7_perhaps (a1 : Int32) (a2 : Int32) (a3 : Int32) (a4 : Int32) (im : IM) : Option (Int32 × IM) :=
  if a1 = 0 then
    some ((a4, im))
  else
    (f_X7_needs 1 im).bind fun r1 =>
    (f_X7_number a2 a3 r1).bind fun r2 =>
    some ((r2 82 19, r2))
set_option maxRecDepth 20000 in
set_option maxHeartbeats 4000000 in
theorem s_X7_perhaps {g : GX}     (a1 : Int32) (a2 : Int32) (a3 : Int32) (a4 : Int32) (im : IM) : X g md_X7_perhaps eI 0 [(0, .ref (g.1 82)), (1, .int a1), (2, .int a2), (3, .int a3), (4, .int a4)] [] im (f_X7_perhaps a1 a2 a3 a4 im) := by
  refine x_iload_n (q := 1) rfl rfl dX7_perhaps_0 ?_
  refine x_if_ne (tgt := 7) dX7_perhaps_1 (by decide) ?_ ?_
  · refine x_aload_n (q := 0) rfl rfl dX7_perhaps_7 ?_
    refine x_iconst (v := (1)) (by decide) dX7_perhaps_8 ?_
    refine x_bind (fun r1 er1 => ?_)
    refine x_callVV (av := [.int 1]) (st := []) (m_X7_needs  1 im r1 er1) sh_82 (by decide) rfl rfl (by decide) (by decide) lk_X7_259 cd_X7_needs xd_X7_needs rfl (Nat.le_of_ble_eq_true rfl) dX7_perhaps_9 ?_
    refine x_aload_n (q := 0) rfl rfl dX7_perhaps_12 ?_
    refine x_iload_n (q := 2) rfl rfl dX7_perhaps_13 ?_
    refine x_iload_n (q := 3) rfl rfl dX7_perhaps_14 ?_
    refine x_bind (fun r2 er2 => ?_)
    refine x_callVV (av := [.int a2, .int a3]) (st := []) (m_X7_number  a2 a3 r1 r2 er2) sh_82 (by decide) rfl rfl (by decide) (by decide) lk_X7_291 cd_X7_number xd_X7_number rfl (Nat.le_of_ble_eq_true rfl) dX7_perhaps_15 ?_
    refine x_aload_n (q := 0) rfl rfl dX7_perhaps_18 ?_
    refine x_get (C := RX7) (T := TX7) sh_82 (by decide) rfl in_X7 19 (by decide) fl_X7_256 xf_7_19 dX7_perhaps_19 ?_
    exact x_iret rfl rfl dX7_perhaps_22
  · refine x_iload (q := 4) rfl dX7_perhaps_4 ?_
    exact x_iret rfl rfl dX7_perhaps_6
theorem m_X7_perhaps {g : GX}     (a1 : Int32) (a2 : Int32) (a3 : Int32) (a4 : Int32) (im : IM) (r : Int32 × IM) (hr : f_X7_perhaps a1 a2 a3 a4 im = some r) : xMet g 5 yX7_perhaps cX7_perhaps 5 (some .int) [.ref (g.1 82), .int a1, .int a2, .int a3, .int a4] im (eI r) := x_met (by decide) (Nat.le_of_ble_eq_true rfl) rfl (s_X7_perhaps a1 a2 a3 a4 im) r hr
abbrev md_X7_cells : xM := (6, 1, RX7, cX7_cells, none)
def f_X7_cells_j1   (s0 : Int32) (im : IM) : Option (IM) :=
  (f_X7_perhaps s0 (im 82 21) 30 (im 82 21) im).bind fun r5 =>
  bnd (up r5.2 82 22 r5.1) fun m6 =>
  some m6
set_option maxRecDepth 20000 in
set_option maxHeartbeats 4000000 in
theorem s_X7_cells_j1 {g : GX}    (s0 : Int32)  (im : IM) : X g md_X7_cells eV 38 [(0, .ref (g.1 82))] [.int s0, .ref (g.1 82), .ref (g.1 82)] im (f_X7_cells_j1 s0 im) := by
  refine x_aload_n (q := 0) rfl rfl dX7_cells_38 ?_
  refine x_get (C := RX7) (T := TX7) sh_82 (by decide) rfl in_X7 21 (by decide) fl_X7_293 xf_7_21 dX7_cells_39 ?_
  refine x_bipush (v := (30)) (by decide) dX7_cells_42 ?_
  refine x_aload_n (q := 0) rfl rfl dX7_cells_44 ?_
  refine x_get (C := RX7) (T := TX7) sh_82 (by decide) rfl in_X7 21 (by decide) fl_X7_293 xf_7_21 dX7_cells_45 ?_
  refine x_bind (fun r5 er5 => ?_)
  refine x_callVI (av := [.int s0, .int (im 82 21), .int 30, .int (im 82 21)]) (st := [.ref (g.1 82)]) (m_X7_perhaps  s0 ((im 82 21)) 30 ((im 82 21)) im r5 er5) sh_82 (by decide) rfl rfl (by decide) (by decide) lk_X7_298 cd_X7_perhaps xd_X7_perhaps rfl (Nat.le_of_ble_eq_true rfl) dX7_cells_48 ?_
  refine x_put (C := RX7) (T := TX7) (ty := .int) tyX7 tyX7_ok nmX7 sh_82 (by decide) rfl in_X7 22 (by decide) (by decide) fl_X7_302 rfl (by decide +kernel) rfl rfl dX7_cells_51 ?_
  refine x_bm (fun m6 => ?_)
  exact x_vret rfl rfl dX7_cells_54
def f_X7_cells  (im : IM) : Option (IM) :=
  (f_X7_needs 1 im).bind fun r1 =>
  (f_X7_number 0 30 r1).bind fun r2 =>
  bnd (up r2 82 21 (r2 82 19)) fun m3 =>
  (f_X7_word m3).bind fun r4 =>
  if (lg_cmp r4 655) = 0 then
    f_X7_cells_j1 1 m3
  else
    f_X7_cells_j1 0 m3
set_option maxRecDepth 20000 in
set_option maxHeartbeats 4000000 in
theorem s_X7_cells {g : GX}   (im : IM) : X g md_X7_cells eV 0 [(0, .ref (g.1 82))] [] im (f_X7_cells im) := by
  refine x_aload_n (q := 0) rfl rfl dX7_cells_0 ?_
  refine x_iconst (v := (1)) (by decide) dX7_cells_1 ?_
  refine x_bind (fun r1 er1 => ?_)
  refine x_callVV (av := [.int 1]) (st := []) (m_X7_needs  1 im r1 er1) sh_82 (by decide) rfl rfl (by decide) (by decide) lk_X7_259 cd_X7_needs xd_X7_needs rfl (Nat.le_of_ble_eq_true rfl) dX7_cells_2 ?_
  refine x_aload_n (q := 0) rfl rfl dX7_cells_5 ?_
  refine x_iconst (v := (0)) (by decide) dX7_cells_6 ?_
  refine x_bipush (v := (30)) (by decide) dX7_cells_7 ?_
  refine x_bind (fun r2 er2 => ?_)
  refine x_callVV (av := [.int 0, .int 30]) (st := []) (m_X7_number  0 30 r1 r2 er2) sh_82 (by decide) rfl rfl (by decide) (by decide) lk_X7_291 cd_X7_number xd_X7_number rfl (Nat.le_of_ble_eq_true rfl) dX7_cells_9 ?_
  refine x_aload_n (q := 0) rfl rfl dX7_cells_12 ?_
  refine x_aload_n (q := 0) rfl rfl dX7_cells_13 ?_
  refine x_get (C := RX7) (T := TX7) sh_82 (by decide) rfl in_X7 19 (by decide) fl_X7_256 xf_7_19 dX7_cells_14 ?_
  refine x_put (C := RX7) (T := TX7) (ty := .int) tyX7 tyX7_ok nmX7 sh_82 (by decide) rfl in_X7 21 (by decide) (by decide) fl_X7_293 rfl (by decide +kernel) rfl rfl dX7_cells_17 ?_
  refine x_bm (fun m3 => ?_)
  refine x_aload_n (q := 0) rfl rfl dX7_cells_20 ?_
  refine x_aload_n (q := 0) rfl rfl dX7_cells_21 ?_
  refine x_aload_n (q := 0) rfl rfl dX7_cells_22 ?_
  refine x_bind (fun r4 er4 => ?_)
  refine x_callVL (av := []) (st := [.ref (g.1 82), .ref (g.1 82)]) (m_X7_word   m3 r4 er4) sh_82 (by decide) rfl rfl (by decide) (by decide) lk_X7_263 cd_X7_word xd_X7_word rfl (Nat.le_of_ble_eq_true rfl) dX7_cells_23 ?_
  refine x_ldc2 cl_X7_296 dX7_cells_26 ?_
  refine x_lcmp dX7_cells_29 ?_
  refine x_if_ne (tgt := 37) dX7_cells_30 (by decide) ?_ ?_
  · refine x_iconst (v := (0)) (by decide) dX7_cells_37 ?_
    refine x_sub [0] rfl ?_
    exact s_X7_cells_j1 0 m3
  · refine x_iconst (v := (1)) (by decide) dX7_cells_33 ?_
    refine x_goto (tgt := 38) dX7_cells_34 (by decide) ?_
    refine x_sub [0] rfl ?_
    exact s_X7_cells_j1 1 m3
theorem m_X7_cells {g : GX}   (im : IM) (r : IM) (hr : f_X7_cells im = some r) : xMet g 6 yX7_cells cX7_cells 1 none [.ref (g.1 82)] im (eV r) := x_met (by decide) (Nat.le_of_ble_eq_true rfl) rfl (s_X7_cells im) r hr
abbrev md_X7_groundItem : xM := (7, 3, RX7, cX7_groundItem, none)
def f_X7_groundItem_l1b (a1 : Int32)   (k9 : Int32 → IM → Option (IM)) (x2 : Int32) (im : IM) : Option (IM) :=
  if (im 82 22) < x2 then
    some im
  else
    if (im 82 20) = 0 then
      if inb (36 + x2) 167 = true then
        bnd (up im 83 (ix (36 + x2)) a1) fun m3 =>
        bnd (x2 + 1) fun v4 =>
        k9 v4 m3
      else none
    else
      some im
def f_X7_groundItem_l1 (a1 : Int32)   : Nat → Int32 → IM → Option (IM)
  | 0, _, _ => none
  | n + 1, x2, im => f_X7_groundItem_l1b a1 (f_X7_groundItem_l1 a1 n) x2 im
set_option maxRecDepth 20000 in
set_option maxHeartbeats 4000000 in
theorem s_X7_groundItem_l1b {g : GX} (a1 : Int32)    (k9 : Int32 → IM → Option (IM)) (hk9 : ∀ (x2 : Int32) (im : IM), X g md_X7_groundItem eV 9 [(0, .ref (g.1 82)), (1, .int a1), (2, .int x2)] [] im (k9 x2 im)) (x2 : Int32)  (im : IM) : X g md_X7_groundItem eV 9 [(0, .ref (g.1 82)), (1, .int a1), (2, .int x2)] [] im (f_X7_groundItem_l1b a1 k9 x2 im) := by
  refine x_iload_n (q := 2) rfl rfl dX7_groundItem_9 ?_
  refine x_aload_n (q := 0) rfl rfl dX7_groundItem_10 ?_
  refine x_get (C := RX7) (T := TX7) sh_82 (by decide) rfl in_X7 22 (by decide) fl_X7_302 xf_7_22 dX7_groundItem_11 ?_
  refine x_icmp_gt (tgt := 40) dX7_groundItem_14 (by decide) ?_ ?_
  · exact x_vret rfl rfl dX7_groundItem_40
  · refine x_aload_n (q := 0) rfl rfl dX7_groundItem_17 ?_
    refine x_get (C := RX7) (T := TX7) sh_82 (by decide) rfl in_X7 20 (by decide) fl_X7_245 xf_7_20 dX7_groundItem_18 ?_
    refine x_if_ne (tgt := 40) dX7_groundItem_21 (by decide) ?_ ?_
    · exact x_vret rfl rfl dX7_groundItem_40
    · refine x_aload_n (q := 0) rfl rfl dX7_groundItem_24 ?_
      refine x_get (C := RX7) (T := TX7) sh_82 (by decide) rfl in_X7 0 (by decide) fl_X7_7 xf_7_0 dX7_groundItem_25 ?_
      refine x_bipush (v := (36)) (by decide) dX7_groundItem_28 ?_
      refine x_iload_n (q := 2) rfl rfl dX7_groundItem_30 ?_
      refine x_iadd dX7_groundItem_31 ?_
      refine x_iload_n (q := 1) rfl rfl dX7_groundItem_32 ?_
      refine x_iast sh_83 dX7_groundItem_33 ?_
      refine x_bm (fun m3 => ?_)
      refine x_iinc (q := 2) (a := 1) (lv' := fun v4 => [(2, .int v4), (0, .ref (g.1 82)), (1, .int a1)]) dX7_groundItem_34 rfl (by decide) (by decide) (fun _ => rfl) (fun v4 => ?_)
      refine x_goto (tgt := 9) dX7_groundItem_37 (by decide) ?_
      refine x_sub [1, 2, 0] rfl ?_
      exact hk9 v4 m3
set_option maxRecDepth 20000 in
set_option maxHeartbeats 4000000 in
theorem s_X7_groundItem_l1 {g : GX} (a1 : Int32)    (n : Nat) : ∀ (x2 : Int32) (im : IM), X g md_X7_groundItem eV 9 [(0, .ref (g.1 82)), (1, .int a1), (2, .int x2)] [] im (f_X7_groundItem_l1 a1 n x2 im) := by
  induction n with
  | zero => intro x2 im; exact x_none
  | succ n ih => intro x2 im; exact s_X7_groundItem_l1b a1 (f_X7_groundItem_l1 a1 n) ih x2 im
def f_X7_groundItem (a1 : Int32) (im : IM) : Option (IM) :=
  (f_X7_cells im).bind fun r1 =>
  bnd (r1 82 21) fun v2 =>
  f_X7_groundItem_l1 a1 xF v2 r1
set_option maxRecDepth 20000 in
set_option maxHeartbeats 4000000 in
theorem s_X7_groundItem {g : GX}  (a1 : Int32) (im : IM) : X g md_X7_groundItem eV 0 [(0, .ref (g.1 82)), (1, .int a1)] [] im (f_X7_groundItem a1 im) := by
  refine x_aload_n (q := 0) rfl rfl dX7_groundItem_0 ?_
  refine x_bind (fun r1 er1 => ?_)
  refine x_callVV (av := []) (st := []) (m_X7_cells   im r1 er1) sh_82 (by decide) rfl rfl (by decide) (by decide) lk_X7_305 cd_X7_cells xd_X7_cells rfl (Nat.le_of_ble_eq_true rfl) dX7_groundItem_1 ?_
  refine x_aload_n (q := 0) rfl rfl dX7_groundItem_4 ?_
  refine x_get (C := RX7) (T := TX7) sh_82 (by decide) rfl in_X7 21 (by decide) fl_X7_293 xf_7_21 dX7_groundItem_5 ?_
  refine x_bi (fun v2 => ?_)
  refine x_istore_n (lv' := [(2, .int v2), (0, .ref (g.1 82)), (1, .int a1)]) rfl dX7_groundItem_8 (by decide) rfl ?_
  refine x_sub [1, 2, 0] rfl ?_
  exact s_X7_groundItem_l1 a1 xF v2 r1
theorem m_X7_groundItem {g : GX}  (a1 : Int32) (im : IM) (r : IM) (hr : f_X7_groundItem a1 im = some r) : xMet g 7 yX7_groundItem cX7_groundItem 3 none [.ref (g.1 82), .int a1] im (eV r) := x_met (by decide) (Nat.le_of_ble_eq_true rfl) rfl (s_X7_groundItem a1 im) r hr
abbrev md_X7_fallItem : xM := (7, 3, RX7, cX7_fallItem, none)
def f_X7_fallItem_j6  (k71 : Int32 → Int32 → IM → Option (IM)) (x1 : Int32) (x2 : Int32) (s0 : Int32) (s1 : Int32) (im : IM) : Option (IM) :=
  if inb s1 167 = true then
    bnd (up im 83 (ix s1) s0) fun m6 =>
    bnd (x2 + 1) fun v7 =>
    k71 x1 v7 m6
  else none
set_option maxRecDepth 20000 in
set_option maxHeartbeats 4000000 in
theorem s_X7_fallItem_j6 {g : GX}  (k71 : Int32 → Int32 → IM → Option (IM)) (hk71 : ∀ (x1 : Int32) (x2 : Int32) (im : IM), X g md_X7_fallItem eV 71 [(0, .ref (g.1 82)), (1, .int x1), (2, .int x2)] [] im (k71 x1 x2 im)) (x1 : Int32) (x2 : Int32) (s0 : Int32) (s1 : Int32)  (im : IM) : X g md_X7_fallItem eV 110 [(0, .ref (g.1 82)), (1, .int x1), (2, .int x2)] [.int s0, .int s1, .ref (g.1 83)] im (f_X7_fallItem_j6 k71 x1 x2 s0 s1 im) := by
  refine x_iast sh_83 dX7_fallItem_110 ?_
  refine x_bm (fun m6 => ?_)
  refine x_iinc (q := 2) (a := 1) (lv' := fun v7 => [(2, .int v7), (0, .ref (g.1 82)), (1, .int x1)]) dX7_fallItem_111 rfl (by decide) (by decide) (fun _ => rfl) (fun v7 => ?_)
  refine x_goto (tgt := 71) dX7_fallItem_114 (by decide) ?_
  refine x_sub [1, 2, 0] rfl ?_
  exact hk71 x1 v7 m6
def f_X7_fallItem_l5b    (k71 : Int32 → Int32 → IM → Option (IM)) (x1 : Int32) (x2 : Int32) (im : IM) : Option (IM) :=
  if (im 82 22) < x2 then
    some im
  else
    if (im 82 20) = 0 then
      if x1 = 0 then
        f_X7_fallItem_j6 k71 x1 x2 (im 82 19) (5 + x2) im
      else
        f_X7_fallItem_j6 k71 x1 x2 (0 - (im 82 19)) (5 + x2) im
    else
      some im
def f_X7_fallItem_l5    : Nat → Int32 → Int32 → IM → Option (IM)
  | 0, _, _, _ => none
  | n + 1, x1, x2, im => f_X7_fallItem_l5b (f_X7_fallItem_l5 n) x1 x2 im
set_option maxRecDepth 20000 in
set_option maxHeartbeats 4000000 in
theorem s_X7_fallItem_l5b {g : GX}    (k71 : Int32 → Int32 → IM → Option (IM)) (hk71 : ∀ (x1 : Int32) (x2 : Int32) (im : IM), X g md_X7_fallItem eV 71 [(0, .ref (g.1 82)), (1, .int x1), (2, .int x2)] [] im (k71 x1 x2 im)) (x1 : Int32) (x2 : Int32)  (im : IM) : X g md_X7_fallItem eV 71 [(0, .ref (g.1 82)), (1, .int x1), (2, .int x2)] [] im (f_X7_fallItem_l5b k71 x1 x2 im) := by
  refine x_iload_n (q := 2) rfl rfl dX7_fallItem_71 ?_
  refine x_aload_n (q := 0) rfl rfl dX7_fallItem_72 ?_
  refine x_get (C := RX7) (T := TX7) sh_82 (by decide) rfl in_X7 22 (by decide) fl_X7_302 xf_7_22 dX7_fallItem_73 ?_
  refine x_icmp_gt (tgt := 117) dX7_fallItem_76 (by decide) ?_ ?_
  · exact x_vret rfl rfl dX7_fallItem_117
  · refine x_aload_n (q := 0) rfl rfl dX7_fallItem_79 ?_
    refine x_get (C := RX7) (T := TX7) sh_82 (by decide) rfl in_X7 20 (by decide) fl_X7_245 xf_7_20 dX7_fallItem_80 ?_
    refine x_if_ne (tgt := 117) dX7_fallItem_83 (by decide) ?_ ?_
    · exact x_vret rfl rfl dX7_fallItem_117
    · refine x_aload_n (q := 0) rfl rfl dX7_fallItem_86 ?_
      refine x_get (C := RX7) (T := TX7) sh_82 (by decide) rfl in_X7 0 (by decide) fl_X7_7 xf_7_0 dX7_fallItem_87 ?_
      refine x_iconst (v := (5)) (by decide) dX7_fallItem_90 ?_
      refine x_iload_n (q := 2) rfl rfl dX7_fallItem_91 ?_
      refine x_iadd dX7_fallItem_92 ?_
      refine x_iload_n (q := 1) rfl rfl dX7_fallItem_93 ?_
      refine x_if_eq (tgt := 106) dX7_fallItem_94 (by decide) ?_ ?_
      · refine x_aload_n (q := 0) rfl rfl dX7_fallItem_106 ?_
        refine x_get (C := RX7) (T := TX7) sh_82 (by decide) rfl in_X7 19 (by decide) fl_X7_256 xf_7_19 dX7_fallItem_107 ?_
        refine x_sub [0, 1, 2] rfl ?_
        exact s_X7_fallItem_j6 k71 hk71 x1 x2 (im 82 19) (5 + x2) im
      · refine x_iconst (v := (0)) (by decide) dX7_fallItem_97 ?_
        refine x_aload_n (q := 0) rfl rfl dX7_fallItem_98 ?_
        refine x_get (C := RX7) (T := TX7) sh_82 (by decide) rfl in_X7 19 (by decide) fl_X7_256 xf_7_19 dX7_fallItem_99 ?_
        refine x_isub dX7_fallItem_102 ?_
        refine x_goto (tgt := 110) dX7_fallItem_103 (by decide) ?_
        refine x_sub [0, 1, 2] rfl ?_
        exact s_X7_fallItem_j6 k71 hk71 x1 x2 (0 - (im 82 19)) (5 + x2) im
set_option maxRecDepth 20000 in
set_option maxHeartbeats 4000000 in
theorem s_X7_fallItem_l5 {g : GX}    (n : Nat) : ∀ (x1 : Int32) (x2 : Int32) (im : IM), X g md_X7_fallItem eV 71 [(0, .ref (g.1 82)), (1, .int x1), (2, .int x2)] [] im (f_X7_fallItem_l5 n x1 x2 im) := by
  induction n with
  | zero => intro x1 x2 im; exact x_none
  | succ n ih => intro x1 x2 im; exact s_X7_fallItem_l5b (f_X7_fallItem_l5 n) ih x1 x2 im
def f_X7_fallItem_j4   (x1 : Int32) (im : IM) : Option (IM) :=
  (f_X7_number 0 9 im).bind fun r4 =>
  bnd (r4 82 21) fun v5 =>
  f_X7_fallItem_l5 xF x1 v5 r4
set_option maxRecDepth 20000 in
set_option maxHeartbeats 4000000 in
theorem s_X7_fallItem_j4 {g : GX}    (x1 : Int32)  (im : IM) : X g md_X7_fallItem eV 59 [(0, .ref (g.1 82)), (1, .int x1)] [] im (f_X7_fallItem_j4 x1 im) := by
  refine x_aload_n (q := 0) rfl rfl dX7_fallItem_59 ?_
  refine x_iconst (v := (0)) (by decide) dX7_fallItem_60 ?_
  refine x_bipush (v := (9)) (by decide) dX7_fallItem_61 ?_
  refine x_bind (fun r4 er4 => ?_)
  refine x_callVV (av := [.int 0, .int 9]) (st := []) (m_X7_number  0 9 im r4 er4) sh_82 (by decide) rfl rfl (by decide) (by decide) lk_X7_291 cd_X7_number xd_X7_number rfl (Nat.le_of_ble_eq_true rfl) dX7_fallItem_63 ?_
  refine x_aload_n (q := 0) rfl rfl dX7_fallItem_66 ?_
  refine x_get (C := RX7) (T := TX7) sh_82 (by decide) rfl in_X7 21 (by decide) fl_X7_293 xf_7_21 dX7_fallItem_67 ?_
  refine x_bi (fun v5 => ?_)
  refine x_istore_n (lv' := [(2, .int v5), (0, .ref (g.1 82)), (1, .int x1)]) rfl dX7_fallItem_70 (by decide) rfl ?_
  refine x_sub [1, 2, 0] rfl ?_
  exact s_X7_fallItem_l5 xF x1 v5 r4
def f_X7_fallItem_j3   (s0 : Int32) (im : IM) : Option (IM) :=
  if s0 = 0 then
    f_X7_fallItem_j4 s0 im
  else
    (f_X7_needs 1 im).bind fun r8 =>
    f_X7_fallItem_j4 s0 r8
set_option maxRecDepth 20000 in
set_option maxHeartbeats 4000000 in
theorem s_X7_fallItem_j3 {g : GX}    (s0 : Int32)  (im : IM) : X g md_X7_fallItem eV 49 [(0, .ref (g.1 82))] [.int s0] im (f_X7_fallItem_j3 s0 im) := by
  refine x_istore_n (lv' := [(1, .int s0), (0, .ref (g.1 82))]) rfl dX7_fallItem_49 (by decide) rfl ?_
  refine x_iload_n (q := 0) rfl rfl dX7_fallItem_50 ?_
  refine x_if_eq (tgt := 59) dX7_fallItem_51 (by decide) ?_ ?_
  · refine x_sub [1, 0] rfl ?_
    exact s_X7_fallItem_j4 s0 im
  · refine x_aload_n (q := 1) rfl rfl dX7_fallItem_54 ?_
    refine x_iconst (v := (1)) (by decide) dX7_fallItem_55 ?_
    refine x_bind (fun r8 er8 => ?_)
    refine x_callVV (av := [.int 1]) (st := []) (m_X7_needs  1 im r8 er8) sh_82 (by decide) rfl rfl (by decide) (by decide) lk_X7_259 cd_X7_needs xd_X7_needs rfl (Nat.le_of_ble_eq_true rfl) dX7_fallItem_56 ?_
    refine x_sub [1, 0] rfl ?_
    exact s_X7_fallItem_j4 s0 r8
def f_X7_fallItem_j2    (im : IM) : Option (IM) :=
  f_X7_fallItem_j3 0 im
set_option maxRecDepth 20000 in
set_option maxHeartbeats 4000000 in
theorem s_X7_fallItem_j2 {g : GX}      (im : IM) : X g md_X7_fallItem eV 48 [(0, .ref (g.1 82))] [] im (f_X7_fallItem_j2 im) := by
  refine x_iconst (v := (0)) (by decide) dX7_fallItem_48 ?_
  refine x_sub [0] rfl ?_
  exact s_X7_fallItem_j3 0 im
def f_X7_fallItem_j1   (s0 : Int32) (im : IM) : Option (IM) :=
  (f_X7_needs s0 im).bind fun r3 =>
  if (r3 82 20) = 0 then
    (f_X7_byteAt (r3 82 17) r3).bind fun r9 =>
    if r9 = 45 then
      f_X7_fallItem_j3 1 r3
    else
      f_X7_fallItem_j2 r3
  else
    f_X7_fallItem_j2 r3
set_option maxRecDepth 20000 in
set_option maxHeartbeats 4000000 in
theorem s_X7_fallItem_j1 {g : GX}    (s0 : Int32)  (im : IM) : X g md_X7_fallItem eV 21 [(0, .ref (g.1 82))] [.int s0, .ref (g.1 82)] im (f_X7_fallItem_j1 s0 im) := by
  refine x_bind (fun r3 er3 => ?_)
  refine x_callVV (av := [.int s0]) (st := []) (m_X7_needs  s0 im r3 er3) sh_82 (by decide) rfl rfl (by decide) (by decide) lk_X7_259 cd_X7_needs xd_X7_needs rfl (Nat.le_of_ble_eq_true rfl) dX7_fallItem_21 ?_
  refine x_aload_n (q := 0) rfl rfl dX7_fallItem_24 ?_
  refine x_get (C := RX7) (T := TX7) sh_82 (by decide) rfl in_X7 20 (by decide) fl_X7_245 xf_7_20 dX7_fallItem_25 ?_
  refine x_if_ne (tgt := 48) dX7_fallItem_28 (by decide) ?_ ?_
  · refine x_sub [0] rfl ?_
    exact s_X7_fallItem_j2 r3
  · refine x_aload_n (q := 0) rfl rfl dX7_fallItem_31 ?_
    refine x_aload_n (q := 0) rfl rfl dX7_fallItem_32 ?_
    refine x_get (C := RX7) (T := TX7) sh_82 (by decide) rfl in_X7 17 (by decide) fl_X7_233 xf_7_17 dX7_fallItem_33 ?_
    refine x_bind (fun r9 er9 => ?_)
    refine x_callVR (av := [.int (r3 82 17)]) (st := []) (m_X7_byteAt  ((r3 82 17)) r3 r9 er9) sh_82 (by decide) rfl rfl (by decide) (by decide) lk_X7_236 cd_X7_byteAt xd_X7_byteAt rfl (Nat.le_of_ble_eq_true rfl) dX7_fallItem_36 ?_
    refine x_bipush (v := (45)) (by decide) dX7_fallItem_39 ?_
    refine x_icmp_ne (tgt := 48) dX7_fallItem_41 (by decide) ?_ ?_
    · refine x_sub [0] rfl ?_
      exact s_X7_fallItem_j2 r3
    · refine x_iconst (v := (1)) (by decide) dX7_fallItem_44 ?_
      refine x_goto (tgt := 49) dX7_fallItem_45 (by decide) ?_
      refine x_sub [0] rfl ?_
      exact s_X7_fallItem_j3 1 r3
def f_X7_fallItem  (im : IM) : Option (IM) :=
  (f_X7_cells im).bind fun r1 =>
  (f_X7_word r1).bind fun r2 =>
  if (lg_cmp r2 89) = 0 then
    f_X7_fallItem_j1 1 r1
  else
    f_X7_fallItem_j1 0 r1
set_option maxRecDepth 20000 in
set_option maxHeartbeats 4000000 in
theorem s_X7_fallItem {g : GX}   (im : IM) : X g md_X7_fallItem eV 0 [(0, .ref (g.1 82))] [] im (f_X7_fallItem im) := by
  refine x_aload_n (q := 0) rfl rfl dX7_fallItem_0 ?_
  refine x_bind (fun r1 er1 => ?_)
  refine x_callVV (av := []) (st := []) (m_X7_cells   im r1 er1) sh_82 (by decide) rfl rfl (by decide) (by decide) lk_X7_305 cd_X7_cells xd_X7_cells rfl (Nat.le_of_ble_eq_true rfl) dX7_fallItem_1 ?_
  refine x_aload_n (q := 0) rfl rfl dX7_fallItem_4 ?_
  refine x_aload_n (q := 0) rfl rfl dX7_fallItem_5 ?_
  refine x_bind (fun r2 er2 => ?_)
  refine x_callVL (av := []) (st := [.ref (g.1 82)]) (m_X7_word   r1 r2 er2) sh_82 (by decide) rfl rfl (by decide) (by decide) lk_X7_263 cd_X7_word xd_X7_word rfl (Nat.le_of_ble_eq_true rfl) dX7_fallItem_6 ?_
  refine x_ldc2 cl_X7_308 dX7_fallItem_9 ?_
  refine x_lcmp dX7_fallItem_12 ?_
  refine x_if_ne (tgt := 20) dX7_fallItem_13 (by decide) ?_ ?_
  · refine x_iconst (v := (0)) (by decide) dX7_fallItem_20 ?_
    refine x_sub [0] rfl ?_
    exact s_X7_fallItem_j1 0 r1
  · refine x_iconst (v := (1)) (by decide) dX7_fallItem_16 ?_
    refine x_goto (tgt := 21) dX7_fallItem_17 (by decide) ?_
    refine x_sub [0] rfl ?_
    exact s_X7_fallItem_j1 1 r1
theorem m_X7_fallItem {g : GX}   (im : IM) (r : IM) (hr : f_X7_fallItem im = some r) : xMet g 7 yX7_fallItem cX7_fallItem 3 none [.ref (g.1 82)] im (eV r) := x_met (by decide) (Nat.le_of_ble_eq_true rfl) rfl (s_X7_fallItem im) r hr
abbrev md_X7_shutItem : xM := (5, 2, RX7, cX7_shutItem, none)
def f_X7_shutItem_j2   (x1 : Int32) (s0 : Int32) (im : IM) : Option (IM) :=
  (f_X7_needs s0 im).bind fun r6 =>
  (f_X7_number 0 59 r6).bind fun r7 =>
  if (r7 82 20) = 0 then
    bnd (up r7 83 2 x1) fun m8 =>
    bnd (up m8 83 3 (m8 82 19)) fun m9 =>
    some m9
  else
    some r7
set_option maxRecDepth 20000 in
set_option maxHeartbeats 4000000 in
theorem s_X7_shutItem_j2 {g : GX}    (x1 : Int32) (s0 : Int32)  (im : IM) : X g md_X7_shutItem eV 49 [(0, .ref (g.1 82)), (1, .int x1)] [.int s0, .ref (g.1 82)] im (f_X7_shutItem_j2 x1 s0 im) := by
  refine x_bind (fun r6 er6 => ?_)
  refine x_callVV (av := [.int s0]) (st := []) (m_X7_needs  s0 im r6 er6) sh_82 (by decide) rfl rfl (by decide) (by decide) lk_X7_259 cd_X7_needs xd_X7_needs rfl (Nat.le_of_ble_eq_true rfl) dX7_shutItem_49 ?_
  refine x_aload_n (q := 0) rfl rfl dX7_shutItem_52 ?_
  refine x_iconst (v := (0)) (by decide) dX7_shutItem_53 ?_
  refine x_bipush (v := (59)) (by decide) dX7_shutItem_54 ?_
  refine x_bind (fun r7 er7 => ?_)
  refine x_callVV (av := [.int 0, .int 59]) (st := []) (m_X7_number  0 59 r6 r7 er7) sh_82 (by decide) rfl rfl (by decide) (by decide) lk_X7_291 cd_X7_number xd_X7_number rfl (Nat.le_of_ble_eq_true rfl) dX7_shutItem_56 ?_
  refine x_aload_n (q := 0) rfl rfl dX7_shutItem_59 ?_
  refine x_get (C := RX7) (T := TX7) sh_82 (by decide) rfl in_X7 20 (by decide) fl_X7_245 xf_7_20 dX7_shutItem_60 ?_
  refine x_if_ne (tgt := 83) dX7_shutItem_63 (by decide) ?_ ?_
  · exact x_vret rfl rfl dX7_shutItem_83
  · refine x_aload_n (q := 0) rfl rfl dX7_shutItem_66 ?_
    refine x_get (C := RX7) (T := TX7) sh_82 (by decide) rfl in_X7 0 (by decide) fl_X7_7 xf_7_0 dX7_shutItem_67 ?_
    refine x_iconst (v := (2)) (by decide) dX7_shutItem_70 ?_
    refine x_iload_n (q := 1) rfl rfl dX7_shutItem_71 ?_
    refine x_iastc sh_83 (by decide) ix_2 dX7_shutItem_72 ?_
    refine x_bm (fun m8 => ?_)
    refine x_aload_n (q := 0) rfl rfl dX7_shutItem_73 ?_
    refine x_get (C := RX7) (T := TX7) sh_82 (by decide) rfl in_X7 0 (by decide) fl_X7_7 xf_7_0 dX7_shutItem_74 ?_
    refine x_iconst (v := (3)) (by decide) dX7_shutItem_77 ?_
    refine x_aload_n (q := 0) rfl rfl dX7_shutItem_78 ?_
    refine x_get (C := RX7) (T := TX7) sh_82 (by decide) rfl in_X7 19 (by decide) fl_X7_256 xf_7_19 dX7_shutItem_79 ?_
    refine x_iastc sh_83 (by decide) ix_3 dX7_shutItem_82 ?_
    refine x_bm (fun m9 => ?_)
    exact x_vret rfl rfl dX7_shutItem_83
def f_X7_shutItem_j1   (s0 : Int32) (im : IM) : Option (IM) :=
  (f_X7_needs s0 im).bind fun r2 =>
  (f_X7_number 0 59 r2).bind fun r3 =>
  bnd (r3 82 19) fun v4 =>
  (f_X7_word r3).bind fun r5 =>
  if (lg_cmp r5 655) = 0 then
    f_X7_shutItem_j2 v4 1 r3
  else
    f_X7_shutItem_j2 v4 0 r3
set_option maxRecDepth 20000 in
set_option maxHeartbeats 4000000 in
theorem s_X7_shutItem_j1 {g : GX}    (s0 : Int32)  (im : IM) : X g md_X7_shutItem eV 17 [(0, .ref (g.1 82))] [.int s0, .ref (g.1 82)] im (f_X7_shutItem_j1 s0 im) := by
  refine x_bind (fun r2 er2 => ?_)
  refine x_callVV (av := [.int s0]) (st := []) (m_X7_needs  s0 im r2 er2) sh_82 (by decide) rfl rfl (by decide) (by decide) lk_X7_259 cd_X7_needs xd_X7_needs rfl (Nat.le_of_ble_eq_true rfl) dX7_shutItem_17 ?_
  refine x_aload_n (q := 0) rfl rfl dX7_shutItem_20 ?_
  refine x_iconst (v := (0)) (by decide) dX7_shutItem_21 ?_
  refine x_bipush (v := (59)) (by decide) dX7_shutItem_22 ?_
  refine x_bind (fun r3 er3 => ?_)
  refine x_callVV (av := [.int 0, .int 59]) (st := []) (m_X7_number  0 59 r2 r3 er3) sh_82 (by decide) rfl rfl (by decide) (by decide) lk_X7_291 cd_X7_number xd_X7_number rfl (Nat.le_of_ble_eq_true rfl) dX7_shutItem_24 ?_
  refine x_aload_n (q := 0) rfl rfl dX7_shutItem_27 ?_
  refine x_get (C := RX7) (T := TX7) sh_82 (by decide) rfl in_X7 19 (by decide) fl_X7_256 xf_7_19 dX7_shutItem_28 ?_
  refine x_bi (fun v4 => ?_)
  refine x_istore_n (lv' := [(1, .int v4), (0, .ref (g.1 82))]) rfl dX7_shutItem_31 (by decide) rfl ?_
  refine x_aload_n (q := 1) rfl rfl dX7_shutItem_32 ?_
  refine x_aload_n (q := 1) rfl rfl dX7_shutItem_33 ?_
  refine x_bind (fun r5 er5 => ?_)
  refine x_callVL (av := []) (st := [.ref (g.1 82)]) (m_X7_word   r3 r5 er5) sh_82 (by decide) rfl rfl (by decide) (by decide) lk_X7_263 cd_X7_word xd_X7_word rfl (Nat.le_of_ble_eq_true rfl) dX7_shutItem_34 ?_
  refine x_ldc2 cl_X7_296 dX7_shutItem_37 ?_
  refine x_lcmp dX7_shutItem_40 ?_
  refine x_if_ne (tgt := 48) dX7_shutItem_41 (by decide) ?_ ?_
  · refine x_iconst (v := (0)) (by decide) dX7_shutItem_48 ?_
    refine x_sub [1, 0] rfl ?_
    exact s_X7_shutItem_j2 v4 0 r3
  · refine x_iconst (v := (1)) (by decide) dX7_shutItem_44 ?_
    refine x_goto (tgt := 49) dX7_shutItem_45 (by decide) ?_
    refine x_sub [1, 0] rfl ?_
    exact s_X7_shutItem_j2 v4 1 r3
def f_X7_shutItem  (im : IM) : Option (IM) :=
  (f_X7_word im).bind fun r1 =>
  if (lg_cmp r1 631476) = 0 then
    f_X7_shutItem_j1 1 im
  else
    f_X7_shutItem_j1 0 im
set_option maxRecDepth 20000 in
set_option maxHeartbeats 4000000 in
theorem s_X7_shutItem {g : GX}   (im : IM) : X g md_X7_shutItem eV 0 [(0, .ref (g.1 82))] [] im (f_X7_shutItem im) := by
  refine x_aload_n (q := 0) rfl rfl dX7_shutItem_0 ?_
  refine x_aload_n (q := 0) rfl rfl dX7_shutItem_1 ?_
  refine x_bind (fun r1 er1 => ?_)
  refine x_callVL (av := []) (st := [.ref (g.1 82)]) (m_X7_word   im r1 er1) sh_82 (by decide) rfl rfl (by decide) (by decide) lk_X7_263 cd_X7_word xd_X7_word rfl (Nat.le_of_ble_eq_true rfl) dX7_shutItem_2 ?_
  refine x_ldc2 cl_X7_310 dX7_shutItem_5 ?_
  refine x_lcmp dX7_shutItem_8 ?_
  refine x_if_ne (tgt := 16) dX7_shutItem_9 (by decide) ?_ ?_
  · refine x_iconst (v := (0)) (by decide) dX7_shutItem_16 ?_
    refine x_sub [0] rfl ?_
    exact s_X7_shutItem_j1 0 im
  · refine x_iconst (v := (1)) (by decide) dX7_shutItem_12 ?_
    refine x_goto (tgt := 17) dX7_shutItem_13 (by decide) ?_
    refine x_sub [0] rfl ?_
    exact s_X7_shutItem_j1 1 im
theorem m_X7_shutItem {g : GX}   (im : IM) (r : IM) (hr : f_X7_shutItem im = some r) : xMet g 5 yX7_shutItem cX7_shutItem 2 none [.ref (g.1 82)] im (eV r) := x_met (by decide) (Nat.le_of_ble_eq_true rfl) rfl (s_X7_shutItem im) r hr
abbrev md_X7_thingItem : xM := (6, 6, RX7, cX7_thingItem, none)
def f_X7_thingItem_j4 (a1 : Int32)  (x2 : Int32) (x3 : Int32) (s0 : Int32) (im : IM) : Option (IM) :=
  (f_X7_perhaps s0 0 9 0 im).bind fun r7 =>
  if (r7.2 82 20) = 0 then
    (f_X7_newThing a1 x2 x3 r7.1 r7.2).bind fun r8 =>
    some r8.2
  else
    some r7.2
set_option maxRecDepth 20000 in
set_option maxHeartbeats 4000000 in
theorem s_X7_thingItem_j4 {g : GX} (a1 : Int32)    (x2 : Int32) (x3 : Int32) (s0 : Int32)  (im : IM) : X g md_X7_thingItem eV 88 [(0, .ref (g.1 82)), (1, .int a1), (2, .int x2), (3, .int x3)] [.int s0, .ref (g.1 82)] im (f_X7_thingItem_j4 a1 x2 x3 s0 im) := by
  refine x_iconst (v := (0)) (by decide) dX7_thingItem_88 ?_
  refine x_bipush (v := (9)) (by decide) dX7_thingItem_89 ?_
  refine x_iconst (v := (0)) (by decide) dX7_thingItem_91 ?_
  refine x_bind (fun r7 er7 => ?_)
  refine x_callVI (av := [.int s0, .int 0, .int 9, .int 0]) (st := []) (m_X7_perhaps  s0 0 9 0 im r7 er7) sh_82 (by decide) rfl rfl (by decide) (by decide) lk_X7_298 cd_X7_perhaps xd_X7_perhaps rfl (Nat.le_of_ble_eq_true rfl) dX7_thingItem_92 ?_
  refine x_istore (lv' := [(4, .int r7.1), (0, .ref (g.1 82)), (1, .int a1), (2, .int x2), (3, .int x3)]) dX7_thingItem_95 (by decide) rfl ?_
  refine x_aload_n (q := 1) rfl rfl dX7_thingItem_97 ?_
  refine x_get (C := RX7) (T := TX7) sh_82 (by decide) rfl in_X7 20 (by decide) fl_X7_245 xf_7_20 dX7_thingItem_98 ?_
  refine x_if_ne (tgt := 115) dX7_thingItem_101 (by decide) ?_ ?_
  · exact x_vret rfl rfl dX7_thingItem_115
  · refine x_aload_n (q := 1) rfl rfl dX7_thingItem_104 ?_
    refine x_iload_n (q := 2) rfl rfl dX7_thingItem_105 ?_
    refine x_iload_n (q := 3) rfl rfl dX7_thingItem_106 ?_
    refine x_iload_n (q := 4) rfl rfl dX7_thingItem_107 ?_
    refine x_iload (q := 0) rfl dX7_thingItem_108 ?_
    refine x_bind (fun r8 er8 => ?_)
    refine x_callVI (av := [.int a1, .int x2, .int x3, .int r7.1]) (st := []) (m_X7_newThing  a1 x2 x3 r7.1 r7.2 r8 er8) sh_82 (by decide) rfl rfl (by decide) (by decide) lk_X7_85 cd_X7_newThing xd_X7_newThing rfl (Nat.le_of_ble_eq_true rfl) dX7_thingItem_110 ?_
    refine x_istore (lv' := [(5, .int r8.1), (4, .int r7.1), (0, .ref (g.1 82)), (1, .int a1), (2, .int x2), (3, .int x3)]) dX7_thingItem_113 (by decide) rfl ?_
    exact x_vret rfl rfl dX7_thingItem_115
def f_X7_thingItem_j3 (a1 : Int32)  (x2 : Int32) (s0 : Int32) (im : IM) : Option (IM) :=
  (f_X7_perhaps s0 1 9 4 im).bind fun r5 =>
  (f_X7_word r5.2).bind fun r6 =>
  if (lg_cmp r6 398382) = 0 then
    f_X7_thingItem_j4 a1 x2 r5.1 1 r5.2
  else
    f_X7_thingItem_j4 a1 x2 r5.1 0 r5.2
set_option maxRecDepth 20000 in
set_option maxHeartbeats 4000000 in
theorem s_X7_thingItem_j3 {g : GX} (a1 : Int32)    (x2 : Int32) (s0 : Int32)  (im : IM) : X g md_X7_thingItem eV 63 [(0, .ref (g.1 82)), (1, .int a1), (2, .int x2)] [.int s0, .ref (g.1 82)] im (f_X7_thingItem_j3 a1 x2 s0 im) := by
  refine x_iconst (v := (1)) (by decide) dX7_thingItem_63 ?_
  refine x_bipush (v := (9)) (by decide) dX7_thingItem_64 ?_
  refine x_iconst (v := (4)) (by decide) dX7_thingItem_66 ?_
  refine x_bind (fun r5 er5 => ?_)
  refine x_callVI (av := [.int s0, .int 1, .int 9, .int 4]) (st := []) (m_X7_perhaps  s0 1 9 4 im r5 er5) sh_82 (by decide) rfl rfl (by decide) (by decide) lk_X7_298 cd_X7_perhaps xd_X7_perhaps rfl (Nat.le_of_ble_eq_true rfl) dX7_thingItem_67 ?_
  refine x_istore_n (lv' := [(3, .int r5.1), (0, .ref (g.1 82)), (1, .int a1), (2, .int x2)]) rfl dX7_thingItem_70 (by decide) rfl ?_
  refine x_aload_n (q := 1) rfl rfl dX7_thingItem_71 ?_
  refine x_aload_n (q := 1) rfl rfl dX7_thingItem_72 ?_
  refine x_bind (fun r6 er6 => ?_)
  refine x_callVL (av := []) (st := [.ref (g.1 82)]) (m_X7_word   r5.2 r6 er6) sh_82 (by decide) rfl rfl (by decide) (by decide) lk_X7_263 cd_X7_word xd_X7_word rfl (Nat.le_of_ble_eq_true rfl) dX7_thingItem_73 ?_
  refine x_ldc2 cl_X7_316 dX7_thingItem_76 ?_
  refine x_lcmp dX7_thingItem_79 ?_
  refine x_if_ne (tgt := 87) dX7_thingItem_80 (by decide) ?_ ?_
  · refine x_iconst (v := (0)) (by decide) dX7_thingItem_87 ?_
    refine x_sub [1, 2, 3, 0] rfl ?_
    exact s_X7_thingItem_j4 a1 x2 r5.1 0 r5.2
  · refine x_iconst (v := (1)) (by decide) dX7_thingItem_83 ?_
    refine x_goto (tgt := 88) dX7_thingItem_84 (by decide) ?_
    refine x_sub [1, 2, 3, 0] rfl ?_
    exact s_X7_thingItem_j4 a1 x2 r5.1 1 r5.2
def f_X7_thingItem_j2 (a1 : Int32)  (s0 : Int32) (im : IM) : Option (IM) :=
  (f_X7_perhaps s0 1 99 10 im).bind fun r3 =>
  (f_X7_word r3.2).bind fun r4 =>
  if (lg_cmp r4 19378579) = 0 then
    f_X7_thingItem_j3 a1 r3.1 1 r3.2
  else
    f_X7_thingItem_j3 a1 r3.1 0 r3.2
set_option maxRecDepth 20000 in
set_option maxHeartbeats 4000000 in
theorem s_X7_thingItem_j2 {g : GX} (a1 : Int32)    (s0 : Int32)  (im : IM) : X g md_X7_thingItem eV 37 [(0, .ref (g.1 82)), (1, .int a1)] [.int s0, .ref (g.1 82)] im (f_X7_thingItem_j2 a1 s0 im) := by
  refine x_iconst (v := (1)) (by decide) dX7_thingItem_37 ?_
  refine x_bipush (v := (99)) (by decide) dX7_thingItem_38 ?_
  refine x_bipush (v := (10)) (by decide) dX7_thingItem_40 ?_
  refine x_bind (fun r3 er3 => ?_)
  refine x_callVI (av := [.int s0, .int 1, .int 99, .int 10]) (st := []) (m_X7_perhaps  s0 1 99 10 im r3 er3) sh_82 (by decide) rfl rfl (by decide) (by decide) lk_X7_298 cd_X7_perhaps xd_X7_perhaps rfl (Nat.le_of_ble_eq_true rfl) dX7_thingItem_42 ?_
  refine x_istore_n (lv' := [(2, .int r3.1), (0, .ref (g.1 82)), (1, .int a1)]) rfl dX7_thingItem_45 (by decide) rfl ?_
  refine x_aload_n (q := 1) rfl rfl dX7_thingItem_46 ?_
  refine x_aload_n (q := 1) rfl rfl dX7_thingItem_47 ?_
  refine x_bind (fun r4 er4 => ?_)
  refine x_callVL (av := []) (st := [.ref (g.1 82)]) (m_X7_word   r3.2 r4 er4) sh_82 (by decide) rfl rfl (by decide) (by decide) lk_X7_263 cd_X7_word xd_X7_word rfl (Nat.le_of_ble_eq_true rfl) dX7_thingItem_48 ?_
  refine x_ldc2 cl_X7_314 dX7_thingItem_51 ?_
  refine x_lcmp dX7_thingItem_54 ?_
  refine x_if_ne (tgt := 62) dX7_thingItem_55 (by decide) ?_ ?_
  · refine x_iconst (v := (0)) (by decide) dX7_thingItem_62 ?_
    refine x_sub [1, 2, 0] rfl ?_
    exact s_X7_thingItem_j3 a1 r3.1 0 r3.2
  · refine x_iconst (v := (1)) (by decide) dX7_thingItem_58 ?_
    refine x_goto (tgt := 63) dX7_thingItem_59 (by decide) ?_
    refine x_sub [1, 2, 0] rfl ?_
    exact s_X7_thingItem_j3 a1 r3.1 1 r3.2
def f_X7_thingItem_j1 (a1 : Int32)  (s0 : Int32) (im : IM) : Option (IM) :=
  (f_X7_needs s0 im).bind fun r1 =>
  (f_X7_word r1).bind fun r2 =>
  if (lg_cmp r2 777297172) = 0 then
    f_X7_thingItem_j2 a1 1 r1
  else
    f_X7_thingItem_j2 a1 0 r1
set_option maxRecDepth 20000 in
set_option maxHeartbeats 4000000 in
theorem s_X7_thingItem_j1 {g : GX} (a1 : Int32)    (s0 : Int32)  (im : IM) : X g md_X7_thingItem eV 17 [(0, .ref (g.1 82)), (1, .int a1)] [.int s0, .ref (g.1 82)] im (f_X7_thingItem_j1 a1 s0 im) := by
  refine x_bind (fun r1 er1 => ?_)
  refine x_callVV (av := [.int s0]) (st := []) (m_X7_needs  s0 im r1 er1) sh_82 (by decide) rfl rfl (by decide) (by decide) lk_X7_259 cd_X7_needs xd_X7_needs rfl (Nat.le_of_ble_eq_true rfl) dX7_thingItem_17 ?_
  refine x_aload_n (q := 0) rfl rfl dX7_thingItem_20 ?_
  refine x_aload_n (q := 0) rfl rfl dX7_thingItem_21 ?_
  refine x_bind (fun r2 er2 => ?_)
  refine x_callVL (av := []) (st := [.ref (g.1 82)]) (m_X7_word   r1 r2 er2) sh_82 (by decide) rfl rfl (by decide) (by decide) lk_X7_263 cd_X7_word xd_X7_word rfl (Nat.le_of_ble_eq_true rfl) dX7_thingItem_22 ?_
  refine x_ldc2 cl_X7_312 dX7_thingItem_25 ?_
  refine x_lcmp dX7_thingItem_28 ?_
  refine x_if_ne (tgt := 36) dX7_thingItem_29 (by decide) ?_ ?_
  · refine x_iconst (v := (0)) (by decide) dX7_thingItem_36 ?_
    refine x_sub [0, 1] rfl ?_
    exact s_X7_thingItem_j2 a1 0 r1
  · refine x_iconst (v := (1)) (by decide) dX7_thingItem_32 ?_
    refine x_goto (tgt := 37) dX7_thingItem_33 (by decide) ?_
    refine x_sub [0, 1] rfl ?_
    exact s_X7_thingItem_j2 a1 1 r1
def f_X7_thingItem (a1 : Int32) (im : IM) : Option (IM) :=
  if 10 ≤ (im 83 1) then
    f_X7_thingItem_j1 a1 0 im
  else
    f_X7_thingItem_j1 a1 1 im
set_option maxRecDepth 20000 in
set_option maxHeartbeats 4000000 in
theorem s_X7_thingItem {g : GX}  (a1 : Int32) (im : IM) : X g md_X7_thingItem eV 0 [(0, .ref (g.1 82)), (1, .int a1)] [] im (f_X7_thingItem a1 im) := by
  refine x_aload_n (q := 0) rfl rfl dX7_thingItem_0 ?_
  refine x_aload_n (q := 0) rfl rfl dX7_thingItem_1 ?_
  refine x_get (C := RX7) (T := TX7) sh_82 (by decide) rfl in_X7 0 (by decide) fl_X7_7 xf_7_0 dX7_thingItem_2 ?_
  refine x_iconst (v := (1)) (by decide) dX7_thingItem_5 ?_
  refine x_ialdc sh_83 (by decide) ix_1 dX7_thingItem_6 ?_
  refine x_bipush (v := (10)) (by decide) dX7_thingItem_7 ?_
  refine x_icmp_ge (tgt := 16) dX7_thingItem_9 (by decide) ?_ ?_
  · refine x_iconst (v := (0)) (by decide) dX7_thingItem_16 ?_
    refine x_sub [0, 1] rfl ?_
    exact s_X7_thingItem_j1 a1 0 im
  · refine x_iconst (v := (1)) (by decide) dX7_thingItem_12 ?_
    refine x_goto (tgt := 17) dX7_thingItem_13 (by decide) ?_
    refine x_sub [0, 1] rfl ?_
    exact s_X7_thingItem_j1 a1 1 im
theorem m_X7_thingItem {g : GX}  (a1 : Int32) (im : IM) (r : IM) (hr : f_X7_thingItem a1 im = some r) : xMet g 6 yX7_thingItem cX7_thingItem 6 none [.ref (g.1 82), .int a1] im (eV r) := x_met (by decide) (Nat.le_of_ble_eq_true rfl) rfl (s_X7_thingItem a1 im) r hr
abbrev md_X7_item : xM := (8, 3, RX7, cX7_item, none)
def f_X7_item  (im : IM) : Option (IM) :=
  (f_X7_groundHere im).bind fun r1 =>
  (f_X7_kindHere im).bind fun r2 =>
  if r1 < 0 then
    if r2 < 0 then
      (f_X7_word im).bind fun r3 =>
      if (lg_cmp r3 198028) = 0 then
        (f_X7_fallItem im).bind fun r5 =>
        some r5
      else
        (f_X7_shutItem im).bind fun r4 =>
        some r4
    else
      (f_X7_thingItem r2 im).bind fun r6 =>
      some r6
  else
    (f_X7_groundItem r1 im).bind fun r7 =>
    some r7
set_option maxRecDepth 20000 in
set_option maxHeartbeats 4000000 in
theorem s_X7_item {g : GX}   (im : IM) : X g md_X7_item eV 0 [(0, .ref (g.1 82))] [] im (f_X7_item im) := by
  refine x_aload_n (q := 0) rfl rfl dX7_item_0 ?_
  refine x_bind (fun r1 er1 => ?_)
  refine x_callVR (av := []) (st := []) (m_X7_groundHere   im r1 er1) sh_82 (by decide) rfl rfl (by decide) (by decide) lk_X7_318 cd_X7_groundHere xd_X7_groundHere rfl (Nat.le_of_ble_eq_true rfl) dX7_item_1 ?_
  refine x_istore_n (lv' := [(1, .int r1), (0, .ref (g.1 82))]) rfl dX7_item_4 (by decide) rfl ?_
  refine x_aload_n (q := 1) rfl rfl dX7_item_5 ?_
  refine x_bind (fun r2 er2 => ?_)
  refine x_callVR (av := []) (st := []) (m_X7_kindHere   im r2 er2) sh_82 (by decide) rfl rfl (by decide) (by decide) lk_X7_321 cd_X7_kindHere xd_X7_kindHere rfl (Nat.le_of_ble_eq_true rfl) dX7_item_6 ?_
  refine x_istore_n (lv' := [(2, .int r2), (1, .int r1), (0, .ref (g.1 82))]) rfl dX7_item_9 (by decide) rfl ?_
  refine x_iload_n (q := 1) rfl rfl dX7_item_10 ?_
  refine x_if_lt (tgt := 22) dX7_item_11 (by decide) ?_ ?_
  · refine x_iload_n (q := 0) rfl rfl dX7_item_22 ?_
    refine x_if_lt (tgt := 34) dX7_item_23 (by decide) ?_ ?_
    · refine x_aload_n (q := 2) rfl rfl dX7_item_34 ?_
      refine x_bind (fun r3 er3 => ?_)
      refine x_callVL (av := []) (st := []) (m_X7_word   im r3 er3) sh_82 (by decide) rfl rfl (by decide) (by decide) lk_X7_263 cd_X7_word xd_X7_word rfl (Nat.le_of_ble_eq_true rfl) dX7_item_35 ?_
      refine x_ldc2 cl_X7_331 dX7_item_38 ?_
      refine x_lcmp dX7_item_41 ?_
      refine x_if_ne (tgt := 52) dX7_item_42 (by decide) ?_ ?_
      · refine x_aload_n (q := 2) rfl rfl dX7_item_52 ?_
        refine x_bind (fun r4 er4 => ?_)
        refine x_callVV (av := []) (st := []) (m_X7_shutItem   im r4 er4) sh_82 (by decide) rfl rfl (by decide) (by decide) lk_X7_336 cd_X7_shutItem xd_X7_shutItem rfl (Nat.le_of_ble_eq_true rfl) dX7_item_53 ?_
        exact x_vret rfl rfl dX7_item_56
      · refine x_aload_n (q := 2) rfl rfl dX7_item_45 ?_
        refine x_bind (fun r5 er5 => ?_)
        refine x_callVV (av := []) (st := []) (m_X7_fallItem   im r5 er5) sh_82 (by decide) rfl rfl (by decide) (by decide) lk_X7_333 cd_X7_fallItem xd_X7_fallItem rfl (Nat.le_of_ble_eq_true rfl) dX7_item_46 ?_
        refine x_goto (tgt := 56) dX7_item_49 (by decide) ?_
        exact x_vret rfl rfl dX7_item_56
    · refine x_aload_n (q := 2) rfl rfl dX7_item_26 ?_
      refine x_iload_n (q := 0) rfl rfl dX7_item_27 ?_
      refine x_bind (fun r6 er6 => ?_)
      refine x_callVV (av := [.int r2]) (st := []) (m_X7_thingItem  r2 im r6 er6) sh_82 (by decide) rfl rfl (by decide) (by decide) lk_X7_328 cd_X7_thingItem xd_X7_thingItem rfl (Nat.le_of_ble_eq_true rfl) dX7_item_28 ?_
      refine x_goto (tgt := 56) dX7_item_31 (by decide) ?_
      exact x_vret rfl rfl dX7_item_56
  · refine x_aload_n (q := 2) rfl rfl dX7_item_14 ?_
    refine x_iload_n (q := 1) rfl rfl dX7_item_15 ?_
    refine x_bind (fun r7 er7 => ?_)
    refine x_callVV (av := [.int r1]) (st := []) (m_X7_groundItem  r1 im r7 er7) sh_82 (by decide) rfl rfl (by decide) (by decide) lk_X7_324 cd_X7_groundItem xd_X7_groundItem rfl (Nat.le_of_ble_eq_true rfl) dX7_item_16 ?_
    refine x_goto (tgt := 56) dX7_item_19 (by decide) ?_
    exact x_vret rfl rfl dX7_item_56
theorem m_X7_item {g : GX}   (im : IM) (r : IM) (hr : f_X7_item im = some r) : xMet g 8 yX7_item cX7_item 3 none [.ref (g.1 82)] im (eV r) := x_met (by decide) (Nat.le_of_ble_eq_true rfl) rfl (s_X7_item im) r hr
abbrev md_X7_text : xM := (9, 2, RX7, cX7_text, (some .int))
def f_X7_text_j2   (x1 : Int32) (im : IM) : Option (Int32 × IM) :=
  bnd (up im 82 16 0) fun m6 =>
  if (m6 82 20) = 0 then
    some ((x1, m6))
  else
    (f_X7_putsBack m6).bind fun r7 =>
    some ((((-1)) - (r7 82 17), r7))
set_option maxRecDepth 20000 in
set_option maxHeartbeats 4000000 in
theorem s_X7_text_j2 {g : GX}    (x1 : Int32)  (im : IM) : X g md_X7_text eI 74 [(0, .ref (g.1 82)), (1, .int x1)] [] im (f_X7_text_j2 x1 im) := by
  refine x_aload_n (q := 0) rfl rfl dX7_text_74 ?_
  refine x_iconst (v := (0)) (by decide) dX7_text_75 ?_
  refine x_put (C := RX7) (T := TX7) (ty := .int) tyX7 tyX7_ok nmX7 sh_82 (by decide) rfl in_X7 16 (by decide) (by decide) fl_X7_219 rfl (by decide +kernel) rfl rfl dX7_text_76 ?_
  refine x_bm (fun m6 => ?_)
  refine x_aload_n (q := 0) rfl rfl dX7_text_79 ?_
  refine x_get (C := RX7) (T := TX7) sh_82 (by decide) rfl in_X7 20 (by decide) fl_X7_245 xf_7_20 dX7_text_80 ?_
  refine x_if_eq (tgt := 97) dX7_text_83 (by decide) ?_ ?_
  · refine x_iload_n (q := 1) rfl rfl dX7_text_97 ?_
    exact x_iret rfl rfl dX7_text_98
  · refine x_aload_n (q := 0) rfl rfl dX7_text_86 ?_
    refine x_bind (fun r7 er7 => ?_)
    refine x_callVV (av := []) (st := []) (m_X7_putsBack   m6 r7 er7) sh_82 (by decide) rfl rfl (by decide) (by decide) lk_X7_154 cd_X7_putsBack xd_X7_putsBack rfl (Nat.le_of_ble_eq_true rfl) dX7_text_87 ?_
    refine x_iconst (v := (-1)) (by decide) dX7_text_90 ?_
    refine x_aload_n (q := 0) rfl rfl dX7_text_91 ?_
    refine x_get (C := RX7) (T := TX7) sh_82 (by decide) rfl in_X7 17 (by decide) fl_X7_233 xf_7_17 dX7_text_92 ?_
    refine x_isub dX7_text_95 ?_
    exact x_iret rfl rfl dX7_text_96
def f_X7_text_j3  (k24 : Int32 → IM → Option (Int32 × IM)) (x1 : Int32) (s0 : Int32) (im : IM) : Option (Int32 × IM) :=
  (f_X7_needs s0 im).bind fun r9 =>
  (f_X7_item r9).bind fun r10 =>
  bnd (x1 + 1) fun v11 =>
  k24 v11 r10
set_option maxRecDepth 20000 in
set_option maxHeartbeats 4000000 in
theorem s_X7_text_j3 {g : GX}  (k24 : Int32 → IM → Option (Int32 × IM)) (hk24 : ∀ (x1 : Int32) (im : IM), X g md_X7_text eI 24 [(0, .ref (g.1 82)), (1, .int x1)] [] im (k24 x1 im)) (x1 : Int32) (s0 : Int32)  (im : IM) : X g md_X7_text eI 61 [(0, .ref (g.1 82)), (1, .int x1)] [.int s0, .ref (g.1 82)] im (f_X7_text_j3 k24 x1 s0 im) := by
  refine x_bind (fun r9 er9 => ?_)
  refine x_callVV (av := [.int s0]) (st := []) (m_X7_needs  s0 im r9 er9) sh_82 (by decide) rfl rfl (by decide) (by decide) lk_X7_259 cd_X7_needs xd_X7_needs rfl (Nat.le_of_ble_eq_true rfl) dX7_text_61 ?_
  refine x_aload_n (q := 0) rfl rfl dX7_text_64 ?_
  refine x_bind (fun r10 er10 => ?_)
  refine x_callVV (av := []) (st := []) (m_X7_item   r9 r10 er10) sh_82 (by decide) rfl rfl (by decide) (by decide) lk_X7_339 cd_X7_item xd_X7_item rfl (Nat.le_of_ble_eq_true rfl) dX7_text_65 ?_
  refine x_iinc (q := 1) (a := 1) (lv' := fun v11 => [(1, .int v11), (0, .ref (g.1 82))]) dX7_text_68 rfl (by decide) (by decide) (fun _ => rfl) (fun v11 => ?_)
  refine x_goto (tgt := 24) dX7_text_71 (by decide) ?_
  refine x_sub [1, 0] rfl ?_
  exact hk24 v11 r10
def f_X7_text_l1b    (k24 : Int32 → IM → Option (Int32 × IM)) (x1 : Int32) (im : IM) : Option (Int32 × IM) :=
  if (im 82 20) = 0 then
    if (im 82 16) ≤ (im 82 17) then
      f_X7_text_j2 x1 im
    else
      (f_X7_byteAt (im 82 17) im).bind fun r8 =>
      if r8 = 59 then
        f_X7_text_j3 k24 x1 1 im
      else
        f_X7_text_j3 k24 x1 0 im
  else
    f_X7_text_j2 x1 im
def f_X7_text_l1    : Nat → Int32 → IM → Option (Int32 × IM)
  | 0, _, _ => none
  | n + 1, x1, im => f_X7_text_l1b (f_X7_text_l1 n) x1 im
set_option maxRecDepth 20000 in
set_option maxHeartbeats 4000000 in
theorem s_X7_text_l1b {g : GX}    (k24 : Int32 → IM → Option (Int32 × IM)) (hk24 : ∀ (x1 : Int32) (im : IM), X g md_X7_text eI 24 [(0, .ref (g.1 82)), (1, .int x1)] [] im (k24 x1 im)) (x1 : Int32)  (im : IM) : X g md_X7_text eI 24 [(0, .ref (g.1 82)), (1, .int x1)] [] im (f_X7_text_l1b k24 x1 im) := by
  refine x_aload_n (q := 0) rfl rfl dX7_text_24 ?_
  refine x_get (C := RX7) (T := TX7) sh_82 (by decide) rfl in_X7 20 (by decide) fl_X7_245 xf_7_20 dX7_text_25 ?_
  refine x_if_ne (tgt := 74) dX7_text_28 (by decide) ?_ ?_
  · refine x_sub [0, 1] rfl ?_
    exact s_X7_text_j2 x1 im
  · refine x_aload_n (q := 0) rfl rfl dX7_text_31 ?_
    refine x_get (C := RX7) (T := TX7) sh_82 (by decide) rfl in_X7 17 (by decide) fl_X7_233 xf_7_17 dX7_text_32 ?_
    refine x_aload_n (q := 0) rfl rfl dX7_text_35 ?_
    refine x_get (C := RX7) (T := TX7) sh_82 (by decide) rfl in_X7 16 (by decide) fl_X7_219 xf_7_16 dX7_text_36 ?_
    refine x_icmp_ge (tgt := 74) dX7_text_39 (by decide) ?_ ?_
    · refine x_sub [0, 1] rfl ?_
      exact s_X7_text_j2 x1 im
    · refine x_aload_n (q := 0) rfl rfl dX7_text_42 ?_
      refine x_aload_n (q := 0) rfl rfl dX7_text_43 ?_
      refine x_aload_n (q := 0) rfl rfl dX7_text_44 ?_
      refine x_get (C := RX7) (T := TX7) sh_82 (by decide) rfl in_X7 17 (by decide) fl_X7_233 xf_7_17 dX7_text_45 ?_
      refine x_bind (fun r8 er8 => ?_)
      refine x_callVR (av := [.int (im 82 17)]) (st := [.ref (g.1 82)]) (m_X7_byteAt  ((im 82 17)) im r8 er8) sh_82 (by decide) rfl rfl (by decide) (by decide) lk_X7_236 cd_X7_byteAt xd_X7_byteAt rfl (Nat.le_of_ble_eq_true rfl) dX7_text_48 ?_
      refine x_bipush (v := (59)) (by decide) dX7_text_51 ?_
      refine x_icmp_ne (tgt := 60) dX7_text_53 (by decide) ?_ ?_
      · refine x_iconst (v := (0)) (by decide) dX7_text_60 ?_
        refine x_sub [0, 1] rfl ?_
        exact s_X7_text_j3 k24 hk24 x1 0 im
      · refine x_iconst (v := (1)) (by decide) dX7_text_56 ?_
        refine x_goto (tgt := 61) dX7_text_57 (by decide) ?_
        refine x_sub [0, 1] rfl ?_
        exact s_X7_text_j3 k24 hk24 x1 1 im
set_option maxRecDepth 20000 in
set_option maxHeartbeats 4000000 in
theorem s_X7_text_l1 {g : GX}    (n : Nat) : ∀ (x1 : Int32) (im : IM), X g md_X7_text eI 24 [(0, .ref (g.1 82)), (1, .int x1)] [] im (f_X7_text_l1 n x1 im) := by
  induction n with
  | zero => intro x1 im; exact x_none
  | succ n ih => intro x1 im; exact s_X7_text_l1b (f_X7_text_l1 n) ih x1 im
def f_X7_text  (im : IM) : Option (Int32 × IM) :=
  (f_X7_puts im).bind fun r1 =>
  bnd (up r1 82 18 0) fun m2 =>
  bnd (up m2 82 20 0) fun m3 =>
  (f_X7_token m3).bind fun r4 =>
  (f_X7_item r4).bind fun r5 =>
  f_X7_text_l1 xF 1 r5
set_option maxRecDepth 20000 in
set_option maxHeartbeats 4000000 in
theorem s_X7_text {g : GX}   (im : IM) : X g md_X7_text eI 0 [(0, .ref (g.1 82))] [] im (f_X7_text im) := by
  refine x_aload_n (q := 0) rfl rfl dX7_text_0 ?_
  refine x_bind (fun r1 er1 => ?_)
  refine x_callVV (av := []) (st := []) (m_X7_puts   im r1 er1) sh_82 (by decide) rfl rfl (by decide) (by decide) lk_X7_148 cd_X7_puts xd_X7_puts rfl (Nat.le_of_ble_eq_true rfl) dX7_text_1 ?_
  refine x_aload_n (q := 0) rfl rfl dX7_text_4 ?_
  refine x_iconst (v := (0)) (by decide) dX7_text_5 ?_
  refine x_put (C := RX7) (T := TX7) (ty := .int) tyX7 tyX7_ok nmX7 sh_82 (by decide) rfl in_X7 18 (by decide) (by decide) fl_X7_230 rfl (by decide +kernel) rfl rfl dX7_text_6 ?_
  refine x_bm (fun m2 => ?_)
  refine x_aload_n (q := 0) rfl rfl dX7_text_9 ?_
  refine x_iconst (v := (0)) (by decide) dX7_text_10 ?_
  refine x_put (C := RX7) (T := TX7) (ty := .boolean) tyX7 tyX7_ok nmX7 sh_82 (by decide) rfl in_X7 20 (by decide) (by decide) fl_X7_245 rfl (by decide +kernel) (by decide) (by decide) dX7_text_11 ?_
  refine x_bm (fun m3 => ?_)
  refine x_aload_n (q := 0) rfl rfl dX7_text_14 ?_
  refine x_bind (fun r4 er4 => ?_)
  refine x_callVV (av := []) (st := []) (m_X7_token   m3 r4 er4) sh_82 (by decide) rfl rfl (by decide) (by decide) lk_X7_249 cd_X7_token xd_X7_token rfl (Nat.le_of_ble_eq_true rfl) dX7_text_15 ?_
  refine x_iconst (v := (1)) (by decide) dX7_text_18 ?_
  refine x_istore_n (lv' := [(1, .int 1), (0, .ref (g.1 82))]) rfl dX7_text_19 (by decide) rfl ?_
  refine x_aload_n (q := 1) rfl rfl dX7_text_20 ?_
  refine x_bind (fun r5 er5 => ?_)
  refine x_callVV (av := []) (st := []) (m_X7_item   r4 r5 er5) sh_82 (by decide) rfl rfl (by decide) (by decide) lk_X7_339 cd_X7_item xd_X7_item rfl (Nat.le_of_ble_eq_true rfl) dX7_text_21 ?_
  refine x_sub [1, 0] rfl ?_
  exact s_X7_text_l1 xF 1 r5
theorem m_X7_text {g : GX}   (im : IM) (r : Int32 × IM) (hr : f_X7_text im = some r) : xMet g 9 yX7_text cX7_text 2 (some .int) [.ref (g.1 82)] im (eI r) := x_met (by decide) (Nat.le_of_ble_eq_true rfl) rfl (s_X7_text im) r hr
abbrev md_X7_hold : xM := (2, 3, RX7, cX7_hold, (some .int))
def f_X7_hold_j1 (a1 : Int32) (a2 : Int32)   (im : IM) : Option (Int32 × IM) :=
  (f_X7_finds ((-1000001)) im).bind fun r1 =>
  some ((r1.1, r1.2))
set_option maxRecDepth 20000 in
set_option maxHeartbeats 4000000 in
theorem s_X7_hold_j1 {g : GX} (a1 : Int32) (a2 : Int32)      (im : IM) : X g md_X7_hold eI 25 [(0, .ref (g.1 82))] [] im (f_X7_hold_j1 a1 a2 im) := by
  refine x_aload_n (q := 0) rfl rfl dX7_hold_25 ?_
  refine x_ldc co_X7_43 dX7_hold_26 ?_
  refine x_bind (fun r1 er1 => ?_)
  refine x_callVI (av := [.int ((-1000001))]) (st := []) (m_X7_finds  (((-1000001))) im r1 er1) sh_82 (by decide) rfl rfl (by decide) (by decide) lk_X7_59 cd_X7_finds xd_X7_finds rfl (Nat.le_of_ble_eq_true rfl) dX7_hold_28 ?_
  exact x_iret rfl rfl dX7_hold_31
def f_X7_hold_j2 (a1 : Int32) (a2 : Int32)   (im : IM) : Option (Int32 × IM) :=
  if inb (157 + a1) 167 = true then
    bnd (up im 83 (ix (157 + a1)) a2) fun m2 =>
    some ((1, m2))
  else none
set_option maxRecDepth 20000 in
set_option maxHeartbeats 4000000 in
theorem s_X7_hold_j2 {g : GX} (a1 : Int32) (a2 : Int32)      (im : IM) : X g md_X7_hold eI 32 [(0, .ref (g.1 82)), (1, .int a1), (2, .int a2)] [] im (f_X7_hold_j2 a1 a2 im) := by
  refine x_aload_n (q := 0) rfl rfl dX7_hold_32 ?_
  refine x_get (C := RX7) (T := TX7) sh_82 (by decide) rfl in_X7 0 (by decide) fl_X7_7 xf_7_0 dX7_hold_33 ?_
  refine x_sipush (v := (157)) (by decide) dX7_hold_36 ?_
  refine x_iload_n (q := 1) rfl rfl dX7_hold_39 ?_
  refine x_iadd dX7_hold_40 ?_
  refine x_iload_n (q := 2) rfl rfl dX7_hold_41 ?_
  refine x_iast sh_83 dX7_hold_42 ?_
  refine x_bm (fun m2 => ?_)
  refine x_iconst (v := (1)) (by decide) dX7_hold_43 ?_
  exact x_iret rfl rfl dX7_hold_44
def f_X7_hold (a1 : Int32) (a2 : Int32) (im : IM) : Option (Int32 × IM) :=
  if (f_X7_in a1.toInt64 0 9) = 0 then
    f_X7_hold_j1 a1 a2 im
  else
    if a2 = ((-1)) then
      f_X7_hold_j2 a1 a2 im
    else
      if (f_X7_isThing a2 im) = 0 then
        f_X7_hold_j1 a1 a2 im
      else
        f_X7_hold_j2 a1 a2 im
set_option maxRecDepth 20000 in
set_option maxHeartbeats 4000000 in
theorem s_X7_hold {g : GX}   (a1 : Int32) (a2 : Int32) (im : IM) : X g md_X7_hold eI 0 [(0, .ref (g.1 82)), (1, .int a1), (2, .int a2)] [] im (f_X7_hold a1 a2 im) := by
  refine x_iload_n (q := 1) rfl rfl dX7_hold_0 ?_
  refine x_i2l dX7_hold_1 ?_
  refine x_lconst (v := (0)) (by decide) dX7_hold_2 ?_
  refine x_ldc2 cl_X7_57 dX7_hold_3 ?_
  refine x_callSR (av := [.long a1.toInt64, .long 0, .long 9]) (st := []) (m_X7_in  a1.toInt64 0 9 im) rfl (by decide) (by decide) lk_X7_46 cd_X7_in xd_X7_in rfl (Nat.le_of_ble_eq_true rfl) dX7_hold_6 ?_
  refine x_if_eq (tgt := 25) dX7_hold_9 (by decide) ?_ ?_
  · refine x_sub [0] rfl ?_
    exact s_X7_hold_j1 a1 a2 im
  · refine x_iload_n (q := 2) rfl rfl dX7_hold_12 ?_
    refine x_iconst (v := (-1)) (by decide) dX7_hold_13 ?_
    refine x_icmp_eq (tgt := 32) dX7_hold_14 (by decide) ?_ ?_
    · refine x_sub [0, 1, 2] rfl ?_
      exact s_X7_hold_j2 a1 a2 im
    · refine x_aload_n (q := 0) rfl rfl dX7_hold_17 ?_
      refine x_iload_n (q := 2) rfl rfl dX7_hold_18 ?_
      refine x_callVR (av := [.int a2]) (st := []) (m_X7_isThing  a2 im) sh_82 (by decide) rfl rfl (by decide) (by decide) lk_X7_92 cd_X7_isThing xd_X7_isThing rfl (Nat.le_of_ble_eq_true rfl) dX7_hold_19 ?_
      refine x_if_ne (tgt := 32) dX7_hold_22 (by decide) ?_ ?_
      · refine x_sub [0, 1, 2] rfl ?_
        exact s_X7_hold_j2 a1 a2 im
      · refine x_sub [0] rfl ?_
        exact s_X7_hold_j1 a1 a2 im
theorem m_X7_hold {g : GX}   (a1 : Int32) (a2 : Int32) (im : IM) (r : Int32 × IM) (hr : f_X7_hold a1 a2 im = some r) : xMet g 2 yX7_hold cX7_hold 3 (some .int) [.ref (g.1 82), .int a1, .int a2] im (eI r) := x_met (by decide) (Nat.le_of_ble_eq_true rfl) rfl (s_X7_hold a1 a2 im) r hr
abbrev md_X7_as : xM := (2, 6, RX7, cX7_as, (some .int))
def f_X7_as_j1 (a1 : Int32) (a2 : Int32)   (im : IM) : Option (Int32 × IM) :=
  (f_X7_finds ((-1000001)) im).bind fun r1 =>
  some ((r1.1, r1.2))
set_option maxRecDepth 20000 in
set_option maxHeartbeats 4000000 in
theorem s_X7_as_j1 {g : GX} (a1 : Int32) (a2 : Int32)      (im : IM) : X g md_X7_as eI 24 [(0, .ref (g.1 82))] [] im (f_X7_as_j1 a1 a2 im) := by
  refine x_aload_n (q := 0) rfl rfl dX7_as_24 ?_
  refine x_ldc co_X7_43 dX7_as_25 ?_
  refine x_bind (fun r1 er1 => ?_)
  refine x_callVI (av := [.int ((-1000001))]) (st := []) (m_X7_finds  (((-1000001))) im r1 er1) sh_82 (by decide) rfl rfl (by decide) (by decide) lk_X7_59 cd_X7_finds xd_X7_finds rfl (Nat.le_of_ble_eq_true rfl) dX7_as_27 ?_
  exact x_iret rfl rfl dX7_as_30
def f_X7_as_j3 (a1 : Int32) (a2 : Int32)  (x3 : Int32) (s0 : Int32) (im : IM) : Option (Int32 × IM) :=
  if s0 = 0 then
    (f_X7_finds ((-1000003)) im).bind fun r4 =>
    some ((r4.1, r4.2))
  else
    some ((x3, im))
set_option maxRecDepth 20000 in
set_option maxHeartbeats 4000000 in
theorem s_X7_as_j3 {g : GX} (a1 : Int32) (a2 : Int32)    (x3 : Int32) (s0 : Int32)  (im : IM) : X g md_X7_as eI 105 [(0, .ref (g.1 82)), (3, .int x3)] [.int s0] im (f_X7_as_j3 a1 a2 x3 s0 im) := by
  refine x_istore (lv' := [(5, .int s0), (0, .ref (g.1 82)), (3, .int x3)]) dX7_as_105 (by decide) rfl ?_
  refine x_iload (q := 0) rfl dX7_as_107 ?_
  refine x_if_eq (tgt := 116) dX7_as_109 (by decide) ?_ ?_
  · refine x_aload_n (q := 1) rfl rfl dX7_as_116 ?_
    refine x_ldcw co_X7_343 dX7_as_117 ?_
    refine x_bind (fun r4 er4 => ?_)
    refine x_callVI (av := [.int ((-1000003))]) (st := []) (m_X7_finds  (((-1000003))) im r4 er4) sh_82 (by decide) rfl rfl (by decide) (by decide) lk_X7_59 cd_X7_finds xd_X7_finds rfl (Nat.le_of_ble_eq_true rfl) dX7_as_120 ?_
    exact x_iret rfl rfl dX7_as_123
  · refine x_iload_n (q := 2) rfl rfl dX7_as_112 ?_
    refine x_goto (tgt := 123) dX7_as_113 (by decide) ?_
    exact x_iret rfl rfl dX7_as_123
def f_X7_as_j2 (a1 : Int32) (a2 : Int32)  (x3 : Int32) (im : IM) : Option (Int32 × IM) :=
  f_X7_as_j3 a1 a2 x3 1 im
set_option maxRecDepth 20000 in
set_option maxHeartbeats 4000000 in
theorem s_X7_as_j2 {g : GX} (a1 : Int32) (a2 : Int32)    (x3 : Int32)  (im : IM) : X g md_X7_as eI 100 [(0, .ref (g.1 82)), (3, .int x3)] [] im (f_X7_as_j2 a1 a2 x3 im) := by
  refine x_iconst (v := (1)) (by decide) dX7_as_100 ?_
  refine x_goto (tgt := 105) dX7_as_101 (by decide) ?_
  refine x_sub [0, 1] rfl ?_
  exact s_X7_as_j3 a1 a2 x3 1 im
def f_X7_as_j5 (a1 : Int32) (a2 : Int32)  (x3 : Int32) (im : IM) : Option (Int32 × IM) :=
  f_X7_as_j3 a1 a2 x3 0 im
set_option maxRecDepth 20000 in
set_option maxHeartbeats 4000000 in
theorem s_X7_as_j5 {g : GX} (a1 : Int32) (a2 : Int32)    (x3 : Int32)  (im : IM) : X g md_X7_as eI 104 [(0, .ref (g.1 82)), (3, .int x3)] [] im (f_X7_as_j5 a1 a2 x3 im) := by
  refine x_iconst (v := (0)) (by decide) dX7_as_104 ?_
  refine x_sub [0, 1] rfl ?_
  exact s_X7_as_j3 a1 a2 x3 0 im
def f_X7_as_j4 (a1 : Int32) (a2 : Int32)  (x3 : Int32) (x4 : Int32) (im : IM) : Option (Int32 × IM) :=
  if a2 = 2 then
    if x4 = 4 then
      f_X7_as_j2 a1 a2 x3 im
    else
      f_X7_as_j5 a1 a2 x3 im
  else
    f_X7_as_j5 a1 a2 x3 im
set_option maxRecDepth 20000 in
set_option maxHeartbeats 4000000 in
theorem s_X7_as_j4 {g : GX} (a1 : Int32) (a2 : Int32)    (x3 : Int32) (x4 : Int32)  (im : IM) : X g md_X7_as eI 89 [(0, .ref (g.1 82)), (2, .int a2), (3, .int x3), (4, .int x4)] [] im (f_X7_as_j4 a1 a2 x3 x4 im) := by
  refine x_iload_n (q := 1) rfl rfl dX7_as_89 ?_
  refine x_iconst (v := (2)) (by decide) dX7_as_90 ?_
  refine x_icmp_ne (tgt := 104) dX7_as_91 (by decide) ?_ ?_
  · refine x_sub [0, 2] rfl ?_
    exact s_X7_as_j5 a1 a2 x3 im
  · refine x_iload (q := 3) rfl dX7_as_94 ?_
    refine x_iconst (v := (4)) (by decide) dX7_as_96 ?_
    refine x_icmp_ne (tgt := 104) dX7_as_97 (by decide) ?_ ?_
    · refine x_sub [0, 2] rfl ?_
      exact s_X7_as_j5 a1 a2 x3 im
    · refine x_sub [0, 2] rfl ?_
      exact s_X7_as_j2 a1 a2 x3 im
def f_X7_as (a1 : Int32) (a2 : Int32) (im : IM) : Option (Int32 × IM) :=
  if (f_X7_in a1.toInt64 0 9) = 0 then
    f_X7_as_j1 a1 a2 im
  else
    if (f_X7_in a2.toInt64 0 6) = 0 then
      f_X7_as_j1 a1 a2 im
    else
      if inb (157 + a1) 167 = true then
        bnd (im 83 (ix (157 + a1))) fun v2 =>
        if 0 ≤ v2 then
          (f_X7_its v2 0 im).bind fun r3 =>
          if a2 = 0 then
            f_X7_as_j2 a1 a2 v2 im
          else
            if r3 = a2 then
              f_X7_as_j2 a1 a2 v2 im
            else
              if a2 = 1 then
                if r3 = 3 then
                  f_X7_as_j2 a1 a2 v2 im
                else
                  if r3 = 5 then
                    f_X7_as_j2 a1 a2 v2 im
                  else
                    f_X7_as_j4 a1 a2 v2 r3 im
              else
                f_X7_as_j4 a1 a2 v2 r3 im
        else
          (f_X7_finds ((-1000006)) im).bind fun r5 =>
          some ((r5.1, r5.2))
      else none
set_option maxRecDepth 20000 in
set_option maxHeartbeats 4000000 in
theorem s_X7_as {g : GX}   (a1 : Int32) (a2 : Int32) (im : IM) : X g md_X7_as eI 0 [(0, .ref (g.1 82)), (1, .int a1), (2, .int a2)] [] im (f_X7_as a1 a2 im) := by
  refine x_iload_n (q := 1) rfl rfl dX7_as_0 ?_
  refine x_i2l dX7_as_1 ?_
  refine x_lconst (v := (0)) (by decide) dX7_as_2 ?_
  refine x_ldc2 cl_X7_57 dX7_as_3 ?_
  refine x_callSR (av := [.long a1.toInt64, .long 0, .long 9]) (st := []) (m_X7_in  a1.toInt64 0 9 im) rfl (by decide) (by decide) lk_X7_46 cd_X7_in xd_X7_in rfl (Nat.le_of_ble_eq_true rfl) dX7_as_6 ?_
  refine x_if_eq (tgt := 24) dX7_as_9 (by decide) ?_ ?_
  · refine x_sub [0] rfl ?_
    exact s_X7_as_j1 a1 a2 im
  · refine x_iload_n (q := 2) rfl rfl dX7_as_12 ?_
    refine x_i2l dX7_as_13 ?_
    refine x_lconst (v := (0)) (by decide) dX7_as_14 ?_
    refine x_ldc2 cl_X7_76 dX7_as_15 ?_
    refine x_callSR (av := [.long a2.toInt64, .long 0, .long 6]) (st := []) (m_X7_in  a2.toInt64 0 6 im) rfl (by decide) (by decide) lk_X7_46 cd_X7_in xd_X7_in rfl (Nat.le_of_ble_eq_true rfl) dX7_as_18 ?_
    refine x_if_ne (tgt := 31) dX7_as_21 (by decide) ?_ ?_
    · refine x_aload_n (q := 0) rfl rfl dX7_as_31 ?_
      refine x_get (C := RX7) (T := TX7) sh_82 (by decide) rfl in_X7 0 (by decide) fl_X7_7 xf_7_0 dX7_as_32 ?_
      refine x_sipush (v := (157)) (by decide) dX7_as_35 ?_
      refine x_iload_n (q := 1) rfl rfl dX7_as_38 ?_
      refine x_iadd dX7_as_39 ?_
      refine x_iald sh_83 dX7_as_40 ?_
      refine x_bi (fun v2 => ?_)
      refine x_istore_n (lv' := [(3, .int v2), (0, .ref (g.1 82)), (1, .int a1), (2, .int a2)]) rfl dX7_as_41 (by decide) rfl ?_
      refine x_iload_n (q := 0) rfl rfl dX7_as_42 ?_
      refine x_if_ge (tgt := 54) dX7_as_43 (by decide) ?_ ?_
      · refine x_aload_n (q := 1) rfl rfl dX7_as_54 ?_
        refine x_iload_n (q := 0) rfl rfl dX7_as_55 ?_
        refine x_iconst (v := (0)) (by decide) dX7_as_56 ?_
        refine x_bind (fun r3 er3 => ?_)
        refine x_callVR (av := [.int v2, .int 0]) (st := []) (m_X7_its  v2 0 im r3 er3) sh_82 (by decide) rfl rfl (by decide) (by decide) lk_X7_89 cd_X7_its xd_X7_its rfl (Nat.le_of_ble_eq_true rfl) dX7_as_57 ?_
        refine x_istore (lv' := [(4, .int r3), (3, .int v2), (0, .ref (g.1 82)), (1, .int a1), (2, .int a2)]) dX7_as_60 (by decide) rfl ?_
        refine x_iload_n (q := 4) rfl rfl dX7_as_62 ?_
        refine x_if_eq (tgt := 100) dX7_as_63 (by decide) ?_ ?_
        · refine x_sub [2, 1] rfl ?_
          exact s_X7_as_j2 a1 a2 v2 im
        · refine x_iload (q := 0) rfl dX7_as_66 ?_
          refine x_iload_n (q := 4) rfl rfl dX7_as_68 ?_
          refine x_icmp_eq (tgt := 100) dX7_as_69 (by decide) ?_ ?_
          · refine x_sub [2, 1] rfl ?_
            exact s_X7_as_j2 a1 a2 v2 im
          · refine x_iload_n (q := 4) rfl rfl dX7_as_72 ?_
            refine x_iconst (v := (1)) (by decide) dX7_as_73 ?_
            refine x_icmp_ne (tgt := 89) dX7_as_74 (by decide) ?_ ?_
            · refine x_sub [2, 4, 1, 0] rfl ?_
              exact s_X7_as_j4 a1 a2 v2 r3 im
            · refine x_iload (q := 0) rfl dX7_as_77 ?_
              refine x_iconst (v := (3)) (by decide) dX7_as_79 ?_
              refine x_icmp_eq (tgt := 100) dX7_as_80 (by decide) ?_ ?_
              · refine x_sub [2, 1] rfl ?_
                exact s_X7_as_j2 a1 a2 v2 im
              · refine x_iload (q := 0) rfl dX7_as_83 ?_
                refine x_iconst (v := (5)) (by decide) dX7_as_85 ?_
                refine x_icmp_eq (tgt := 100) dX7_as_86 (by decide) ?_ ?_
                · refine x_sub [2, 1] rfl ?_
                  exact s_X7_as_j2 a1 a2 v2 im
                · refine x_sub [2, 4, 1, 0] rfl ?_
                  exact s_X7_as_j4 a1 a2 v2 r3 im
      · refine x_aload_n (q := 1) rfl rfl dX7_as_46 ?_
        refine x_ldcw co_X7_342 dX7_as_47 ?_
        refine x_bind (fun r5 er5 => ?_)
        refine x_callVI (av := [.int ((-1000006))]) (st := []) (m_X7_finds  (((-1000006))) im r5 er5) sh_82 (by decide) rfl rfl (by decide) (by decide) lk_X7_59 cd_X7_finds xd_X7_finds rfl (Nat.le_of_ble_eq_true rfl) dX7_as_50 ?_
        exact x_iret rfl rfl dX7_as_53
    · refine x_sub [0] rfl ?_
      exact s_X7_as_j1 a1 a2 im
theorem m_X7_as {g : GX}   (a1 : Int32) (a2 : Int32) (im : IM) (r : Int32 × IM) (hr : f_X7_as a1 a2 im = some r) : xMet g 2 yX7_as cX7_as 6 (some .int) [.ref (g.1 82), .int a1, .int a2] im (eI r) := x_met (by decide) (Nat.le_of_ble_eq_true rfl) rfl (s_X7_as a1 a2 im) r hr
abbrev md_X7_isOne : xM := (1, 1, RX7, cX7_isOne, (some .boolean))
def f_X7_isOne (a0 : Int32)  : Int32 :=
  (zb (f_X7_in a0.toInt64 0 3))
set_option maxRecDepth 20000 in
set_option maxHeartbeats 4000000 in
theorem s_X7_isOne {g : GX}  (a0 : Int32) (im : IM) : X g md_X7_isOne (eR im) 0 [(0, .int a0)] [] im (some (f_X7_isOne a0)) := by
  refine x_iload_n (q := 0) rfl rfl dX7_isOne_0 ?_
  refine x_i2l dX7_isOne_1 ?_
  refine x_lconst (v := (0)) (by decide) dX7_isOne_2 ?_
  refine x_ldc2 cl_X7_138 dX7_isOne_3 ?_
  refine x_callSR (av := [.long a0.toInt64, .long 0, .long 3]) (st := []) (m_X7_in  a0.toInt64 0 3 im) rfl (by decide) (by decide) lk_X7_46 cd_X7_in xd_X7_in rfl (Nat.le_of_ble_eq_true rfl) dX7_isOne_6 ?_
  exact x_nret (y := zb (f_X7_in a0.toInt64 0 3)) rfl rfl rfl dX7_isOne_9
theorem m_X7_isOne {g : GX}  (a0 : Int32) (im : IM) : xMet g 1 yX7_isOne cX7_isOne 1 (some .boolean) [.int a0] im ((eR im) (f_X7_isOne a0)) := x_met (by decide) (Nat.le_of_ble_eq_true rfl) rfl (s_X7_isOne a0 im) _ rfl
abbrev md_X7_sheet : xM := (2, 5, RX7, cX7_sheet, (some .int))
def f_X7_sheet_j1 (a1 : Int32) (a2 : Int32) (a3 : Int32)   (im : IM) : Option (Int32 × IM) :=
  (f_X7_finds ((-1000001)) im).bind fun r1 =>
  some ((r1.1, r1.2))
set_option maxRecDepth 20000 in
set_option maxHeartbeats 4000000 in
theorem s_X7_sheet_j1 {g : GX} (a1 : Int32) (a2 : Int32) (a3 : Int32)      (im : IM) : X g md_X7_sheet eI 29 [(0, .ref (g.1 82))] [] im (f_X7_sheet_j1 a1 a2 a3 im) := by
  refine x_aload_n (q := 0) rfl rfl dX7_sheet_29 ?_
  refine x_ldc co_X7_43 dX7_sheet_30 ?_
  refine x_bind (fun r1 er1 => ?_)
  refine x_callVI (av := [.int ((-1000001))]) (st := []) (m_X7_finds  (((-1000001))) im r1 er1) sh_82 (by decide) rfl rfl (by decide) (by decide) lk_X7_59 cd_X7_finds xd_X7_finds rfl (Nat.le_of_ble_eq_true rfl) dX7_sheet_32 ?_
  exact x_iret rfl rfl dX7_sheet_35
def f_X7_sheet_l4b (a1 : Int32) (a2 : Int32) (a3 : Int32)   (k86 : Int32 → IM → Option (Int32 × IM)) (x4 : Int32) (im : IM) : Option (Int32 × IM) :=
  if 40 ≤ x4 then
    if inb a1 4 = true then
      some ((im 91 (ix a1), im))
    else none
  else
    if inb ((40 * a1) + x4) 160 = true then
      bnd (up im 92 (ix ((40 * a1) + x4)) 0) fun m4 =>
      bnd (x4 + 1) fun v5 =>
      k86 v5 m4
    else none
def f_X7_sheet_l4 (a1 : Int32) (a2 : Int32) (a3 : Int32)   : Nat → Int32 → IM → Option (Int32 × IM)
  | 0, _, _ => none
  | n + 1, x4, im => f_X7_sheet_l4b a1 a2 a3 (f_X7_sheet_l4 a1 a2 a3 n) x4 im
set_option maxRecDepth 20000 in
set_option maxHeartbeats 4000000 in
theorem s_X7_sheet_l4b {g : GX} (a1 : Int32) (a2 : Int32) (a3 : Int32)    (k86 : Int32 → IM → Option (Int32 × IM)) (hk86 : ∀ (x4 : Int32) (im : IM), X g md_X7_sheet eI 86 [(0, .ref (g.1 82)), (1, .int a1), (4, .int x4)] [] im (k86 x4 im)) (x4 : Int32)  (im : IM) : X g md_X7_sheet eI 86 [(0, .ref (g.1 82)), (1, .int a1), (4, .int x4)] [] im (f_X7_sheet_l4b a1 a2 a3 k86 x4 im) := by
  refine x_iload (q := 2) rfl dX7_sheet_86 ?_
  refine x_bipush (v := (40)) (by decide) dX7_sheet_88 ?_
  refine x_icmp_ge (tgt := 112) dX7_sheet_90 (by decide) ?_ ?_
  · refine x_aload_n (q := 0) rfl rfl dX7_sheet_112 ?_
    refine x_get (C := RX7) (T := TX7) sh_82 (by decide) rfl in_X7 24 (by decide) fl_X7_34 xf_7_24 dX7_sheet_113 ?_
    refine x_iload_n (q := 1) rfl rfl dX7_sheet_116 ?_
    refine x_iald sh_91 dX7_sheet_117 ?_
    exact x_iret rfl rfl dX7_sheet_118
  · refine x_aload_n (q := 0) rfl rfl dX7_sheet_93 ?_
    refine x_get (C := RX7) (T := TX7) sh_82 (by decide) rfl in_X7 25 (by decide) fl_X7_37 xf_7_25 dX7_sheet_94 ?_
    refine x_bipush (v := (40)) (by decide) dX7_sheet_97 ?_
    refine x_iload_n (q := 1) rfl rfl dX7_sheet_99 ?_
    refine x_imul dX7_sheet_100 ?_
    refine x_iload (q := 2) rfl dX7_sheet_101 ?_
    refine x_iadd dX7_sheet_103 ?_
    refine x_iconst (v := (0)) (by decide) dX7_sheet_104 ?_
    refine x_iast sh_92 dX7_sheet_105 ?_
    refine x_bm (fun m4 => ?_)
    refine x_iinc (q := 2) (a := 1) (lv' := fun v5 => [(4, .int v5), (0, .ref (g.1 82)), (1, .int a1)]) dX7_sheet_106 rfl (by decide) (by decide) (fun _ => rfl) (fun v5 => ?_)
    refine x_goto (tgt := 86) dX7_sheet_109 (by decide) ?_
    refine x_sub [1, 2, 0] rfl ?_
    exact hk86 v5 m4
set_option maxRecDepth 20000 in
set_option maxHeartbeats 4000000 in
theorem s_X7_sheet_l4 {g : GX} (a1 : Int32) (a2 : Int32) (a3 : Int32)    (n : Nat) : ∀ (x4 : Int32) (im : IM), X g md_X7_sheet eI 86 [(0, .ref (g.1 82)), (1, .int a1), (4, .int x4)] [] im (f_X7_sheet_l4 a1 a2 a3 n x4 im) := by
  induction n with
  | zero => intro x4 im; exact x_none
  | succ n ih => intro x4 im; exact s_X7_sheet_l4b a1 a2 a3 (f_X7_sheet_l4 a1 a2 a3 n) ih x4 im
def f_X7_sheet_j3 (a1 : Int32) (a2 : Int32) (a3 : Int32)  (s0 : Int32) (s1 : Int32) (im : IM) : Option (Int32 × IM) :=
  if inb s1 4 = true then
    bnd (up im 91 (ix s1) s0) fun m3 =>
    f_X7_sheet_l4 a1 a2 a3 xF 0 m3
  else none
set_option maxRecDepth 20000 in
set_option maxHeartbeats 4000000 in
theorem s_X7_sheet_j3 {g : GX} (a1 : Int32) (a2 : Int32) (a3 : Int32)    (s0 : Int32) (s1 : Int32)  (im : IM) : X g md_X7_sheet eI 82 [(0, .ref (g.1 82)), (1, .int a1)] [.int s0, .int s1, .ref (g.1 91)] im (f_X7_sheet_j3 a1 a2 a3 s0 s1 im) := by
  refine x_iast sh_91 dX7_sheet_82 ?_
  refine x_bm (fun m3 => ?_)
  refine x_iconst (v := (0)) (by decide) dX7_sheet_83 ?_
  refine x_istore (lv' := [(4, .int 0), (0, .ref (g.1 82)), (1, .int a1)]) dX7_sheet_84 (by decide) rfl ?_
  refine x_sub [1, 2, 0] rfl ?_
  exact s_X7_sheet_l4 a1 a2 a3 xF 0 m3
def f_X7_sheet_j2 (a1 : Int32) (a2 : Int32) (a3 : Int32)   (im : IM) : Option (Int32 × IM) :=
  if 0 ≤ a3 then
    if a3 ≤ 40 then
      if inb a1 4 = true then
        bnd (up im 90 (ix a1) a2) fun m2 =>
        if a2 = 0 then
          f_X7_sheet_j3 a1 a2 a3 0 a1 m2
        else
          f_X7_sheet_j3 a1 a2 a3 a3 a1 m2
      else none
    else
      (f_X7_finds ((-1000001)) im).bind fun r6 =>
      some ((r6.1, r6.2))
  else
    (f_X7_finds ((-1000007)) im).bind fun r7 =>
    some ((r7.1, r7.2))
set_option maxRecDepth 20000 in
set_option maxHeartbeats 4000000 in
theorem s_X7_sheet_j2 {g : GX} (a1 : Int32) (a2 : Int32) (a3 : Int32)      (im : IM) : X g md_X7_sheet eI 36 [(0, .ref (g.1 82)), (1, .int a1), (2, .int a2), (3, .int a3)] [] im (f_X7_sheet_j2 a1 a2 a3 im) := by
  refine x_iload_n (q := 3) rfl rfl dX7_sheet_36 ?_
  refine x_if_ge (tgt := 48) dX7_sheet_37 (by decide) ?_ ?_
  · refine x_iload_n (q := 3) rfl rfl dX7_sheet_48 ?_
    refine x_bipush (v := (40)) (by decide) dX7_sheet_49 ?_
    refine x_icmp_le (tgt := 61) dX7_sheet_51 (by decide) ?_ ?_
    · refine x_aload_n (q := 0) rfl rfl dX7_sheet_61 ?_
      refine x_get (C := RX7) (T := TX7) sh_82 (by decide) rfl in_X7 23 (by decide) fl_X7_31 xf_7_23 dX7_sheet_62 ?_
      refine x_iload_n (q := 1) rfl rfl dX7_sheet_65 ?_
      refine x_iload_n (q := 2) rfl rfl dX7_sheet_66 ?_
      refine x_iast sh_90 dX7_sheet_67 ?_
      refine x_bm (fun m2 => ?_)
      refine x_aload_n (q := 0) rfl rfl dX7_sheet_68 ?_
      refine x_get (C := RX7) (T := TX7) sh_82 (by decide) rfl in_X7 24 (by decide) fl_X7_34 xf_7_24 dX7_sheet_69 ?_
      refine x_iload_n (q := 1) rfl rfl dX7_sheet_72 ?_
      refine x_iload_n (q := 2) rfl rfl dX7_sheet_73 ?_
      refine x_if_ne (tgt := 81) dX7_sheet_74 (by decide) ?_ ?_
      · refine x_iload_n (q := 3) rfl rfl dX7_sheet_81 ?_
        refine x_sub [0, 1] rfl ?_
        exact s_X7_sheet_j3 a1 a2 a3 a3 a1 m2
      · refine x_iconst (v := (0)) (by decide) dX7_sheet_77 ?_
        refine x_goto (tgt := 82) dX7_sheet_78 (by decide) ?_
        refine x_sub [0, 1] rfl ?_
        exact s_X7_sheet_j3 a1 a2 a3 0 a1 m2
    · refine x_aload_n (q := 0) rfl rfl dX7_sheet_54 ?_
      refine x_ldc co_X7_43 dX7_sheet_55 ?_
      refine x_bind (fun r6 er6 => ?_)
      refine x_callVI (av := [.int ((-1000001))]) (st := []) (m_X7_finds  (((-1000001))) im r6 er6) sh_82 (by decide) rfl rfl (by decide) (by decide) lk_X7_59 cd_X7_finds xd_X7_finds rfl (Nat.le_of_ble_eq_true rfl) dX7_sheet_57 ?_
      exact x_iret rfl rfl dX7_sheet_60
  · refine x_aload_n (q := 0) rfl rfl dX7_sheet_40 ?_
    refine x_ldcw co_X7_347 dX7_sheet_41 ?_
    refine x_bind (fun r7 er7 => ?_)
    refine x_callVI (av := [.int ((-1000007))]) (st := []) (m_X7_finds  (((-1000007))) im r7 er7) sh_82 (by decide) rfl rfl (by decide) (by decide) lk_X7_59 cd_X7_finds xd_X7_finds rfl (Nat.le_of_ble_eq_true rfl) dX7_sheet_44 ?_
    exact x_iret rfl rfl dX7_sheet_47
def f_X7_sheet (a1 : Int32) (a2 : Int32) (a3 : Int32) (im : IM) : Option (Int32 × IM) :=
  if (f_X7_isOne a1) = 0 then
    f_X7_sheet_j1 a1 a2 a3 im
  else
    if a2 = 0 then
      f_X7_sheet_j2 a1 a2 a3 im
    else
      if a2 = 8 then
        f_X7_sheet_j2 a1 a2 a3 im
      else
        if a2 = 16 then
          f_X7_sheet_j2 a1 a2 a3 im
        else
          if a2 = 32 then
            f_X7_sheet_j2 a1 a2 a3 im
          else
            f_X7_sheet_j1 a1 a2 a3 im
set_option maxRecDepth 20000 in
set_option maxHeartbeats 4000000 in
theorem s_X7_sheet {g : GX}    (a1 : Int32) (a2 : Int32) (a3 : Int32) (im : IM) : X g md_X7_sheet eI 0 [(0, .ref (g.1 82)), (1, .int a1), (2, .int a2), (3, .int a3)] [] im (f_X7_sheet a1 a2 a3 im) := by
  refine x_iload_n (q := 1) rfl rfl dX7_sheet_0 ?_
  refine x_callSR (av := [.int a1]) (st := []) (m_X7_isOne  a1 im) rfl (by decide) (by decide) lk_X7_344 cd_X7_isOne xd_X7_isOne rfl (Nat.le_of_ble_eq_true rfl) dX7_sheet_1 ?_
  refine x_if_eq (tgt := 29) dX7_sheet_4 (by decide) ?_ ?_
  · refine x_sub [0] rfl ?_
    exact s_X7_sheet_j1 a1 a2 a3 im
  · refine x_iload_n (q := 2) rfl rfl dX7_sheet_7 ?_
    refine x_if_eq (tgt := 36) dX7_sheet_8 (by decide) ?_ ?_
    · refine x_sub [0, 1, 2, 3] rfl ?_
      exact s_X7_sheet_j2 a1 a2 a3 im
    · refine x_iload_n (q := 2) rfl rfl dX7_sheet_11 ?_
      refine x_bipush (v := (8)) (by decide) dX7_sheet_12 ?_
      refine x_icmp_eq (tgt := 36) dX7_sheet_14 (by decide) ?_ ?_
      · refine x_sub [0, 1, 2, 3] rfl ?_
        exact s_X7_sheet_j2 a1 a2 a3 im
      · refine x_iload_n (q := 2) rfl rfl dX7_sheet_17 ?_
        refine x_bipush (v := (16)) (by decide) dX7_sheet_18 ?_
        refine x_icmp_eq (tgt := 36) dX7_sheet_20 (by decide) ?_ ?_
        · refine x_sub [0, 1, 2, 3] rfl ?_
          exact s_X7_sheet_j2 a1 a2 a3 im
        · refine x_iload_n (q := 2) rfl rfl dX7_sheet_23 ?_
          refine x_bipush (v := (32)) (by decide) dX7_sheet_24 ?_
          refine x_icmp_eq (tgt := 36) dX7_sheet_26 (by decide) ?_ ?_
          · refine x_sub [0, 1, 2, 3] rfl ?_
            exact s_X7_sheet_j2 a1 a2 a3 im
          · refine x_sub [0] rfl ?_
            exact s_X7_sheet_j1 a1 a2 a3 im
theorem m_X7_sheet {g : GX}    (a1 : Int32) (a2 : Int32) (a3 : Int32) (im : IM) (r : Int32 × IM) (hr : f_X7_sheet a1 a2 a3 im = some r) : xMet g 2 yX7_sheet cX7_sheet 5 (some .int) [.ref (g.1 82), .int a1, .int a2, .int a3] im (eI r) := x_met (by decide) (Nat.le_of_ble_eq_true rfl) rfl (s_X7_sheet a1 a2 a3 im) r hr
abbrev md_X7_narrowed : xM := (0, 2, RX7, cX7_narrowed, (some .int))
def f_X7_narrowed (a0 : Int32) (a1 : Int32)  : Int32 :=
  if a0 = 8 then
    a1.toInt8.toInt32
  else
    if a0 = 16 then
      a1.toInt16.toInt32
    else
      a1
set_option maxRecDepth 20000 in
set_option maxHeartbeats 4000000 in
theorem s_X7_narrowed {g : GX}   (a0 : Int32) (a1 : Int32) (im : IM) : X g md_X7_narrowed (eR im) 0 [(0, .int a0), (1, .int a1)] [] im (some (f_X7_narrowed a0 a1)) := by
  refine x_iload_n (q := 0) rfl rfl dX7_narrowed_0 ?_
  refine x_bipush (v := (8)) (by decide) dX7_narrowed_1 ?_
  refine x_cs ?_
  refine x_icmp_ne (tgt := 11) dX7_narrowed_3 (by decide) ?_ ?_
  · refine x_iload_n (q := 0) rfl rfl dX7_narrowed_11 ?_
    refine x_bipush (v := (16)) (by decide) dX7_narrowed_12 ?_
    refine x_cs ?_
    refine x_icmp_ne (tgt := 22) dX7_narrowed_14 (by decide) ?_ ?_
    · refine x_iload_n (q := 1) rfl rfl dX7_narrowed_22 ?_
      exact x_iret rfl rfl dX7_narrowed_23
    · refine x_iload_n (q := 1) rfl rfl dX7_narrowed_17 ?_
      refine x_i2s dX7_narrowed_18 ?_
      refine x_goto (tgt := 23) dX7_narrowed_19 (by decide) ?_
      exact x_iret rfl rfl dX7_narrowed_23
  · refine x_iload_n (q := 1) rfl rfl dX7_narrowed_6 ?_
    refine x_i2b dX7_narrowed_7 ?_
    refine x_goto (tgt := 23) dX7_narrowed_8 (by decide) ?_
    exact x_iret rfl rfl dX7_narrowed_23
theorem m_X7_narrowed {g : GX}   (a0 : Int32) (a1 : Int32) (im : IM) : xMet g 0 yX7_narrowed cX7_narrowed 2 (some .int) [.int a0, .int a1] im ((eR im) (f_X7_narrowed a0 a1)) := x_met (by decide) (Nat.le_of_ble_eq_true rfl) rfl (s_X7_narrowed a0 a1 im) _ rfl
abbrev md_X7_wrong : xM := (2, 2, RX7, cX7_wrong, (some .int))
def f_X7_wrong (a1 : Int32) (im : IM) : Option (Int32) :=
  if (f_X7_isOne a1) = 0 then
    some ((-1000001))
  else
    if inb a1 4 = true then
      if (im 90 (ix a1)) = 0 then
        some ((-1000006))
      else
        some 0
    else none
set_option maxRecDepth 20000 in
set_option maxHeartbeats 4000000 in
theorem s_X7_wrong {g : GX}  (a1 : Int32) (im : IM) : X g md_X7_wrong (eR im) 0 [(0, .ref (g.1 82)), (1, .int a1)] [] im (f_X7_wrong a1 im) := by
  refine x_iload_n (q := 1) rfl rfl dX7_wrong_0 ?_
  refine x_callSR (av := [.int a1]) (st := []) (m_X7_isOne  a1 im) rfl (by decide) (by decide) lk_X7_344 cd_X7_isOne xd_X7_isOne rfl (Nat.le_of_ble_eq_true rfl) dX7_wrong_1 ?_
  refine x_if_ne (tgt := 12) dX7_wrong_4 (by decide) ?_ ?_
  · refine x_aload_n (q := 0) rfl rfl dX7_wrong_12 ?_
    refine x_get (C := RX7) (T := TX7) sh_82 (by decide) rfl in_X7 23 (by decide) fl_X7_31 xf_7_23 dX7_wrong_13 ?_
    refine x_iload_n (q := 1) rfl rfl dX7_wrong_16 ?_
    refine x_iald sh_90 dX7_wrong_17 ?_
    refine x_if_ne (tgt := 27) dX7_wrong_18 (by decide) ?_ ?_
    · refine x_iconst (v := (0)) (by decide) dX7_wrong_27 ?_
      exact x_iret rfl rfl dX7_wrong_28
    · refine x_ldcw co_X7_342 dX7_wrong_21 ?_
      refine x_goto (tgt := 28) dX7_wrong_24 (by decide) ?_
      exact x_iret rfl rfl dX7_wrong_28
  · refine x_ldc co_X7_43 dX7_wrong_7 ?_
    refine x_goto (tgt := 28) dX7_wrong_9 (by decide) ?_
    exact x_iret rfl rfl dX7_wrong_28
theorem m_X7_wrong {g : GX}  (a1 : Int32) (im : IM) (r : Int32) (hr : f_X7_wrong a1 im = some r) : xMet g 2 yX7_wrong cX7_wrong 2 (some .int) [.ref (g.1 82), .int a1] im ((eR im) r) := x_met (by decide) (Nat.le_of_ble_eq_true rfl) rfl (s_X7_wrong a1 im) r hr
abbrev md_X7_write : xM := (3, 5, RX7, cX7_write, (some .int))
def f_X7_write (a1 : Int32) (a2 : Int32) (a3 : Int32) (im : IM) : Option (Int32 × IM) :=
  (f_X7_wrong a1 im).bind fun r1 =>
  if r1 = 0 then
    if inb a1 4 = true then
      if (f_X7_in a2.toInt64 0 (((im 91 (ix a1)) - 1).toInt64)) = 0 then
        (f_X7_finds ((-1000001)) im).bind fun r3 =>
        some ((r3.1, r3.2))
      else
        if inb a1 4 = true then
          if inb ((40 * a1) + a2) 160 = true then
            bnd (up im 92 (ix ((40 * a1) + a2)) (f_X7_narrowed (im 90 (ix a1)) a3)) fun m2 =>
            some ((1, m2))
          else none
        else none
    else none
  else
    (f_X7_finds r1 im).bind fun r4 =>
    some ((r4.1, r4.2))
set_option maxRecDepth 20000 in
set_option maxHeartbeats 4000000 in
theorem s_X7_write {g : GX}    (a1 : Int32) (a2 : Int32) (a3 : Int32) (im : IM) : X g md_X7_write eI 0 [(0, .ref (g.1 82)), (1, .int a1), (2, .int a2), (3, .int a3)] [] im (f_X7_write a1 a2 a3 im) := by
  refine x_aload_n (q := 0) rfl rfl dX7_write_0 ?_
  refine x_iload_n (q := 1) rfl rfl dX7_write_1 ?_
  refine x_bind (fun r1 er1 => ?_)
  refine x_callVR (av := [.int a1]) (st := []) (m_X7_wrong  a1 im r1 er1) sh_82 (by decide) rfl rfl (by decide) (by decide) lk_X7_348 cd_X7_wrong xd_X7_wrong rfl (Nat.le_of_ble_eq_true rfl) dX7_write_2 ?_
  refine x_istore (lv' := [(4, .int r1), (0, .ref (g.1 82)), (1, .int a1), (2, .int a2), (3, .int a3)]) dX7_write_5 (by decide) rfl ?_
  refine x_iload (q := 0) rfl dX7_write_7 ?_
  refine x_if_eq (tgt := 19) dX7_write_9 (by decide) ?_ ?_
  · refine x_iload_n (q := 3) rfl rfl dX7_write_19 ?_
    refine x_i2l dX7_write_20 ?_
    refine x_lconst (v := (0)) (by decide) dX7_write_21 ?_
    refine x_aload_n (q := 1) rfl rfl dX7_write_22 ?_
    refine x_get (C := RX7) (T := TX7) sh_82 (by decide) rfl in_X7 24 (by decide) fl_X7_34 xf_7_24 dX7_write_23 ?_
    refine x_iload_n (q := 2) rfl rfl dX7_write_26 ?_
    refine x_iald sh_91 dX7_write_27 ?_
    refine x_iconst (v := (1)) (by decide) dX7_write_28 ?_
    refine x_isub dX7_write_29 ?_
    refine x_i2l dX7_write_30 ?_
    refine x_callSR (av := [.long a2.toInt64, .long 0, .long (((im 91 (ix a1)) - 1).toInt64)]) (st := []) (m_X7_in  a2.toInt64 0 ((((im 91 (ix a1)) - 1).toInt64)) im) rfl (by decide) (by decide) lk_X7_46 cd_X7_in xd_X7_in rfl (Nat.le_of_ble_eq_true rfl) dX7_write_31 ?_
    refine x_if_ne (tgt := 44) dX7_write_34 (by decide) ?_ ?_
    · refine x_aload_n (q := 1) rfl rfl dX7_write_44 ?_
      refine x_get (C := RX7) (T := TX7) sh_82 (by decide) rfl in_X7 25 (by decide) fl_X7_37 xf_7_25 dX7_write_45 ?_
      refine x_bipush (v := (40)) (by decide) dX7_write_48 ?_
      refine x_iload_n (q := 2) rfl rfl dX7_write_50 ?_
      refine x_imul dX7_write_51 ?_
      refine x_iload_n (q := 3) rfl rfl dX7_write_52 ?_
      refine x_iadd dX7_write_53 ?_
      refine x_aload_n (q := 1) rfl rfl dX7_write_54 ?_
      refine x_get (C := RX7) (T := TX7) sh_82 (by decide) rfl in_X7 23 (by decide) fl_X7_31 xf_7_23 dX7_write_55 ?_
      refine x_iload_n (q := 2) rfl rfl dX7_write_58 ?_
      refine x_iald sh_90 dX7_write_59 ?_
      refine x_iload_n (q := 4) rfl rfl dX7_write_60 ?_
      refine x_callSR (av := [.int (im 90 (ix a1)), .int a3]) (st := [.int ((40 * a1) + a2), .ref (g.1 92)]) (m_X7_narrowed  ((im 90 (ix a1))) a3 im) rfl (by decide) (by decide) lk_X7_351 cd_X7_narrowed xd_X7_narrowed rfl (Nat.le_of_ble_eq_true rfl) dX7_write_61 ?_
      refine x_iast sh_92 dX7_write_64 ?_
      refine x_bm (fun m2 => ?_)
      refine x_iconst (v := (1)) (by decide) dX7_write_65 ?_
      exact x_iret rfl rfl dX7_write_66
    · refine x_aload_n (q := 1) rfl rfl dX7_write_37 ?_
      refine x_ldc co_X7_43 dX7_write_38 ?_
      refine x_bind (fun r3 er3 => ?_)
      refine x_callVI (av := [.int ((-1000001))]) (st := []) (m_X7_finds  (((-1000001))) im r3 er3) sh_82 (by decide) rfl rfl (by decide) (by decide) lk_X7_59 cd_X7_finds xd_X7_finds rfl (Nat.le_of_ble_eq_true rfl) dX7_write_40 ?_
      exact x_iret rfl rfl dX7_write_43
  · refine x_aload_n (q := 1) rfl rfl dX7_write_12 ?_
    refine x_iload (q := 0) rfl dX7_write_13 ?_
    refine x_bind (fun r4 er4 => ?_)
    refine x_callVI (av := [.int r1]) (st := []) (m_X7_finds  r1 im r4 er4) sh_82 (by decide) rfl rfl (by decide) (by decide) lk_X7_59 cd_X7_finds xd_X7_finds rfl (Nat.le_of_ble_eq_true rfl) dX7_write_15 ?_
    exact x_iret rfl rfl dX7_write_18
theorem m_X7_write {g : GX}    (a1 : Int32) (a2 : Int32) (a3 : Int32) (im : IM) (r : Int32 × IM) (hr : f_X7_write a1 a2 a3 im = some r) : xMet g 3 yX7_write cX7_write 5 (some .int) [.ref (g.1 82), .int a1, .int a2, .int a3] im (eI r) := x_met (by decide) (Nat.le_of_ble_eq_true rfl) rfl (s_X7_write a1 a2 a3 im) r hr
abbrev md_X7_copy : xM := (2, 7, RX7, cX7_copy, (some .int))
def f_X7_copy_j1 (a1 : Int32) (a2 : Int32) (a3 : Int32) (a4 : Int32) (a5 : Int32)   (im : IM) : Option (Int32 × IM) :=
  (f_X7_finds ((-1000001)) im).bind fun r1 =>
  some ((r1.1, r1.2))
set_option maxRecDepth 20000 in
set_option maxHeartbeats 4000000 in
theorem s_X7_copy_j1 {g : GX} (a1 : Int32) (a2 : Int32) (a3 : Int32) (a4 : Int32) (a5 : Int32)      (im : IM) : X g md_X7_copy eI 14 [(0, .ref (g.1 82))] [] im (f_X7_copy_j1 a1 a2 a3 a4 a5 im) := by
  refine x_aload_n (q := 0) rfl rfl dX7_copy_14 ?_
  refine x_ldc co_X7_43 dX7_copy_15 ?_
  refine x_bind (fun r1 er1 => ?_)
  refine x_callVI (av := [.int ((-1000001))]) (st := []) (m_X7_finds  (((-1000001))) im r1 er1) sh_82 (by decide) rfl rfl (by decide) (by decide) lk_X7_59 cd_X7_finds xd_X7_finds rfl (Nat.le_of_ble_eq_true rfl) dX7_copy_17 ?_
  exact x_iret rfl rfl dX7_copy_20
def f_X7_copy_j2 (a1 : Int32) (a2 : Int32) (a3 : Int32) (a4 : Int32) (a5 : Int32)   (im : IM) : Option (Int32 × IM) :=
  (f_X7_finds ((-1000006)) im).bind fun r2 =>
  some ((r2.1, r2.2))
set_option maxRecDepth 20000 in
set_option maxHeartbeats 4000000 in
theorem s_X7_copy_j2 {g : GX} (a1 : Int32) (a2 : Int32) (a3 : Int32) (a4 : Int32) (a5 : Int32)      (im : IM) : X g md_X7_copy eI 39 [(0, .ref (g.1 82))] [] im (f_X7_copy_j2 a1 a2 a3 a4 a5 im) := by
  refine x_aload_n (q := 0) rfl rfl dX7_copy_39 ?_
  refine x_ldcw co_X7_342 dX7_copy_40 ?_
  refine x_bind (fun r2 er2 => ?_)
  refine x_callVI (av := [.int ((-1000006))]) (st := []) (m_X7_finds  (((-1000006))) im r2 er2) sh_82 (by decide) rfl rfl (by decide) (by decide) lk_X7_59 cd_X7_finds xd_X7_finds rfl (Nat.le_of_ble_eq_true rfl) dX7_copy_43 ?_
  exact x_iret rfl rfl dX7_copy_46
def f_X7_copy_j3 (a1 : Int32) (a2 : Int32) (a3 : Int32) (a4 : Int32) (a5 : Int32)   (im : IM) : Option (Int32 × IM) :=
  (f_X7_finds ((-1000001)) im).bind fun r3 =>
  some ((r3.1, r3.2))
set_option maxRecDepth 20000 in
set_option maxHeartbeats 4000000 in
theorem s_X7_copy_j3 {g : GX} (a1 : Int32) (a2 : Int32) (a3 : Int32) (a4 : Int32) (a5 : Int32)      (im : IM) : X g md_X7_copy eI 111 [(0, .ref (g.1 82))] [] im (f_X7_copy_j3 a1 a2 a3 a4 a5 im) := by
  refine x_aload_n (q := 0) rfl rfl dX7_copy_111 ?_
  refine x_ldc co_X7_43 dX7_copy_112 ?_
  refine x_bind (fun r3 er3 => ?_)
  refine x_callVI (av := [.int ((-1000001))]) (st := []) (m_X7_finds  (((-1000001))) im r3 er3) sh_82 (by decide) rfl rfl (by decide) (by decide) lk_X7_59 cd_X7_finds xd_X7_finds rfl (Nat.le_of_ble_eq_true rfl) dX7_copy_114 ?_
  exact x_iret rfl rfl dX7_copy_117
def f_X7_copy_l5b (a1 : Int32) (a2 : Int32) (a3 : Int32) (a4 : Int32) (a5 : Int32)   (k158 : Int32 → IM → Option (Int32 × IM)) (x6 : Int32) (im : IM) : Option (Int32 × IM) :=
  if a5 ≤ x6 then
    some ((a5, im))
  else
    if inb x6 40 = true then
      if inb (((40 * a3) + a4) + x6) 160 = true then
        bnd (up im 92 (ix (((40 * a3) + a4) + x6)) (im 93 (ix x6))) fun m4 =>
        bnd (x6 + 1) fun v5 =>
        k158 v5 m4
      else none
    else none
def f_X7_copy_l5 (a1 : Int32) (a2 : Int32) (a3 : Int32) (a4 : Int32) (a5 : Int32)   : Nat → Int32 → IM → Option (Int32 × IM)
  | 0, _, _ => none
  | n + 1, x6, im => f_X7_copy_l5b a1 a2 a3 a4 a5 (f_X7_copy_l5 a1 a2 a3 a4 a5 n) x6 im
set_option maxRecDepth 20000 in
set_option maxHeartbeats 4000000 in
theorem s_X7_copy_l5b {g : GX} (a1 : Int32) (a2 : Int32) (a3 : Int32) (a4 : Int32) (a5 : Int32)    (k158 : Int32 → IM → Option (Int32 × IM)) (hk158 : ∀ (x6 : Int32) (im : IM), X g md_X7_copy eI 158 [(0, .ref (g.1 82)), (3, .int a3), (4, .int a4), (5, .int a5), (6, .int x6)] [] im (k158 x6 im)) (x6 : Int32)  (im : IM) : X g md_X7_copy eI 158 [(0, .ref (g.1 82)), (3, .int a3), (4, .int a4), (5, .int a5), (6, .int x6)] [] im (f_X7_copy_l5b a1 a2 a3 a4 a5 k158 x6 im) := by
  refine x_iload (q := 4) rfl dX7_copy_158 ?_
  refine x_iload (q := 3) rfl dX7_copy_160 ?_
  refine x_icmp_ge (tgt := 193) dX7_copy_162 (by decide) ?_ ?_
  · refine x_iload (q := 3) rfl dX7_copy_193 ?_
    exact x_iret rfl rfl dX7_copy_195
  · refine x_aload_n (q := 0) rfl rfl dX7_copy_165 ?_
    refine x_get (C := RX7) (T := TX7) sh_82 (by decide) rfl in_X7 25 (by decide) fl_X7_37 xf_7_25 dX7_copy_166 ?_
    refine x_bipush (v := (40)) (by decide) dX7_copy_169 ?_
    refine x_iload_n (q := 1) rfl rfl dX7_copy_171 ?_
    refine x_imul dX7_copy_172 ?_
    refine x_iload (q := 2) rfl dX7_copy_173 ?_
    refine x_iadd dX7_copy_175 ?_
    refine x_iload (q := 4) rfl dX7_copy_176 ?_
    refine x_iadd dX7_copy_178 ?_
    refine x_aload_n (q := 0) rfl rfl dX7_copy_179 ?_
    refine x_get (C := RX7) (T := TX7) sh_82 (by decide) rfl in_X7 26 (by decide) fl_X7_40 xf_7_26 dX7_copy_180 ?_
    refine x_iload (q := 4) rfl dX7_copy_183 ?_
    refine x_iald sh_93 dX7_copy_185 ?_
    refine x_iast sh_92 dX7_copy_186 ?_
    refine x_bm (fun m4 => ?_)
    refine x_iinc (q := 4) (a := 1) (lv' := fun v5 => [(6, .int v5), (0, .ref (g.1 82)), (3, .int a3), (4, .int a4), (5, .int a5)]) dX7_copy_187 rfl (by decide) (by decide) (fun _ => rfl) (fun v5 => ?_)
    refine x_goto (tgt := 158) dX7_copy_190 (by decide) ?_
    refine x_sub [1, 2, 3, 4, 0] rfl ?_
    exact hk158 v5 m4
set_option maxRecDepth 20000 in
set_option maxHeartbeats 4000000 in
theorem s_X7_copy_l5 {g : GX} (a1 : Int32) (a2 : Int32) (a3 : Int32) (a4 : Int32) (a5 : Int32)    (n : Nat) : ∀ (x6 : Int32) (im : IM), X g md_X7_copy eI 158 [(0, .ref (g.1 82)), (3, .int a3), (4, .int a4), (5, .int a5), (6, .int x6)] [] im (f_X7_copy_l5 a1 a2 a3 a4 a5 n x6 im) := by
  induction n with
  | zero => intro x6 im; exact x_none
  | succ n ih => intro x6 im; exact s_X7_copy_l5b a1 a2 a3 a4 a5 (f_X7_copy_l5 a1 a2 a3 a4 a5 n) ih x6 im
def f_X7_copy_l4b (a1 : Int32) (a2 : Int32) (a3 : Int32) (a4 : Int32) (a5 : Int32)   (k121 : Int32 → IM → Option (Int32 × IM)) (x6 : Int32) (im : IM) : Option (Int32 × IM) :=
  if a5 ≤ x6 then
    f_X7_copy_l5 a1 a2 a3 a4 a5 xF 0 im
  else
    if inb (((40 * a1) + a2) + x6) 160 = true then
      if inb x6 40 = true then
        bnd (up im 93 (ix x6) (im 92 (ix (((40 * a1) + a2) + x6)))) fun m6 =>
        bnd (x6 + 1) fun v7 =>
        k121 v7 m6
      else none
    else none
def f_X7_copy_l4 (a1 : Int32) (a2 : Int32) (a3 : Int32) (a4 : Int32) (a5 : Int32)   : Nat → Int32 → IM → Option (Int32 × IM)
  | 0, _, _ => none
  | n + 1, x6, im => f_X7_copy_l4b a1 a2 a3 a4 a5 (f_X7_copy_l4 a1 a2 a3 a4 a5 n) x6 im
set_option maxRecDepth 20000 in
set_option maxHeartbeats 4000000 in
theorem s_X7_copy_l4b {g : GX} (a1 : Int32) (a2 : Int32) (a3 : Int32) (a4 : Int32) (a5 : Int32)    (k121 : Int32 → IM → Option (Int32 × IM)) (hk121 : ∀ (x6 : Int32) (im : IM), X g md_X7_copy eI 121 [(0, .ref (g.1 82)), (1, .int a1), (2, .int a2), (3, .int a3), (4, .int a4), (5, .int a5), (6, .int x6)] [] im (k121 x6 im)) (x6 : Int32)  (im : IM) : X g md_X7_copy eI 121 [(0, .ref (g.1 82)), (1, .int a1), (2, .int a2), (3, .int a3), (4, .int a4), (5, .int a5), (6, .int x6)] [] im (f_X7_copy_l4b a1 a2 a3 a4 a5 k121 x6 im) := by
  refine x_iload (q := 6) rfl dX7_copy_121 ?_
  refine x_iload (q := 5) rfl dX7_copy_123 ?_
  refine x_icmp_ge (tgt := 155) dX7_copy_125 (by decide) ?_ ?_
  · refine x_iconst (v := (0)) (by decide) dX7_copy_155 ?_
    refine x_istore (lv' := [(6, .int 0), (0, .ref (g.1 82)), (1, .int a1), (2, .int a2), (3, .int a3), (4, .int a4), (5, .int a5)]) dX7_copy_156 (by decide) rfl ?_
    refine x_sub [1, 4, 5, 6, 0] rfl ?_
    exact s_X7_copy_l5 a1 a2 a3 a4 a5 xF 0 im
  · refine x_aload_n (q := 0) rfl rfl dX7_copy_128 ?_
    refine x_get (C := RX7) (T := TX7) sh_82 (by decide) rfl in_X7 26 (by decide) fl_X7_40 xf_7_26 dX7_copy_129 ?_
    refine x_iload (q := 6) rfl dX7_copy_132 ?_
    refine x_aload_n (q := 0) rfl rfl dX7_copy_134 ?_
    refine x_get (C := RX7) (T := TX7) sh_82 (by decide) rfl in_X7 25 (by decide) fl_X7_37 xf_7_25 dX7_copy_135 ?_
    refine x_bipush (v := (40)) (by decide) dX7_copy_138 ?_
    refine x_iload_n (q := 1) rfl rfl dX7_copy_140 ?_
    refine x_imul dX7_copy_141 ?_
    refine x_iload_n (q := 2) rfl rfl dX7_copy_142 ?_
    refine x_iadd dX7_copy_143 ?_
    refine x_iload (q := 6) rfl dX7_copy_144 ?_
    refine x_iadd dX7_copy_146 ?_
    refine x_iald sh_92 dX7_copy_147 ?_
    refine x_iast sh_93 dX7_copy_148 ?_
    refine x_bm (fun m6 => ?_)
    refine x_iinc (q := 6) (a := 1) (lv' := fun v7 => [(6, .int v7), (0, .ref (g.1 82)), (1, .int a1), (2, .int a2), (3, .int a3), (4, .int a4), (5, .int a5)]) dX7_copy_149 rfl (by decide) (by decide) (fun _ => rfl) (fun v7 => ?_)
    refine x_goto (tgt := 121) dX7_copy_152 (by decide) ?_
    refine x_sub [1, 2, 3, 4, 5, 6, 0] rfl ?_
    exact hk121 v7 m6
set_option maxRecDepth 20000 in
set_option maxHeartbeats 4000000 in
theorem s_X7_copy_l4 {g : GX} (a1 : Int32) (a2 : Int32) (a3 : Int32) (a4 : Int32) (a5 : Int32)    (n : Nat) : ∀ (x6 : Int32) (im : IM), X g md_X7_copy eI 121 [(0, .ref (g.1 82)), (1, .int a1), (2, .int a2), (3, .int a3), (4, .int a4), (5, .int a5), (6, .int x6)] [] im (f_X7_copy_l4 a1 a2 a3 a4 a5 n x6 im) := by
  induction n with
  | zero => intro x6 im; exact x_none
  | succ n ih => intro x6 im; exact s_X7_copy_l4b a1 a2 a3 a4 a5 (f_X7_copy_l4 a1 a2 a3 a4 a5 n) ih x6 im
def f_X7_copy (a1 : Int32) (a2 : Int32) (a3 : Int32) (a4 : Int32) (a5 : Int32) (im : IM) : Option (Int32 × IM) :=
  if (f_X7_isOne a1) = 0 then
    f_X7_copy_j1 a1 a2 a3 a4 a5 im
  else
    if (f_X7_isOne a3) = 0 then
      f_X7_copy_j1 a1 a2 a3 a4 a5 im
    else
      if inb a1 4 = true then
        if (im 90 (ix a1)) = 0 then
          f_X7_copy_j2 a1 a2 a3 a4 a5 im
        else
          if inb a3 4 = true then
            if (im 90 (ix a3)) = 0 then
              f_X7_copy_j2 a1 a2 a3 a4 a5 im
            else
              if inb a1 4 = true then
                if inb a3 4 = true then
                  if (im 90 (ix a1)) = (im 90 (ix a3)) then
                    if a2 < 0 then
                      f_X7_copy_j3 a1 a2 a3 a4 a5 im
                    else
                      if a4 < 0 then
                        f_X7_copy_j3 a1 a2 a3 a4 a5 im
                      else
                        if a5 < 0 then
                          f_X7_copy_j3 a1 a2 a3 a4 a5 im
                        else
                          if inb a1 4 = true then
                            if ((im 91 (ix a1)) - a2) < a5 then
                              f_X7_copy_j3 a1 a2 a3 a4 a5 im
                            else
                              if inb a3 4 = true then
                                if a5 ≤ ((im 91 (ix a3)) - a4) then
                                  f_X7_copy_l4 a1 a2 a3 a4 a5 xF 0 im
                                else
                                  f_X7_copy_j3 a1 a2 a3 a4 a5 im
                              else none
                          else none
                  else
                    (f_X7_finds ((-1000003)) im).bind fun r8 =>
                    some ((r8.1, r8.2))
                else none
              else none
          else none
      else none
set_option maxRecDepth 20000 in
set_option maxHeartbeats 4000000 in
theorem s_X7_copy {g : GX}      (a1 : Int32) (a2 : Int32) (a3 : Int32) (a4 : Int32) (a5 : Int32) (im : IM) : X g md_X7_copy eI 0 [(0, .ref (g.1 82)), (1, .int a1), (2, .int a2), (3, .int a3), (4, .int a4), (5, .int a5)] [] im (f_X7_copy a1 a2 a3 a4 a5 im) := by
  refine x_iload_n (q := 1) rfl rfl dX7_copy_0 ?_
  refine x_callSR (av := [.int a1]) (st := []) (m_X7_isOne  a1 im) rfl (by decide) (by decide) lk_X7_344 cd_X7_isOne xd_X7_isOne rfl (Nat.le_of_ble_eq_true rfl) dX7_copy_1 ?_
  refine x_if_eq (tgt := 14) dX7_copy_4 (by decide) ?_ ?_
  · refine x_sub [0] rfl ?_
    exact s_X7_copy_j1 a1 a2 a3 a4 a5 im
  · refine x_iload_n (q := 3) rfl rfl dX7_copy_7 ?_
    refine x_callSR (av := [.int a3]) (st := []) (m_X7_isOne  a3 im) rfl (by decide) (by decide) lk_X7_344 cd_X7_isOne xd_X7_isOne rfl (Nat.le_of_ble_eq_true rfl) dX7_copy_8 ?_
    refine x_if_ne (tgt := 21) dX7_copy_11 (by decide) ?_ ?_
    · refine x_aload_n (q := 0) rfl rfl dX7_copy_21 ?_
      refine x_get (C := RX7) (T := TX7) sh_82 (by decide) rfl in_X7 23 (by decide) fl_X7_31 xf_7_23 dX7_copy_22 ?_
      refine x_iload_n (q := 1) rfl rfl dX7_copy_25 ?_
      refine x_iald sh_90 dX7_copy_26 ?_
      refine x_if_eq (tgt := 39) dX7_copy_27 (by decide) ?_ ?_
      · refine x_sub [0] rfl ?_
        exact s_X7_copy_j2 a1 a2 a3 a4 a5 im
      · refine x_aload_n (q := 0) rfl rfl dX7_copy_30 ?_
        refine x_get (C := RX7) (T := TX7) sh_82 (by decide) rfl in_X7 23 (by decide) fl_X7_31 xf_7_23 dX7_copy_31 ?_
        refine x_iload_n (q := 3) rfl rfl dX7_copy_34 ?_
        refine x_iald sh_90 dX7_copy_35 ?_
        refine x_if_ne (tgt := 47) dX7_copy_36 (by decide) ?_ ?_
        · refine x_aload_n (q := 0) rfl rfl dX7_copy_47 ?_
          refine x_get (C := RX7) (T := TX7) sh_82 (by decide) rfl in_X7 23 (by decide) fl_X7_31 xf_7_23 dX7_copy_48 ?_
          refine x_iload_n (q := 1) rfl rfl dX7_copy_51 ?_
          refine x_iald sh_90 dX7_copy_52 ?_
          refine x_aload_n (q := 0) rfl rfl dX7_copy_53 ?_
          refine x_get (C := RX7) (T := TX7) sh_82 (by decide) rfl in_X7 23 (by decide) fl_X7_31 xf_7_23 dX7_copy_54 ?_
          refine x_iload_n (q := 3) rfl rfl dX7_copy_57 ?_
          refine x_iald sh_90 dX7_copy_58 ?_
          refine x_icmp_eq (tgt := 70) dX7_copy_59 (by decide) ?_ ?_
          · refine x_iload_n (q := 2) rfl rfl dX7_copy_70 ?_
            refine x_if_lt (tgt := 111) dX7_copy_71 (by decide) ?_ ?_
            · refine x_sub [0] rfl ?_
              exact s_X7_copy_j3 a1 a2 a3 a4 a5 im
            · refine x_iload (q := 4) rfl dX7_copy_74 ?_
              refine x_if_lt (tgt := 111) dX7_copy_76 (by decide) ?_ ?_
              · refine x_sub [0] rfl ?_
                exact s_X7_copy_j3 a1 a2 a3 a4 a5 im
              · refine x_iload (q := 5) rfl dX7_copy_79 ?_
                refine x_if_lt (tgt := 111) dX7_copy_81 (by decide) ?_ ?_
                · refine x_sub [0] rfl ?_
                  exact s_X7_copy_j3 a1 a2 a3 a4 a5 im
                · refine x_iload (q := 5) rfl dX7_copy_84 ?_
                  refine x_aload_n (q := 0) rfl rfl dX7_copy_86 ?_
                  refine x_get (C := RX7) (T := TX7) sh_82 (by decide) rfl in_X7 24 (by decide) fl_X7_34 xf_7_24 dX7_copy_87 ?_
                  refine x_iload_n (q := 1) rfl rfl dX7_copy_90 ?_
                  refine x_iald sh_91 dX7_copy_91 ?_
                  refine x_iload_n (q := 2) rfl rfl dX7_copy_92 ?_
                  refine x_isub dX7_copy_93 ?_
                  refine x_icmp_gt (tgt := 111) dX7_copy_94 (by decide) ?_ ?_
                  · refine x_sub [0] rfl ?_
                    exact s_X7_copy_j3 a1 a2 a3 a4 a5 im
                  · refine x_iload (q := 5) rfl dX7_copy_97 ?_
                    refine x_aload_n (q := 0) rfl rfl dX7_copy_99 ?_
                    refine x_get (C := RX7) (T := TX7) sh_82 (by decide) rfl in_X7 24 (by decide) fl_X7_34 xf_7_24 dX7_copy_100 ?_
                    refine x_iload_n (q := 3) rfl rfl dX7_copy_103 ?_
                    refine x_iald sh_91 dX7_copy_104 ?_
                    refine x_iload (q := 4) rfl dX7_copy_105 ?_
                    refine x_isub dX7_copy_107 ?_
                    refine x_icmp_le (tgt := 118) dX7_copy_108 (by decide) ?_ ?_
                    · refine x_iconst (v := (0)) (by decide) dX7_copy_118 ?_
                      refine x_istore (lv' := [(6, .int 0), (0, .ref (g.1 82)), (1, .int a1), (2, .int a2), (3, .int a3), (4, .int a4), (5, .int a5)]) dX7_copy_119 (by decide) rfl ?_
                      refine x_sub [1, 2, 3, 4, 5, 6, 0] rfl ?_
                      exact s_X7_copy_l4 a1 a2 a3 a4 a5 xF 0 im
                    · refine x_sub [0] rfl ?_
                      exact s_X7_copy_j3 a1 a2 a3 a4 a5 im
          · refine x_aload_n (q := 0) rfl rfl dX7_copy_62 ?_
            refine x_ldcw co_X7_343 dX7_copy_63 ?_
            refine x_bind (fun r8 er8 => ?_)
            refine x_callVI (av := [.int ((-1000003))]) (st := []) (m_X7_finds  (((-1000003))) im r8 er8) sh_82 (by decide) rfl rfl (by decide) (by decide) lk_X7_59 cd_X7_finds xd_X7_finds rfl (Nat.le_of_ble_eq_true rfl) dX7_copy_66 ?_
            exact x_iret rfl rfl dX7_copy_69
        · refine x_sub [0] rfl ?_
          exact s_X7_copy_j2 a1 a2 a3 a4 a5 im
    · refine x_sub [0] rfl ?_
      exact s_X7_copy_j1 a1 a2 a3 a4 a5 im
theorem m_X7_copy {g : GX}      (a1 : Int32) (a2 : Int32) (a3 : Int32) (a4 : Int32) (a5 : Int32) (im : IM) (r : Int32 × IM) (hr : f_X7_copy a1 a2 a3 a4 a5 im = some r) : xMet g 2 yX7_copy cX7_copy 7 (some .int) [.ref (g.1 82), .int a1, .int a2, .int a3, .int a4, .int a5] im (eI r) := x_met (by decide) (Nat.le_of_ble_eq_true rfl) rfl (s_X7_copy a1 a2 a3 a4 a5 im) r hr
abbrev md_X7_load : xM := (3, 5, RX7, cX7_load, (some .int))
def f_X7_load_j2 (a1 : Int32) (a2 : Int32)  (x4 : Int32) (im : IM) : Option (Int32 × IM) :=
  some ((x4, im))
set_option maxRecDepth 20000 in
set_option maxHeartbeats 4000000 in
theorem s_X7_load_j2 {g : GX} (a1 : Int32) (a2 : Int32)    (x4 : Int32)  (im : IM) : X g md_X7_load eI 107 [(4, .int x4)] [] im (f_X7_load_j2 a1 a2 x4 im) := by
  refine x_iload (q := 0) rfl dX7_load_107 ?_
  exact x_iret rfl rfl dX7_load_109
def f_X7_load_l1b (a1 : Int32) (a2 : Int32)   (k33 : Int32 → IM → Option (Int32 × IM)) (x4 : Int32) (im : IM) : Option (Int32 × IM) :=
  if inb a1 4 = true then
    if (im 91 (ix a1)) ≤ x4 then
      f_X7_load_j2 a1 a2 x4 im
    else
      if 31 ≤ (a2 + x4) then
        f_X7_load_j2 a1 a2 x4 im
      else
        if inb ((40 * a1) + x4) 160 = true then
          if (f_X7_in ((im 92 (ix ((40 * a1) + x4))).toInt64) ((-9)) 9) = 0 then
            f_X7_load_j2 a1 a2 x4 im
          else
            if inb ((40 * a1) + x4) 160 = true then
              if inb ((5 + a2) + x4) 167 = true then
                bnd (up im 83 (ix ((5 + a2) + x4)) (im 92 (ix ((40 * a1) + x4)))) fun m2 =>
                bnd (x4 + 1) fun v3 =>
                k33 v3 m2
              else none
            else none
        else none
  else none
def f_X7_load_l1 (a1 : Int32) (a2 : Int32)   : Nat → Int32 → IM → Option (Int32 × IM)
  | 0, _, _ => none
  | n + 1, x4, im => f_X7_load_l1b a1 a2 (f_X7_load_l1 a1 a2 n) x4 im
set_option maxRecDepth 20000 in
set_option maxHeartbeats 4000000 in
theorem s_X7_load_l1b {g : GX} (a1 : Int32) (a2 : Int32)    (k33 : Int32 → IM → Option (Int32 × IM)) (hk33 : ∀ (x4 : Int32) (im : IM), X g md_X7_load eI 33 [(0, .ref (g.1 82)), (1, .int a1), (2, .int a2), (4, .int x4)] [] im (k33 x4 im)) (x4 : Int32)  (im : IM) : X g md_X7_load eI 33 [(0, .ref (g.1 82)), (1, .int a1), (2, .int a2), (4, .int x4)] [] im (f_X7_load_l1b a1 a2 k33 x4 im) := by
  refine x_iload (q := 3) rfl dX7_load_33 ?_
  refine x_aload_n (q := 0) rfl rfl dX7_load_35 ?_
  refine x_get (C := RX7) (T := TX7) sh_82 (by decide) rfl in_X7 24 (by decide) fl_X7_34 xf_7_24 dX7_load_36 ?_
  refine x_iload_n (q := 1) rfl rfl dX7_load_39 ?_
  refine x_iald sh_91 dX7_load_40 ?_
  refine x_icmp_ge (tgt := 107) dX7_load_41 (by decide) ?_ ?_
  · refine x_sub [3] rfl ?_
    exact s_X7_load_j2 a1 a2 x4 im
  · refine x_iload_n (q := 2) rfl rfl dX7_load_44 ?_
    refine x_iload (q := 3) rfl dX7_load_45 ?_
    refine x_iadd dX7_load_47 ?_
    refine x_bipush (v := (31)) (by decide) dX7_load_48 ?_
    refine x_icmp_ge (tgt := 107) dX7_load_50 (by decide) ?_ ?_
    · refine x_sub [3] rfl ?_
      exact s_X7_load_j2 a1 a2 x4 im
    · refine x_aload_n (q := 0) rfl rfl dX7_load_53 ?_
      refine x_get (C := RX7) (T := TX7) sh_82 (by decide) rfl in_X7 25 (by decide) fl_X7_37 xf_7_25 dX7_load_54 ?_
      refine x_bipush (v := (40)) (by decide) dX7_load_57 ?_
      refine x_iload_n (q := 1) rfl rfl dX7_load_59 ?_
      refine x_imul dX7_load_60 ?_
      refine x_iload (q := 3) rfl dX7_load_61 ?_
      refine x_iadd dX7_load_63 ?_
      refine x_iald sh_92 dX7_load_64 ?_
      refine x_i2l dX7_load_65 ?_
      refine x_ldc2 cl_X7_55 dX7_load_66 ?_
      refine x_ldc2 cl_X7_57 dX7_load_69 ?_
      refine x_callSR (av := [.long ((im 92 (ix ((40 * a1) + x4))).toInt64), .long ((-9)), .long 9]) (st := []) (m_X7_in  (((im 92 (ix ((40 * a1) + x4))).toInt64)) (((-9))) 9 im) rfl (by decide) (by decide) lk_X7_46 cd_X7_in xd_X7_in rfl (Nat.le_of_ble_eq_true rfl) dX7_load_72 ?_
      refine x_if_eq (tgt := 107) dX7_load_75 (by decide) ?_ ?_
      · refine x_sub [3] rfl ?_
        exact s_X7_load_j2 a1 a2 x4 im
      · refine x_aload_n (q := 0) rfl rfl dX7_load_78 ?_
        refine x_get (C := RX7) (T := TX7) sh_82 (by decide) rfl in_X7 0 (by decide) fl_X7_7 xf_7_0 dX7_load_79 ?_
        refine x_iconst (v := (5)) (by decide) dX7_load_82 ?_
        refine x_iload_n (q := 2) rfl rfl dX7_load_83 ?_
        refine x_iadd dX7_load_84 ?_
        refine x_iload (q := 3) rfl dX7_load_85 ?_
        refine x_iadd dX7_load_87 ?_
        refine x_aload_n (q := 0) rfl rfl dX7_load_88 ?_
        refine x_get (C := RX7) (T := TX7) sh_82 (by decide) rfl in_X7 25 (by decide) fl_X7_37 xf_7_25 dX7_load_89 ?_
        refine x_bipush (v := (40)) (by decide) dX7_load_92 ?_
        refine x_iload_n (q := 1) rfl rfl dX7_load_94 ?_
        refine x_imul dX7_load_95 ?_
        refine x_iload (q := 3) rfl dX7_load_96 ?_
        refine x_iadd dX7_load_98 ?_
        refine x_iald sh_92 dX7_load_99 ?_
        refine x_iast sh_83 dX7_load_100 ?_
        refine x_bm (fun m2 => ?_)
        refine x_iinc (q := 3) (a := 1) (lv' := fun v3 => [(4, .int v3), (0, .ref (g.1 82)), (1, .int a1), (2, .int a2)]) dX7_load_101 rfl (by decide) (by decide) (fun _ => rfl) (fun v3 => ?_)
        refine x_goto (tgt := 33) dX7_load_104 (by decide) ?_
        refine x_sub [1, 2, 3, 0] rfl ?_
        exact hk33 v3 m2
set_option maxRecDepth 20000 in
set_option maxHeartbeats 4000000 in
theorem s_X7_load_l1 {g : GX} (a1 : Int32) (a2 : Int32)    (n : Nat) : ∀ (x4 : Int32) (im : IM), X g md_X7_load eI 33 [(0, .ref (g.1 82)), (1, .int a1), (2, .int a2), (4, .int x4)] [] im (f_X7_load_l1 a1 a2 n x4 im) := by
  induction n with
  | zero => intro x4 im; exact x_none
  | succ n ih => intro x4 im; exact s_X7_load_l1b a1 a2 (f_X7_load_l1 a1 a2 n) ih x4 im
def f_X7_load (a1 : Int32) (a2 : Int32) (im : IM) : Option (Int32 × IM) :=
  (f_X7_wrong a1 im).bind fun r1 =>
  if r1 = 0 then
    if (f_X7_isCell a2) = 0 then
      (f_X7_finds ((-1000001)) im).bind fun r4 =>
      some ((r4.1, r4.2))
    else
      f_X7_load_l1 a1 a2 xF 0 im
  else
    (f_X7_finds r1 im).bind fun r5 =>
    some ((r5.1, r5.2))
set_option maxRecDepth 20000 in
set_option maxHeartbeats 4000000 in
theorem s_X7_load {g : GX}   (a1 : Int32) (a2 : Int32) (im : IM) : X g md_X7_load eI 0 [(0, .ref (g.1 82)), (1, .int a1), (2, .int a2)] [] im (f_X7_load a1 a2 im) := by
  refine x_aload_n (q := 0) rfl rfl dX7_load_0 ?_
  refine x_iload_n (q := 1) rfl rfl dX7_load_1 ?_
  refine x_bind (fun r1 er1 => ?_)
  refine x_callVR (av := [.int a1]) (st := []) (m_X7_wrong  a1 im r1 er1) sh_82 (by decide) rfl rfl (by decide) (by decide) lk_X7_348 cd_X7_wrong xd_X7_wrong rfl (Nat.le_of_ble_eq_true rfl) dX7_load_2 ?_
  refine x_istore_n (lv' := [(3, .int r1), (0, .ref (g.1 82)), (1, .int a1), (2, .int a2)]) rfl dX7_load_5 (by decide) rfl ?_
  refine x_iload_n (q := 0) rfl rfl dX7_load_6 ?_
  refine x_if_eq (tgt := 16) dX7_load_7 (by decide) ?_ ?_
  · refine x_iload_n (q := 3) rfl rfl dX7_load_16 ?_
    refine x_callSR (av := [.int a2]) (st := []) (m_X7_isCell  a2 im) rfl (by decide) (by decide) lk_X7_51 cd_X7_isCell xd_X7_isCell rfl (Nat.le_of_ble_eq_true rfl) dX7_load_17 ?_
    refine x_if_ne (tgt := 30) dX7_load_20 (by decide) ?_ ?_
    · refine x_iconst (v := (0)) (by decide) dX7_load_30 ?_
      refine x_istore (lv' := [(4, .int 0), (3, .int r1), (0, .ref (g.1 82)), (1, .int a1), (2, .int a2)]) dX7_load_31 (by decide) rfl ?_
      refine x_sub [2, 3, 4, 0] rfl ?_
      exact s_X7_load_l1 a1 a2 xF 0 im
    · refine x_aload_n (q := 1) rfl rfl dX7_load_23 ?_
      refine x_ldc co_X7_43 dX7_load_24 ?_
      refine x_bind (fun r4 er4 => ?_)
      refine x_callVI (av := [.int ((-1000001))]) (st := []) (m_X7_finds  (((-1000001))) im r4 er4) sh_82 (by decide) rfl rfl (by decide) (by decide) lk_X7_59 cd_X7_finds xd_X7_finds rfl (Nat.le_of_ble_eq_true rfl) dX7_load_26 ?_
      exact x_iret rfl rfl dX7_load_29
  · refine x_aload_n (q := 1) rfl rfl dX7_load_10 ?_
    refine x_iload_n (q := 0) rfl rfl dX7_load_11 ?_
    refine x_bind (fun r5 er5 => ?_)
    refine x_callVI (av := [.int r1]) (st := []) (m_X7_finds  r1 im r5 er5) sh_82 (by decide) rfl rfl (by decide) (by decide) lk_X7_59 cd_X7_finds xd_X7_finds rfl (Nat.le_of_ble_eq_true rfl) dX7_load_12 ?_
    exact x_iret rfl rfl dX7_load_15
theorem m_X7_load {g : GX}   (a1 : Int32) (a2 : Int32) (im : IM) (r : Int32 × IM) (hr : f_X7_load a1 a2 im = some r) : xMet g 3 yX7_load cX7_load 5 (some .int) [.ref (g.1 82), .int a1, .int a2] im (eI r) := x_met (by decide) (Nat.le_of_ble_eq_true rfl) rfl (s_X7_load a1 a2 im) r hr
abbrev md_X7_judge : xM := (5, 6, RX7, cX7_judge, (some .int))
def f_X7_judge_j2 (a1 : Int32) (a2 : Int32)  (x4 : Int32) (x5 : Int32) (im : IM) : Option (Int32 × IM) :=
  (f_X7_putsBack im).bind fun r3 =>
  if x5 = 0 then
    some ((1 + x4, r3))
  else
    some ((0, r3))
set_option maxRecDepth 20000 in
set_option maxHeartbeats 4000000 in
theorem s_X7_judge_j2 {g : GX} (a1 : Int32) (a2 : Int32)    (x4 : Int32) (x5 : Int32)  (im : IM) : X g md_X7_judge eI 127 [(0, .ref (g.1 82)), (4, .int x4), (5, .int x5)] [] im (f_X7_judge_j2 a1 a2 x4 x5 im) := by
  refine x_aload_n (q := 0) rfl rfl dX7_judge_127 ?_
  refine x_bind (fun r3 er3 => ?_)
  refine x_callVV (av := []) (st := []) (m_X7_putsBack   im r3 er3) sh_82 (by decide) rfl rfl (by decide) (by decide) lk_X7_154 cd_X7_putsBack xd_X7_putsBack rfl (Nat.le_of_ble_eq_true rfl) dX7_judge_128 ?_
  refine x_iload (q := 2) rfl dX7_judge_131 ?_
  refine x_if_eq (tgt := 140) dX7_judge_133 (by decide) ?_ ?_
  · refine x_iconst (v := (1)) (by decide) dX7_judge_140 ?_
    refine x_iload (q := 1) rfl dX7_judge_141 ?_
    refine x_iadd dX7_judge_143 ?_
    exact x_iret rfl rfl dX7_judge_144
  · refine x_iconst (v := (0)) (by decide) dX7_judge_136 ?_
    refine x_goto (tgt := 144) dX7_judge_137 (by decide) ?_
    exact x_iret rfl rfl dX7_judge_144
def f_X7_judge_j4 (a1 : Int32) (a2 : Int32) (k61 : Int32 → Int32 → IM → Option (Int32 × IM)) (x5 : Int32) (s0 : Int32) (s1 : Int32) (im : IM) : Option (Int32 × IM) :=
  bnd (s1 + s0) fun v6 =>
  k61 v6 x5 im
set_option maxRecDepth 20000 in
set_option maxHeartbeats 4000000 in
theorem s_X7_judge_j4 {g : GX} (a1 : Int32) (a2 : Int32)  (k61 : Int32 → Int32 → IM → Option (Int32 × IM)) (hk61 : ∀ (x4 : Int32) (x5 : Int32) (im : IM), X g md_X7_judge eI 61 [(0, .ref (g.1 82)), (1, .int a1), (2, .int a2), (4, .int x4), (5, .int x5)] [] im (k61 x4 x5 im)) (x5 : Int32) (s0 : Int32) (s1 : Int32)  (im : IM) : X g md_X7_judge eI 121 [(0, .ref (g.1 82)), (1, .int a1), (2, .int a2), (5, .int x5)] [.int s0, .int s1] im (f_X7_judge_j4 a1 a2 k61 x5 s0 s1 im) := by
  refine x_iadd dX7_judge_121 ?_
  refine x_bi (fun v6 => ?_)
  refine x_istore (lv' := [(4, .int v6), (0, .ref (g.1 82)), (1, .int a1), (2, .int a2), (5, .int x5)]) dX7_judge_122 (by decide) rfl ?_
  refine x_goto (tgt := 61) dX7_judge_124 (by decide) ?_
  refine x_sub [1, 2, 3, 0, 4] rfl ?_
  exact hk61 v6 x5 im
def f_X7_judge_j3 (a1 : Int32) (a2 : Int32) (k61 : Int32 → Int32 → IM → Option (Int32 × IM)) (x4 : Int32) (s0 : Int32) (im : IM) : Option (Int32 × IM) :=
  if s0 = 0 then
    f_X7_judge_j4 a1 a2 k61 s0 0 x4 im
  else
    f_X7_judge_j4 a1 a2 k61 s0 1 x4 im
set_option maxRecDepth 20000 in
set_option maxHeartbeats 4000000 in
theorem s_X7_judge_j3 {g : GX} (a1 : Int32) (a2 : Int32)  (k61 : Int32 → Int32 → IM → Option (Int32 × IM)) (hk61 : ∀ (x4 : Int32) (x5 : Int32) (im : IM), X g md_X7_judge eI 61 [(0, .ref (g.1 82)), (1, .int a1), (2, .int a2), (4, .int x4), (5, .int x5)] [] im (k61 x4 x5 im)) (x4 : Int32) (s0 : Int32)  (im : IM) : X g md_X7_judge eI 107 [(0, .ref (g.1 82)), (1, .int a1), (2, .int a2), (4, .int x4)] [.int s0] im (f_X7_judge_j3 a1 a2 k61 x4 s0 im) := by
  refine x_istore (lv' := [(5, .int s0), (0, .ref (g.1 82)), (1, .int a1), (2, .int a2), (4, .int x4)]) dX7_judge_107 (by decide) rfl ?_
  refine x_iload (q := 4) rfl dX7_judge_109 ?_
  refine x_iload (q := 0) rfl dX7_judge_111 ?_
  refine x_if_eq (tgt := 120) dX7_judge_113 (by decide) ?_ ?_
  · refine x_iconst (v := (0)) (by decide) dX7_judge_120 ?_
    refine x_sub [1, 2, 3, 0] rfl ?_
    exact s_X7_judge_j4 a1 a2 k61 hk61 s0 0 x4 im
  · refine x_iconst (v := (1)) (by decide) dX7_judge_116 ?_
    refine x_goto (tgt := 121) dX7_judge_117 (by decide) ?_
    refine x_sub [1, 2, 3, 0] rfl ?_
    exact s_X7_judge_j4 a1 a2 k61 hk61 s0 1 x4 im
def f_X7_judge_l1b (a1 : Int32) (a2 : Int32)   (k61 : Int32 → Int32 → IM → Option (Int32 × IM)) (x4 : Int32) (x5 : Int32) (im : IM) : Option (Int32 × IM) :=
  if x5 = 0 then
    f_X7_judge_j2 a1 a2 x4 x5 im
  else
    if inb a1 4 = true then
      if (im 91 (ix a1)) ≤ x4 then
        f_X7_judge_j2 a1 a2 x4 x5 im
      else
        (f_X7_minute im).bind fun r4 =>
        if inb ((40 * a1) + x4) 160 = true then
          (f_X7_its a2 4 r4).bind fun r5 =>
          if (r4 92 (ix ((40 * a1) + x4))) = r5 then
            f_X7_judge_j3 a1 a2 k61 x4 1 r4
          else
            f_X7_judge_j3 a1 a2 k61 x4 0 r4
        else none
    else none
def f_X7_judge_l1 (a1 : Int32) (a2 : Int32)   : Nat → Int32 → Int32 → IM → Option (Int32 × IM)
  | 0, _, _, _ => none
  | n + 1, x4, x5, im => f_X7_judge_l1b a1 a2 (f_X7_judge_l1 a1 a2 n) x4 x5 im
set_option maxRecDepth 20000 in
set_option maxHeartbeats 4000000 in
theorem s_X7_judge_l1b {g : GX} (a1 : Int32) (a2 : Int32)    (k61 : Int32 → Int32 → IM → Option (Int32 × IM)) (hk61 : ∀ (x4 : Int32) (x5 : Int32) (im : IM), X g md_X7_judge eI 61 [(0, .ref (g.1 82)), (1, .int a1), (2, .int a2), (4, .int x4), (5, .int x5)] [] im (k61 x4 x5 im)) (x4 : Int32) (x5 : Int32)  (im : IM) : X g md_X7_judge eI 61 [(0, .ref (g.1 82)), (1, .int a1), (2, .int a2), (4, .int x4), (5, .int x5)] [] im (f_X7_judge_l1b a1 a2 k61 x4 x5 im) := by
  refine x_iload (q := 4) rfl dX7_judge_61 ?_
  refine x_if_eq (tgt := 127) dX7_judge_63 (by decide) ?_ ?_
  · refine x_sub [0, 3, 4] rfl ?_
    exact s_X7_judge_j2 a1 a2 x4 x5 im
  · refine x_iload (q := 3) rfl dX7_judge_66 ?_
    refine x_aload_n (q := 0) rfl rfl dX7_judge_68 ?_
    refine x_get (C := RX7) (T := TX7) sh_82 (by decide) rfl in_X7 24 (by decide) fl_X7_34 xf_7_24 dX7_judge_69 ?_
    refine x_iload_n (q := 1) rfl rfl dX7_judge_72 ?_
    refine x_iald sh_91 dX7_judge_73 ?_
    refine x_icmp_ge (tgt := 127) dX7_judge_74 (by decide) ?_ ?_
    · refine x_sub [0, 3, 4] rfl ?_
      exact s_X7_judge_j2 a1 a2 x4 x5 im
    · refine x_aload_n (q := 0) rfl rfl dX7_judge_77 ?_
      refine x_bind (fun r4 er4 => ?_)
      refine x_callVV (av := []) (st := []) (m_X7_minute   im r4 er4) sh_82 (by decide) rfl rfl (by decide) (by decide) lk_X7_135 cd_X7_minute xd_X7_minute rfl (Nat.le_of_ble_eq_true rfl) dX7_judge_78 ?_
      refine x_aload_n (q := 0) rfl rfl dX7_judge_81 ?_
      refine x_get (C := RX7) (T := TX7) sh_82 (by decide) rfl in_X7 25 (by decide) fl_X7_37 xf_7_25 dX7_judge_82 ?_
      refine x_bipush (v := (40)) (by decide) dX7_judge_85 ?_
      refine x_iload_n (q := 1) rfl rfl dX7_judge_87 ?_
      refine x_imul dX7_judge_88 ?_
      refine x_iload (q := 3) rfl dX7_judge_89 ?_
      refine x_iadd dX7_judge_91 ?_
      refine x_iald sh_92 dX7_judge_92 ?_
      refine x_aload_n (q := 0) rfl rfl dX7_judge_93 ?_
      refine x_iload_n (q := 2) rfl rfl dX7_judge_94 ?_
      refine x_iconst (v := (4)) (by decide) dX7_judge_95 ?_
      refine x_bind (fun r5 er5 => ?_)
      refine x_callVR (av := [.int a2, .int 4]) (st := [.int (r4 92 (ix ((40 * a1) + x4)))]) (m_X7_its  a2 4 r4 r5 er5) sh_82 (by decide) rfl rfl (by decide) (by decide) lk_X7_89 cd_X7_its xd_X7_its rfl (Nat.le_of_ble_eq_true rfl) dX7_judge_96 ?_
      refine x_icmp_ne (tgt := 106) dX7_judge_99 (by decide) ?_ ?_
      · refine x_iconst (v := (0)) (by decide) dX7_judge_106 ?_
        refine x_sub [0, 1, 2, 3] rfl ?_
        exact s_X7_judge_j3 a1 a2 k61 hk61 x4 0 r4
      · refine x_iconst (v := (1)) (by decide) dX7_judge_102 ?_
        refine x_goto (tgt := 107) dX7_judge_103 (by decide) ?_
        refine x_sub [0, 1, 2, 3] rfl ?_
        exact s_X7_judge_j3 a1 a2 k61 hk61 x4 1 r4
set_option maxRecDepth 20000 in
set_option maxHeartbeats 4000000 in
theorem s_X7_judge_l1 {g : GX} (a1 : Int32) (a2 : Int32)    (n : Nat) : ∀ (x4 : Int32) (x5 : Int32) (im : IM), X g md_X7_judge eI 61 [(0, .ref (g.1 82)), (1, .int a1), (2, .int a2), (4, .int x4), (5, .int x5)] [] im (f_X7_judge_l1 a1 a2 n x4 x5 im) := by
  induction n with
  | zero => intro x4 x5 im; exact x_none
  | succ n ih => intro x4 x5 im; exact s_X7_judge_l1b a1 a2 (f_X7_judge_l1 a1 a2 n) ih x4 x5 im
def f_X7_judge (a1 : Int32) (a2 : Int32) (im : IM) : Option (Int32 × IM) :=
  (f_X7_wrong a1 im).bind fun r1 =>
  if r1 = 0 then
    if (f_X7_isThing a2 im) = 0 then
      (f_X7_finds ((-1000001)) im).bind fun r8 =>
      some ((r8.1, r8.2))
    else
      if inb a1 4 = true then
        if (f_X7_isTooLate (im 91 (ix a1)) im) = 0 then
          (f_X7_puts im).bind fun r2 =>
          f_X7_judge_l1 a1 a2 xF 0 1 r2
        else
          (f_X7_finds ((-1000005)) im).bind fun r7 =>
          some ((r7.1, r7.2))
      else none
  else
    (f_X7_finds r1 im).bind fun r9 =>
    some ((r9.1, r9.2))
set_option maxRecDepth 20000 in
set_option maxHeartbeats 4000000 in
theorem s_X7_judge {g : GX}   (a1 : Int32) (a2 : Int32) (im : IM) : X g md_X7_judge eI 0 [(0, .ref (g.1 82)), (1, .int a1), (2, .int a2)] [] im (f_X7_judge a1 a2 im) := by
  refine x_aload_n (q := 0) rfl rfl dX7_judge_0 ?_
  refine x_iload_n (q := 1) rfl rfl dX7_judge_1 ?_
  refine x_bind (fun r1 er1 => ?_)
  refine x_callVR (av := [.int a1]) (st := []) (m_X7_wrong  a1 im r1 er1) sh_82 (by decide) rfl rfl (by decide) (by decide) lk_X7_348 cd_X7_wrong xd_X7_wrong rfl (Nat.le_of_ble_eq_true rfl) dX7_judge_2 ?_
  refine x_istore_n (lv' := [(3, .int r1), (0, .ref (g.1 82)), (1, .int a1), (2, .int a2)]) rfl dX7_judge_5 (by decide) rfl ?_
  refine x_iload_n (q := 0) rfl rfl dX7_judge_6 ?_
  refine x_if_eq (tgt := 16) dX7_judge_7 (by decide) ?_ ?_
  · refine x_aload_n (q := 1) rfl rfl dX7_judge_16 ?_
    refine x_iload_n (q := 3) rfl rfl dX7_judge_17 ?_
    refine x_callVR (av := [.int a2]) (st := []) (m_X7_isThing  a2 im) sh_82 (by decide) rfl rfl (by decide) (by decide) lk_X7_92 cd_X7_isThing xd_X7_isThing rfl (Nat.le_of_ble_eq_true rfl) dX7_judge_18 ?_
    refine x_if_ne (tgt := 31) dX7_judge_21 (by decide) ?_ ?_
    · refine x_aload_n (q := 1) rfl rfl dX7_judge_31 ?_
      refine x_aload_n (q := 1) rfl rfl dX7_judge_32 ?_
      refine x_get (C := RX7) (T := TX7) sh_82 (by decide) rfl in_X7 24 (by decide) fl_X7_34 xf_7_24 dX7_judge_33 ?_
      refine x_iload_n (q := 2) rfl rfl dX7_judge_36 ?_
      refine x_iald sh_91 dX7_judge_37 ?_
      refine x_callVR (av := [.int (im 91 (ix a1))]) (st := []) (m_X7_isTooLate  ((im 91 (ix a1))) im) sh_82 (by decide) rfl rfl (by decide) (by decide) lk_X7_132 cd_X7_isTooLate xd_X7_isTooLate rfl (Nat.le_of_ble_eq_true rfl) dX7_judge_38 ?_
      refine x_if_eq (tgt := 51) dX7_judge_41 (by decide) ?_ ?_
      · refine x_aload_n (q := 1) rfl rfl dX7_judge_51 ?_
        refine x_bind (fun r2 er2 => ?_)
        refine x_callVV (av := []) (st := []) (m_X7_puts   im r2 er2) sh_82 (by decide) rfl rfl (by decide) (by decide) lk_X7_148 cd_X7_puts xd_X7_puts rfl (Nat.le_of_ble_eq_true rfl) dX7_judge_52 ?_
        refine x_iconst (v := (0)) (by decide) dX7_judge_55 ?_
        refine x_istore (lv' := [(4, .int 0), (3, .int r1), (0, .ref (g.1 82)), (1, .int a1), (2, .int a2)]) dX7_judge_56 (by decide) rfl ?_
        refine x_iconst (v := (1)) (by decide) dX7_judge_58 ?_
        refine x_istore (lv' := [(5, .int 1), (4, .int 0), (3, .int r1), (0, .ref (g.1 82)), (1, .int a1), (2, .int a2)]) dX7_judge_59 (by decide) rfl ?_
        refine x_sub [3, 4, 5, 1, 0] rfl ?_
        exact s_X7_judge_l1 a1 a2 xF 0 1 r2
      · refine x_aload_n (q := 1) rfl rfl dX7_judge_44 ?_
        refine x_ldc co_X7_109 dX7_judge_45 ?_
        refine x_bind (fun r7 er7 => ?_)
        refine x_callVI (av := [.int ((-1000005))]) (st := []) (m_X7_finds  (((-1000005))) im r7 er7) sh_82 (by decide) rfl rfl (by decide) (by decide) lk_X7_59 cd_X7_finds xd_X7_finds rfl (Nat.le_of_ble_eq_true rfl) dX7_judge_47 ?_
        exact x_iret rfl rfl dX7_judge_50
    · refine x_aload_n (q := 1) rfl rfl dX7_judge_24 ?_
      refine x_ldc co_X7_43 dX7_judge_25 ?_
      refine x_bind (fun r8 er8 => ?_)
      refine x_callVI (av := [.int ((-1000001))]) (st := []) (m_X7_finds  (((-1000001))) im r8 er8) sh_82 (by decide) rfl rfl (by decide) (by decide) lk_X7_59 cd_X7_finds xd_X7_finds rfl (Nat.le_of_ble_eq_true rfl) dX7_judge_27 ?_
      exact x_iret rfl rfl dX7_judge_30
  · refine x_aload_n (q := 1) rfl rfl dX7_judge_10 ?_
    refine x_iload_n (q := 0) rfl rfl dX7_judge_11 ?_
    refine x_bind (fun r9 er9 => ?_)
    refine x_callVI (av := [.int r1]) (st := []) (m_X7_finds  r1 im r9 er9) sh_82 (by decide) rfl rfl (by decide) (by decide) lk_X7_59 cd_X7_finds xd_X7_finds rfl (Nat.le_of_ble_eq_true rfl) dX7_judge_12 ?_
    exact x_iret rfl rfl dX7_judge_15
theorem m_X7_judge {g : GX}   (a1 : Int32) (a2 : Int32) (im : IM) (r : Int32 × IM) (hr : f_X7_judge a1 a2 im = some r) : xMet g 5 yX7_judge cX7_judge 6 (some .int) [.ref (g.1 82), .int a1, .int a2] im (eI r) := x_met (by decide) (Nat.le_of_ble_eq_true rfl) rfl (s_X7_judge a1 a2 im) r hr
abbrev md_X7_image : xM := (0, 2, RX7, cX7_image, (some .int))
def f_X7_image_l1b    (k2 : Int32 → IM → Option (Int32 × IM)) (x1 : Int32) (im : IM) : Option (Int32 × IM) :=
  if 167 ≤ x1 then
    bnd (up im 82 4 1) fun m1 =>
    some ((1, m1))
  else
    if inb x1 167 = true then
      if inb x1 167 = true then
        bnd (up im 84 (ix x1) (im 83 (ix x1))) fun m2 =>
        bnd (x1 + 1) fun v3 =>
        k2 v3 m2
      else none
    else none
def f_X7_image_l1    : Nat → Int32 → IM → Option (Int32 × IM)
  | 0, _, _ => none
  | n + 1, x1, im => f_X7_image_l1b (f_X7_image_l1 n) x1 im
set_option maxRecDepth 20000 in
set_option maxHeartbeats 4000000 in
theorem s_X7_image_l1b {g : GX}    (k2 : Int32 → IM → Option (Int32 × IM)) (hk2 : ∀ (x1 : Int32) (im : IM), X g md_X7_image eI 2 [(0, .ref (g.1 82)), (1, .int x1)] [] im (k2 x1 im)) (x1 : Int32)  (im : IM) : X g md_X7_image eI 2 [(0, .ref (g.1 82)), (1, .int x1)] [] im (f_X7_image_l1b k2 x1 im) := by
  refine x_iload_n (q := 1) rfl rfl dX7_image_2 ?_
  refine x_sipush (v := (167)) (by decide) dX7_image_3 ?_
  refine x_icmp_ge (tgt := 27) dX7_image_6 (by decide) ?_ ?_
  · refine x_aload_n (q := 0) rfl rfl dX7_image_27 ?_
    refine x_iconst (v := (1)) (by decide) dX7_image_28 ?_
    refine x_put (C := RX7) (T := TX7) (ty := .boolean) tyX7 tyX7_ok nmX7 sh_82 (by decide) rfl in_X7 4 (by decide) (by decide) fl_X7_354 rfl (by decide +kernel) (by decide) (by decide) dX7_image_29 ?_
    refine x_bm (fun m1 => ?_)
    refine x_iconst (v := (1)) (by decide) dX7_image_32 ?_
    exact x_iret rfl rfl dX7_image_33
  · refine x_aload_n (q := 0) rfl rfl dX7_image_9 ?_
    refine x_get (C := RX7) (T := TX7) sh_82 (by decide) rfl in_X7 1 (by decide) fl_X7_13 xf_7_1 dX7_image_10 ?_
    refine x_iload_n (q := 1) rfl rfl dX7_image_13 ?_
    refine x_aload_n (q := 0) rfl rfl dX7_image_14 ?_
    refine x_get (C := RX7) (T := TX7) sh_82 (by decide) rfl in_X7 0 (by decide) fl_X7_7 xf_7_0 dX7_image_15 ?_
    refine x_iload_n (q := 1) rfl rfl dX7_image_18 ?_
    refine x_iald sh_83 dX7_image_19 ?_
    refine x_iast sh_84 dX7_image_20 ?_
    refine x_bm (fun m2 => ?_)
    refine x_iinc (q := 1) (a := 1) (lv' := fun v3 => [(1, .int v3), (0, .ref (g.1 82))]) dX7_image_21 rfl (by decide) (by decide) (fun _ => rfl) (fun v3 => ?_)
    refine x_goto (tgt := 2) dX7_image_24 (by decide) ?_
    refine x_sub [1, 0] rfl ?_
    exact hk2 v3 m2
set_option maxRecDepth 20000 in
set_option maxHeartbeats 4000000 in
theorem s_X7_image_l1 {g : GX}    (n : Nat) : ∀ (x1 : Int32) (im : IM), X g md_X7_image eI 2 [(0, .ref (g.1 82)), (1, .int x1)] [] im (f_X7_image_l1 n x1 im) := by
  induction n with
  | zero => intro x1 im; exact x_none
  | succ n ih => intro x1 im; exact s_X7_image_l1b (f_X7_image_l1 n) ih x1 im
def f_X7_image  (im : IM) : Option (Int32 × IM) :=
  f_X7_image_l1 xF 0 im
set_option maxRecDepth 20000 in
set_option maxHeartbeats 4000000 in
theorem s_X7_image {g : GX}   (im : IM) : X g md_X7_image eI 0 [(0, .ref (g.1 82))] [] im (f_X7_image im) := by
  refine x_iconst (v := (0)) (by decide) dX7_image_0 ?_
  refine x_istore_n (lv' := [(1, .int 0), (0, .ref (g.1 82))]) rfl dX7_image_1 (by decide) rfl ?_
  refine x_sub [1, 0] rfl ?_
  exact s_X7_image_l1 xF 0 im
theorem m_X7_image {g : GX}   (im : IM) (r : Int32 × IM) (hr : f_X7_image im = some r) : xMet g 0 yX7_image cX7_image 2 (some .int) [.ref (g.1 82)] im (eI r) := x_met (by decide) (Nat.le_of_ble_eq_true rfl) rfl (s_X7_image im) r hr
abbrev md_X7_undo : xM := (1, 2, RX7, cX7_undo, (some .int))
def f_X7_undo_l1b    (k16 : Int32 → IM → Option (Int32 × IM)) (x1 : Int32) (im : IM) : Option (Int32 × IM) :=
  if 167 ≤ x1 then
    some ((im 83 0, im))
  else
    if inb x1 167 = true then
      if inb x1 167 = true then
        bnd (up im 83 (ix x1) (im 84 (ix x1))) fun m1 =>
        bnd (x1 + 1) fun v2 =>
        k16 v2 m1
      else none
    else none
def f_X7_undo_l1    : Nat → Int32 → IM → Option (Int32 × IM)
  | 0, _, _ => none
  | n + 1, x1, im => f_X7_undo_l1b (f_X7_undo_l1 n) x1 im
set_option maxRecDepth 20000 in
set_option maxHeartbeats 4000000 in
theorem s_X7_undo_l1b {g : GX}    (k16 : Int32 → IM → Option (Int32 × IM)) (hk16 : ∀ (x1 : Int32) (im : IM), X g md_X7_undo eI 16 [(0, .ref (g.1 82)), (1, .int x1)] [] im (k16 x1 im)) (x1 : Int32)  (im : IM) : X g md_X7_undo eI 16 [(0, .ref (g.1 82)), (1, .int x1)] [] im (f_X7_undo_l1b k16 x1 im) := by
  refine x_iload_n (q := 1) rfl rfl dX7_undo_16 ?_
  refine x_sipush (v := (167)) (by decide) dX7_undo_17 ?_
  refine x_icmp_ge (tgt := 41) dX7_undo_20 (by decide) ?_ ?_
  · refine x_aload_n (q := 0) rfl rfl dX7_undo_41 ?_
    refine x_get (C := RX7) (T := TX7) sh_82 (by decide) rfl in_X7 0 (by decide) fl_X7_7 xf_7_0 dX7_undo_42 ?_
    refine x_iconst (v := (0)) (by decide) dX7_undo_45 ?_
    refine x_ialdc sh_83 (by decide) ix_0 dX7_undo_46 ?_
    exact x_iret rfl rfl dX7_undo_47
  · refine x_aload_n (q := 0) rfl rfl dX7_undo_23 ?_
    refine x_get (C := RX7) (T := TX7) sh_82 (by decide) rfl in_X7 0 (by decide) fl_X7_7 xf_7_0 dX7_undo_24 ?_
    refine x_iload_n (q := 1) rfl rfl dX7_undo_27 ?_
    refine x_aload_n (q := 0) rfl rfl dX7_undo_28 ?_
    refine x_get (C := RX7) (T := TX7) sh_82 (by decide) rfl in_X7 1 (by decide) fl_X7_13 xf_7_1 dX7_undo_29 ?_
    refine x_iload_n (q := 1) rfl rfl dX7_undo_32 ?_
    refine x_iald sh_84 dX7_undo_33 ?_
    refine x_iast sh_83 dX7_undo_34 ?_
    refine x_bm (fun m1 => ?_)
    refine x_iinc (q := 1) (a := 1) (lv' := fun v2 => [(1, .int v2), (0, .ref (g.1 82))]) dX7_undo_35 rfl (by decide) (by decide) (fun _ => rfl) (fun v2 => ?_)
    refine x_goto (tgt := 16) dX7_undo_38 (by decide) ?_
    refine x_sub [1, 0] rfl ?_
    exact hk16 v2 m1
set_option maxRecDepth 20000 in
set_option maxHeartbeats 4000000 in
theorem s_X7_undo_l1 {g : GX}    (n : Nat) : ∀ (x1 : Int32) (im : IM), X g md_X7_undo eI 16 [(0, .ref (g.1 82)), (1, .int x1)] [] im (f_X7_undo_l1 n x1 im) := by
  induction n with
  | zero => intro x1 im; exact x_none
  | succ n ih => intro x1 im; exact s_X7_undo_l1b (f_X7_undo_l1 n) ih x1 im
def f_X7_undo  (im : IM) : Option (Int32 × IM) :=
  if (im 82 4) = 0 then
    (f_X7_finds ((-1000004)) im).bind fun r3 =>
    some ((r3.1, r3.2))
  else
    f_X7_undo_l1 xF 0 im
set_option maxRecDepth 20000 in
set_option maxHeartbeats 4000000 in
theorem s_X7_undo {g : GX}   (im : IM) : X g md_X7_undo eI 0 [(0, .ref (g.1 82))] [] im (f_X7_undo im) := by
  refine x_aload_n (q := 0) rfl rfl dX7_undo_0 ?_
  refine x_get (C := RX7) (T := TX7) sh_82 (by decide) rfl in_X7 4 (by decide) fl_X7_354 xf_7_4 dX7_undo_1 ?_
  refine x_if_ne (tgt := 14) dX7_undo_4 (by decide) ?_ ?_
  · refine x_iconst (v := (0)) (by decide) dX7_undo_14 ?_
    refine x_istore_n (lv' := [(1, .int 0), (0, .ref (g.1 82))]) rfl dX7_undo_15 (by decide) rfl ?_
    refine x_sub [1, 0] rfl ?_
    exact s_X7_undo_l1 xF 0 im
  · refine x_aload_n (q := 0) rfl rfl dX7_undo_7 ?_
    refine x_ldc co_X7_157 dX7_undo_8 ?_
    refine x_bind (fun r3 er3 => ?_)
    refine x_callVI (av := [.int ((-1000004))]) (st := []) (m_X7_finds  (((-1000004))) im r3 er3) sh_82 (by decide) rfl rfl (by decide) (by decide) lk_X7_59 cd_X7_finds xd_X7_finds rfl (Nat.le_of_ble_eq_true rfl) dX7_undo_10 ?_
    exact x_iret rfl rfl dX7_undo_13
theorem m_X7_undo {g : GX}   (im : IM) (r : Int32 × IM) (hr : f_X7_undo im = some r) : xMet g 1 yX7_undo cX7_undo 2 (some .int) [.ref (g.1 82)] im (eI r) := x_met (by decide) (Nat.le_of_ble_eq_true rfl) rfl (s_X7_undo im) r hr
abbrev md_X7_tear : xM := (0, 2, RX7, cX7_tear, (some .int))
def f_X7_tear_j1   (s0 : Int32) (im : IM) : Int32 × IM :=
  bnd (up im 82 4 0) fun m1 =>
  ((s0, m1))
set_option maxRecDepth 20000 in
set_option maxHeartbeats 4000000 in
theorem s_X7_tear_j1 {g : GX}    (s0 : Int32)  (im : IM) : X g md_X7_tear eI 12 [(0, .ref (g.1 82))] [.int s0] im (some (f_X7_tear_j1 s0 im)) := by
  refine x_istore_n (lv' := [(1, .int s0), (0, .ref (g.1 82))]) rfl dX7_tear_12 (by decide) rfl ?_
  refine x_aload_n (q := 1) rfl rfl dX7_tear_13 ?_
  refine x_iconst (v := (0)) (by decide) dX7_tear_14 ?_
  refine x_put (C := RX7) (T := TX7) (ty := .boolean) tyX7 tyX7_ok nmX7 sh_82 (by decide) rfl in_X7 4 (by decide) (by decide) fl_X7_354 rfl (by decide +kernel) (by decide) (by decide) dX7_tear_15 ?_
  refine x_bs (x_bm (fun m1 => ?_))
  refine x_iload_n (q := 0) rfl rfl dX7_tear_18 ?_
  exact x_iret rfl rfl dX7_tear_19
def f_X7_tear  (im : IM) : Int32 × IM :=
  if (im 82 4) = 0 then
    f_X7_tear_j1 0 im
  else
    f_X7_tear_j1 1 im
set_option maxRecDepth 20000 in
set_option maxHeartbeats 4000000 in
theorem s_X7_tear {g : GX}   (im : IM) : X g md_X7_tear eI 0 [(0, .ref (g.1 82))] [] im (some (f_X7_tear im)) := by
  refine x_aload_n (q := 0) rfl rfl dX7_tear_0 ?_
  refine x_get (C := RX7) (T := TX7) sh_82 (by decide) rfl in_X7 4 (by decide) fl_X7_354 xf_7_4 dX7_tear_1 ?_
  refine x_cs ?_
  refine x_if_eq (tgt := 11) dX7_tear_4 (by decide) ?_ ?_
  · refine x_iconst (v := (0)) (by decide) dX7_tear_11 ?_
    refine x_sub [0] rfl ?_
    exact s_X7_tear_j1 0 im
  · refine x_iconst (v := (1)) (by decide) dX7_tear_7 ?_
    refine x_goto (tgt := 12) dX7_tear_8 (by decide) ?_
    refine x_sub [0] rfl ?_
    exact s_X7_tear_j1 1 im
theorem m_X7_tear {g : GX}   (im : IM) : xMet g 0 yX7_tear cX7_tear 2 (some .int) [.ref (g.1 82)] im (eI (f_X7_tear im)) := x_met (by decide) (Nat.le_of_ble_eq_true rfl) rfl (s_X7_tear im) _ rfl
abbrev md_X7_stones : xM := (0, 3, RX7, cX7_stones, (some .int))
def f_X7_stones_j2  (k4 : Int32 → Int32 → Option (Int32)) (x2 : Int32) (s0 : Int32) (s1 : Int32) (im : IM) : Option (Int32) :=
  bnd (s1 + s0) fun v1 =>
  bnd (x2 + 1) fun v2 =>
  k4 v1 v2
set_option maxRecDepth 20000 in
set_option maxHeartbeats 4000000 in
theorem s_X7_stones_j2 {g : GX}  (k4 : Int32 → Int32 → Option (Int32)) (im : IM) (hk4 : ∀ (x1 : Int32) (x2 : Int32), X g md_X7_stones (eR im) 4 [(0, .ref (g.1 82)), (1, .int x1), (2, .int x2)] [] im (k4 x1 x2)) (x2 : Int32) (s0 : Int32) (s1 : Int32)  : X g md_X7_stones (eR im) 28 [(0, .ref (g.1 82)), (2, .int x2)] [.int s0, .int s1] im (f_X7_stones_j2 k4 x2 s0 s1 im) := by
  refine x_iadd dX7_stones_28 ?_
  refine x_bi (fun v1 => ?_)
  refine x_istore_n (lv' := [(1, .int v1), (0, .ref (g.1 82)), (2, .int x2)]) rfl dX7_stones_29 (by decide) rfl ?_
  refine x_iinc (q := 2) (a := 1) (lv' := fun v2 => [(2, .int v2), (1, .int v1), (0, .ref (g.1 82))]) dX7_stones_30 rfl (by decide) (by decide) (fun _ => rfl) (fun v2 => ?_)
  refine x_goto (tgt := 4) dX7_stones_33 (by decide) ?_
  refine x_sub [2, 1, 0] rfl ?_
  exact hk4 v1 v2
def f_X7_stones_l1b   (im : IM) (k4 : Int32 → Int32 → Option (Int32)) (x1 : Int32) (x2 : Int32)  : Option (Int32) :=
  if 31 ≤ x2 then
    some x1
  else
    if inb (36 + x2) 167 = true then
      if (im 83 (ix (36 + x2))) = 0 then
        f_X7_stones_j2 k4 x2 1 x1 im
      else
        f_X7_stones_j2 k4 x2 0 x1 im
    else none
def f_X7_stones_l1   (im : IM) : Nat → Int32 → Int32 → Option (Int32)
  | 0, _, _ => none
  | n + 1, x1, x2 => f_X7_stones_l1b im (f_X7_stones_l1 im n) x1 x2
set_option maxRecDepth 20000 in
set_option maxHeartbeats 4000000 in
theorem s_X7_stones_l1b {g : GX}   (im : IM)  (k4 : Int32 → Int32 → Option (Int32)) (hk4 : ∀ (x1 : Int32) (x2 : Int32), X g md_X7_stones (eR im) 4 [(0, .ref (g.1 82)), (1, .int x1), (2, .int x2)] [] im (k4 x1 x2)) (x1 : Int32) (x2 : Int32)  : X g md_X7_stones (eR im) 4 [(0, .ref (g.1 82)), (1, .int x1), (2, .int x2)] [] im (f_X7_stones_l1b im k4 x1 x2) := by
  refine x_iload_n (q := 2) rfl rfl dX7_stones_4 ?_
  refine x_bipush (v := (31)) (by decide) dX7_stones_5 ?_
  refine x_icmp_ge (tgt := 36) dX7_stones_7 (by decide) ?_ ?_
  · refine x_iload_n (q := 1) rfl rfl dX7_stones_36 ?_
    exact x_iret rfl rfl dX7_stones_37
  · refine x_iload_n (q := 1) rfl rfl dX7_stones_10 ?_
    refine x_aload_n (q := 0) rfl rfl dX7_stones_11 ?_
    refine x_get (C := RX7) (T := TX7) sh_82 (by decide) rfl in_X7 0 (by decide) fl_X7_7 xf_7_0 dX7_stones_12 ?_
    refine x_bipush (v := (36)) (by decide) dX7_stones_15 ?_
    refine x_iload_n (q := 2) rfl rfl dX7_stones_17 ?_
    refine x_iadd dX7_stones_18 ?_
    refine x_iald sh_83 dX7_stones_19 ?_
    refine x_if_ne (tgt := 27) dX7_stones_20 (by decide) ?_ ?_
    · refine x_iconst (v := (0)) (by decide) dX7_stones_27 ?_
      refine x_sub [0, 2] rfl ?_
      exact s_X7_stones_j2 k4 im hk4 x2 0 x1
    · refine x_iconst (v := (1)) (by decide) dX7_stones_23 ?_
      refine x_goto (tgt := 28) dX7_stones_24 (by decide) ?_
      refine x_sub [0, 2] rfl ?_
      exact s_X7_stones_j2 k4 im hk4 x2 1 x1
set_option maxRecDepth 20000 in
set_option maxHeartbeats 4000000 in
theorem s_X7_stones_l1 {g : GX}   (im : IM)  (n : Nat) : ∀ (x1 : Int32) (x2 : Int32), X g md_X7_stones (eR im) 4 [(0, .ref (g.1 82)), (1, .int x1), (2, .int x2)] [] im (f_X7_stones_l1 im n x1 x2) := by
  induction n with
  | zero => intro x1 x2; exact x_none
  | succ n ih => intro x1 x2; exact s_X7_stones_l1b im (f_X7_stones_l1 im n) ih x1 x2
def f_X7_stones  (im : IM) : Option (Int32) :=
  f_X7_stones_l1 im xF 0 0
set_option maxRecDepth 20000 in
set_option maxHeartbeats 4000000 in
theorem s_X7_stones {g : GX}   (im : IM) : X g md_X7_stones (eR im) 0 [(0, .ref (g.1 82))] [] im (f_X7_stones im) := by
  refine x_iconst (v := (0)) (by decide) dX7_stones_0 ?_
  refine x_istore_n (lv' := [(1, .int 0), (0, .ref (g.1 82))]) rfl dX7_stones_1 (by decide) rfl ?_
  refine x_iconst (v := (0)) (by decide) dX7_stones_2 ?_
  refine x_istore_n (lv' := [(2, .int 0), (1, .int 0), (0, .ref (g.1 82))]) rfl dX7_stones_3 (by decide) rfl ?_
  refine x_sub [2, 1, 0] rfl ?_
  exact s_X7_stones_l1 im xF 0 0
theorem m_X7_stones {g : GX}   (im : IM) (r : Int32) (hr : f_X7_stones im = some r) : xMet g 0 yX7_stones cX7_stones 3 (some .int) [.ref (g.1 82)] im ((eR im) r) := x_met (by decide) (Nat.le_of_ble_eq_true rfl) rfl (s_X7_stones im) r hr
abbrev md_X7_held : xM := (0, 3, RX7, cX7_held, (some .int))
def f_X7_held_j2  (k4 : Int32 → Int32 → Option (Int32)) (x2 : Int32) (s0 : Int32) (s1 : Int32) (im : IM) : Option (Int32) :=
  bnd (s1 + s0) fun v1 =>
  bnd (x2 + 1) fun v2 =>
  k4 v1 v2
set_option maxRecDepth 20000 in
set_option maxHeartbeats 4000000 in
theorem s_X7_held_j2 {g : GX}  (k4 : Int32 → Int32 → Option (Int32)) (im : IM) (hk4 : ∀ (x1 : Int32) (x2 : Int32), X g md_X7_held (eR im) 4 [(0, .ref (g.1 82)), (1, .int x1), (2, .int x2)] [] im (k4 x1 x2)) (x2 : Int32) (s0 : Int32) (s1 : Int32)  : X g md_X7_held (eR im) 29 [(0, .ref (g.1 82)), (2, .int x2)] [.int s0, .int s1] im (f_X7_held_j2 k4 x2 s0 s1 im) := by
  refine x_iadd dX7_held_29 ?_
  refine x_bi (fun v1 => ?_)
  refine x_istore_n (lv' := [(1, .int v1), (0, .ref (g.1 82)), (2, .int x2)]) rfl dX7_held_30 (by decide) rfl ?_
  refine x_iinc (q := 2) (a := 1) (lv' := fun v2 => [(2, .int v2), (1, .int v1), (0, .ref (g.1 82))]) dX7_held_31 rfl (by decide) (by decide) (fun _ => rfl) (fun v2 => ?_)
  refine x_goto (tgt := 4) dX7_held_34 (by decide) ?_
  refine x_sub [2, 1, 0] rfl ?_
  exact hk4 v1 v2
def f_X7_held_l1b   (im : IM) (k4 : Int32 → Int32 → Option (Int32)) (x1 : Int32) (x2 : Int32)  : Option (Int32) :=
  if 10 ≤ x2 then
    some x1
  else
    if inb (157 + x2) 167 = true then
      if 0 ≤ (im 83 (ix (157 + x2))) then
        f_X7_held_j2 k4 x2 1 x1 im
      else
        f_X7_held_j2 k4 x2 0 x1 im
    else none
def f_X7_held_l1   (im : IM) : Nat → Int32 → Int32 → Option (Int32)
  | 0, _, _ => none
  | n + 1, x1, x2 => f_X7_held_l1b im (f_X7_held_l1 im n) x1 x2
set_option maxRecDepth 20000 in
set_option maxHeartbeats 4000000 in
theorem s_X7_held_l1b {g : GX}   (im : IM)  (k4 : Int32 → Int32 → Option (Int32)) (hk4 : ∀ (x1 : Int32) (x2 : Int32), X g md_X7_held (eR im) 4 [(0, .ref (g.1 82)), (1, .int x1), (2, .int x2)] [] im (k4 x1 x2)) (x1 : Int32) (x2 : Int32)  : X g md_X7_held (eR im) 4 [(0, .ref (g.1 82)), (1, .int x1), (2, .int x2)] [] im (f_X7_held_l1b im k4 x1 x2) := by
  refine x_iload_n (q := 2) rfl rfl dX7_held_4 ?_
  refine x_bipush (v := (10)) (by decide) dX7_held_5 ?_
  refine x_icmp_ge (tgt := 37) dX7_held_7 (by decide) ?_ ?_
  · refine x_iload_n (q := 1) rfl rfl dX7_held_37 ?_
    exact x_iret rfl rfl dX7_held_38
  · refine x_iload_n (q := 1) rfl rfl dX7_held_10 ?_
    refine x_aload_n (q := 0) rfl rfl dX7_held_11 ?_
    refine x_get (C := RX7) (T := TX7) sh_82 (by decide) rfl in_X7 0 (by decide) fl_X7_7 xf_7_0 dX7_held_12 ?_
    refine x_sipush (v := (157)) (by decide) dX7_held_15 ?_
    refine x_iload_n (q := 2) rfl rfl dX7_held_18 ?_
    refine x_iadd dX7_held_19 ?_
    refine x_iald sh_83 dX7_held_20 ?_
    refine x_if_ge (tgt := 28) dX7_held_21 (by decide) ?_ ?_
    · refine x_iconst (v := (1)) (by decide) dX7_held_28 ?_
      refine x_sub [0, 2] rfl ?_
      exact s_X7_held_j2 k4 im hk4 x2 1 x1
    · refine x_iconst (v := (0)) (by decide) dX7_held_24 ?_
      refine x_goto (tgt := 29) dX7_held_25 (by decide) ?_
      refine x_sub [0, 2] rfl ?_
      exact s_X7_held_j2 k4 im hk4 x2 0 x1
set_option maxRecDepth 20000 in
set_option maxHeartbeats 4000000 in
theorem s_X7_held_l1 {g : GX}   (im : IM)  (n : Nat) : ∀ (x1 : Int32) (x2 : Int32), X g md_X7_held (eR im) 4 [(0, .ref (g.1 82)), (1, .int x1), (2, .int x2)] [] im (f_X7_held_l1 im n x1 x2) := by
  induction n with
  | zero => intro x1 x2; exact x_none
  | succ n ih => intro x1 x2; exact s_X7_held_l1b im (f_X7_held_l1 im n) ih x1 x2
def f_X7_held  (im : IM) : Option (Int32) :=
  f_X7_held_l1 im xF 0 0
set_option maxRecDepth 20000 in
set_option maxHeartbeats 4000000 in
theorem s_X7_held {g : GX}   (im : IM) : X g md_X7_held (eR im) 0 [(0, .ref (g.1 82))] [] im (f_X7_held im) := by
  refine x_iconst (v := (0)) (by decide) dX7_held_0 ?_
  refine x_istore_n (lv' := [(1, .int 0), (0, .ref (g.1 82))]) rfl dX7_held_1 (by decide) rfl ?_
  refine x_iconst (v := (0)) (by decide) dX7_held_2 ?_
  refine x_istore_n (lv' := [(2, .int 0), (1, .int 0), (0, .ref (g.1 82))]) rfl dX7_held_3 (by decide) rfl ?_
  refine x_sub [2, 1, 0] rfl ?_
  exact s_X7_held_l1 im xF 0 0
theorem m_X7_held {g : GX}   (im : IM) (r : Int32) (hr : f_X7_held im = some r) : xMet g 0 yX7_held cX7_held 3 (some .int) [.ref (g.1 82)] im ((eR im) r) := x_met (by decide) (Nat.le_of_ble_eq_true rfl) rfl (s_X7_held im) r hr
abbrev md_X7_count : xM := (3, 2, RX7, cX7_count, (some .int))
def f_X7_count (a1 : Int32) (im : IM) : Option (Int32 × IM) :=
  if a1 = 0 then
    some ((im 83 0, im))
  else if a1 = 1 then
    some ((im 83 1, im))
  else if a1 = 2 then
    (f_X7_sumOf 7 im).bind fun r1 =>
    some ((r1, im))
  else if a1 = 3 then
    (f_X7_sumOf 1 im).bind fun r2 =>
    some ((r2, im))
  else if a1 = 4 then
    (f_X7_stones im).bind fun r3 =>
    some ((r3, im))
  else if a1 = 5 then
    some ((im 82 16, im))
  else if a1 = 6 then
    some ((im 83 4, im))
  else if a1 = 7 then
    (f_X7_held im).bind fun r4 =>
    some ((r4, im))
  else 
    (f_X7_finds ((-1000001)) im).bind fun r5 =>
    some ((r5.1, r5.2))
set_option maxRecDepth 20000 in
set_option maxHeartbeats 4000000 in
theorem s_X7_count {g : GX}  (a1 : Int32) (im : IM) : X g md_X7_count eI 0 [(0, .ref (g.1 82)), (1, .int a1)] [] im (f_X7_count a1 im) := by
  refine x_iload_n (q := 1) rfl rfl dX7_count_0 ?_
  refine x_case (k := 0) (fun hx1_0 => ?_) (fun hx1_0 => ?_)
  · refine x_tsw (off := 47) (tgt := 48) dX7_count_1 (by rw [hx1_0]; decide) (by rw [hx1_0]; decide) (by rw [hx1_0]; rfl) (by decide) ?_
    refine x_aload_n (q := 0) rfl rfl dX7_count_48 ?_
    refine x_get (C := RX7) (T := TX7) sh_82 (by decide) rfl in_X7 0 (by decide) fl_X7_7 xf_7_0 dX7_count_49 ?_
    refine x_iconst (v := (0)) (by decide) dX7_count_52 ?_
    refine x_ialdc sh_83 (by decide) ix_0 dX7_count_53 ?_
    exact x_iret rfl rfl dX7_count_54
  refine x_case (k := 1) (fun hx1_1 => ?_) (fun hx1_1 => ?_)
  · refine x_tsw (off := 54) (tgt := 55) dX7_count_1 (by rw [hx1_1]; decide) (by rw [hx1_1]; decide) (by rw [hx1_1]; rfl) (by decide) ?_
    refine x_aload_n (q := 0) rfl rfl dX7_count_55 ?_
    refine x_get (C := RX7) (T := TX7) sh_82 (by decide) rfl in_X7 0 (by decide) fl_X7_7 xf_7_0 dX7_count_56 ?_
    refine x_iconst (v := (1)) (by decide) dX7_count_59 ?_
    refine x_ialdc sh_83 (by decide) ix_1 dX7_count_60 ?_
    exact x_iret rfl rfl dX7_count_61
  refine x_case (k := 2) (fun hx1_2 => ?_) (fun hx1_2 => ?_)
  · refine x_tsw (off := 61) (tgt := 62) dX7_count_1 (by rw [hx1_2]; decide) (by rw [hx1_2]; decide) (by rw [hx1_2]; rfl) (by decide) ?_
    refine x_aload_n (q := 0) rfl rfl dX7_count_62 ?_
    refine x_bipush (v := (7)) (by decide) dX7_count_63 ?_
    refine x_bind (fun r1 er1 => ?_)
    refine x_callVR (av := [.int 7]) (st := []) (m_X7_sumOf  7 im r1 er1) sh_82 (by decide) rfl rfl (by decide) (by decide) lk_X7_151 cd_X7_sumOf xd_X7_sumOf rfl (Nat.le_of_ble_eq_true rfl) dX7_count_65 ?_
    exact x_iret rfl rfl dX7_count_68
  refine x_case (k := 3) (fun hx1_3 => ?_) (fun hx1_3 => ?_)
  · refine x_tsw (off := 68) (tgt := 69) dX7_count_1 (by rw [hx1_3]; decide) (by rw [hx1_3]; decide) (by rw [hx1_3]; rfl) (by decide) ?_
    refine x_aload_n (q := 0) rfl rfl dX7_count_69 ?_
    refine x_iconst (v := (1)) (by decide) dX7_count_70 ?_
    refine x_bind (fun r2 er2 => ?_)
    refine x_callVR (av := [.int 1]) (st := []) (m_X7_sumOf  1 im r2 er2) sh_82 (by decide) rfl rfl (by decide) (by decide) lk_X7_151 cd_X7_sumOf xd_X7_sumOf rfl (Nat.le_of_ble_eq_true rfl) dX7_count_71 ?_
    exact x_iret rfl rfl dX7_count_74
  refine x_case (k := 4) (fun hx1_4 => ?_) (fun hx1_4 => ?_)
  · refine x_tsw (off := 74) (tgt := 75) dX7_count_1 (by rw [hx1_4]; decide) (by rw [hx1_4]; decide) (by rw [hx1_4]; rfl) (by decide) ?_
    refine x_aload_n (q := 0) rfl rfl dX7_count_75 ?_
    refine x_bind (fun r3 er3 => ?_)
    refine x_callVR (av := []) (st := []) (m_X7_stones   im r3 er3) sh_82 (by decide) rfl rfl (by decide) (by decide) lk_X7_357 cd_X7_stones xd_X7_stones rfl (Nat.le_of_ble_eq_true rfl) dX7_count_76 ?_
    exact x_iret rfl rfl dX7_count_79
  refine x_case (k := 5) (fun hx1_5 => ?_) (fun hx1_5 => ?_)
  · refine x_tsw (off := 79) (tgt := 80) dX7_count_1 (by rw [hx1_5]; decide) (by rw [hx1_5]; decide) (by rw [hx1_5]; rfl) (by decide) ?_
    refine x_aload_n (q := 0) rfl rfl dX7_count_80 ?_
    refine x_get (C := RX7) (T := TX7) sh_82 (by decide) rfl in_X7 16 (by decide) fl_X7_219 xf_7_16 dX7_count_81 ?_
    exact x_iret rfl rfl dX7_count_84
  refine x_case (k := 6) (fun hx1_6 => ?_) (fun hx1_6 => ?_)
  · refine x_tsw (off := 84) (tgt := 85) dX7_count_1 (by rw [hx1_6]; decide) (by rw [hx1_6]; decide) (by rw [hx1_6]; rfl) (by decide) ?_
    refine x_aload_n (q := 0) rfl rfl dX7_count_85 ?_
    refine x_get (C := RX7) (T := TX7) sh_82 (by decide) rfl in_X7 0 (by decide) fl_X7_7 xf_7_0 dX7_count_86 ?_
    refine x_iconst (v := (4)) (by decide) dX7_count_89 ?_
    refine x_ialdc sh_83 (by decide) ix_4 dX7_count_90 ?_
    exact x_iret rfl rfl dX7_count_91
  refine x_case (k := 7) (fun hx1_7 => ?_) (fun hx1_7 => ?_)
  · refine x_tsw (off := 91) (tgt := 92) dX7_count_1 (by rw [hx1_7]; decide) (by rw [hx1_7]; decide) (by rw [hx1_7]; rfl) (by decide) ?_
    refine x_aload_n (q := 0) rfl rfl dX7_count_92 ?_
    refine x_bind (fun r4 er4 => ?_)
    refine x_callVR (av := []) (st := []) (m_X7_held   im r4 er4) sh_82 (by decide) rfl rfl (by decide) (by decide) lk_X7_360 cd_X7_held xd_X7_held rfl (Nat.le_of_ble_eq_true rfl) dX7_count_93 ?_
    exact x_iret rfl rfl dX7_count_96
  have ho1 : (a1).toInt < 0 ∨ 7 < (a1).toInt := by
    refine x_out (fun k h1 h2 => ?_)
    have hk : k = 0 ∨ k = 1 ∨ k = 2 ∨ k = 3 ∨ k = 4 ∨ k = 5 ∨ k = 6 ∨ k = 7 := by omega
    rcases hk with rfl | rfl | rfl | rfl | rfl | rfl | rfl | rfl
    · exact hx1_0
    · exact hx1_1
    · exact hx1_2
    · exact hx1_3
    · exact hx1_4
    · exact hx1_5
    · exact hx1_6
    · exact hx1_7
  refine x_tsd (tgt := 97) dX7_count_1 ho1 (by decide) ?_
  refine x_aload_n (q := 0) rfl rfl dX7_count_97 ?_
  refine x_ldc co_X7_43 dX7_count_98 ?_
  refine x_bind (fun r5 er5 => ?_)
  refine x_callVI (av := [.int ((-1000001))]) (st := []) (m_X7_finds  (((-1000001))) im r5 er5) sh_82 (by decide) rfl rfl (by decide) (by decide) lk_X7_59 cd_X7_finds xd_X7_finds rfl (Nat.le_of_ble_eq_true rfl) dX7_count_100 ?_
  exact x_iret rfl rfl dX7_count_103
theorem m_X7_count {g : GX}  (a1 : Int32) (im : IM) (r : Int32 × IM) (hr : f_X7_count a1 im = some r) : xMet g 3 yX7_count cX7_count 2 (some .int) [.ref (g.1 82), .int a1] im (eI r) := x_met (by decide) (Nat.le_of_ble_eq_true rfl) rfl (s_X7_count a1 im) r hr
abbrev md_X7_status : xM := (1, 4, RX7, cX7_status, (some .int))
def f_X7_status_j3 (a1 : Int32) (k25 : Int32 → Int32 → IM → Option (Int32 × IM)) (x3 : Int32) (s0 : Int32) (s1 : Int32) (im : IM) : Option (Int32 × IM) :=
  bnd (s1 + s0) fun v1 =>
  bnd (x3 + 1) fun v2 =>
  k25 v1 v2 im
set_option maxRecDepth 20000 in
set_option maxHeartbeats 4000000 in
theorem s_X7_status_j3 {g : GX} (a1 : Int32)  (k25 : Int32 → Int32 → IM → Option (Int32 × IM)) (hk25 : ∀ (x2 : Int32) (x3 : Int32) (im : IM), X g md_X7_status eI 25 [(0, .ref (g.1 82)), (1, .int a1), (2, .int x2), (3, .int x3)] [] im (k25 x2 x3 im)) (x3 : Int32) (s0 : Int32) (s1 : Int32)  (im : IM) : X g md_X7_status eI 51 [(0, .ref (g.1 82)), (1, .int a1), (3, .int x3)] [.int s0, .int s1] im (f_X7_status_j3 a1 k25 x3 s0 s1 im) := by
  refine x_iadd dX7_status_51 ?_
  refine x_bi (fun v1 => ?_)
  refine x_istore_n (lv' := [(2, .int v1), (0, .ref (g.1 82)), (1, .int a1), (3, .int x3)]) rfl dX7_status_52 (by decide) rfl ?_
  refine x_iinc (q := 3) (a := 1) (lv' := fun v2 => [(3, .int v2), (2, .int v1), (0, .ref (g.1 82)), (1, .int a1)]) dX7_status_53 rfl (by decide) (by decide) (fun _ => rfl) (fun v2 => ?_)
  refine x_goto (tgt := 25) dX7_status_56 (by decide) ?_
  refine x_sub [2, 3, 1, 0] rfl ?_
  exact hk25 v1 v2 im
def f_X7_status_j2 (a1 : Int32) (k25 : Int32 → Int32 → IM → Option (Int32 × IM)) (x3 : Int32) (s0 : Int32) (im : IM) : Option (Int32 × IM) :=
  if inb x3 7 = true then
    f_X7_status_j3 a1 k25 x3 (im 86 (ix x3)) s0 im
  else none
set_option maxRecDepth 20000 in
set_option maxHeartbeats 4000000 in
theorem s_X7_status_j2 {g : GX} (a1 : Int32)  (k25 : Int32 → Int32 → IM → Option (Int32 × IM)) (hk25 : ∀ (x2 : Int32) (x3 : Int32) (im : IM), X g md_X7_status eI 25 [(0, .ref (g.1 82)), (1, .int a1), (2, .int x2), (3, .int x3)] [] im (k25 x2 x3 im)) (x3 : Int32) (s0 : Int32)  (im : IM) : X g md_X7_status eI 41 [(0, .ref (g.1 82)), (1, .int a1), (3, .int x3)] [.int s0] im (f_X7_status_j2 a1 k25 x3 s0 im) := by
  refine x_aload_n (q := 0) rfl rfl dX7_status_41 ?_
  refine x_get (C := RX7) (T := TX7) sh_82 (by decide) rfl in_X7 3 (by decide) fl_X7_19 xf_7_3 dX7_status_42 ?_
  refine x_iload_n (q := 2) rfl rfl dX7_status_45 ?_
  refine x_iald sh_86 dX7_status_46 ?_
  refine x_goto (tgt := 51) dX7_status_47 (by decide) ?_
  refine x_sub [0, 1, 2] rfl ?_
  exact s_X7_status_j3 a1 k25 hk25 x3 (im 86 (ix x3)) s0 im
def f_X7_status_l1b (a1 : Int32)   (k25 : Int32 → Int32 → IM → Option (Int32 × IM)) (x2 : Int32) (x3 : Int32) (im : IM) : Option (Int32 × IM) :=
  if 7 ≤ x3 then
    some ((x2, im))
  else
    if a1 < 0 then
      f_X7_status_j2 a1 k25 x3 x2 im
    else
      if x3 = a1 then
        f_X7_status_j2 a1 k25 x3 x2 im
      else
        f_X7_status_j3 a1 k25 x3 0 x2 im
def f_X7_status_l1 (a1 : Int32)   : Nat → Int32 → Int32 → IM → Option (Int32 × IM)
  | 0, _, _, _ => none
  | n + 1, x2, x3, im => f_X7_status_l1b a1 (f_X7_status_l1 a1 n) x2 x3 im
set_option maxRecDepth 20000 in
set_option maxHeartbeats 4000000 in
theorem s_X7_status_l1b {g : GX} (a1 : Int32)    (k25 : Int32 → Int32 → IM → Option (Int32 × IM)) (hk25 : ∀ (x2 : Int32) (x3 : Int32) (im : IM), X g md_X7_status eI 25 [(0, .ref (g.1 82)), (1, .int a1), (2, .int x2), (3, .int x3)] [] im (k25 x2 x3 im)) (x2 : Int32) (x3 : Int32)  (im : IM) : X g md_X7_status eI 25 [(0, .ref (g.1 82)), (1, .int a1), (2, .int x2), (3, .int x3)] [] im (f_X7_status_l1b a1 k25 x2 x3 im) := by
  refine x_iload_n (q := 3) rfl rfl dX7_status_25 ?_
  refine x_bipush (v := (7)) (by decide) dX7_status_26 ?_
  refine x_icmp_ge (tgt := 59) dX7_status_28 (by decide) ?_ ?_
  · refine x_iload_n (q := 2) rfl rfl dX7_status_59 ?_
    exact x_iret rfl rfl dX7_status_60
  · refine x_iload_n (q := 2) rfl rfl dX7_status_31 ?_
    refine x_iload_n (q := 1) rfl rfl dX7_status_32 ?_
    refine x_if_lt (tgt := 41) dX7_status_33 (by decide) ?_ ?_
    · refine x_sub [0, 1, 3] rfl ?_
      exact s_X7_status_j2 a1 k25 hk25 x3 x2 im
    · refine x_iload_n (q := 3) rfl rfl dX7_status_36 ?_
      refine x_iload_n (q := 1) rfl rfl dX7_status_37 ?_
      refine x_icmp_ne (tgt := 50) dX7_status_38 (by decide) ?_ ?_
      · refine x_iconst (v := (0)) (by decide) dX7_status_50 ?_
        refine x_sub [0, 1, 3] rfl ?_
        exact s_X7_status_j3 a1 k25 hk25 x3 0 x2 im
      · refine x_sub [0, 1, 3] rfl ?_
        exact s_X7_status_j2 a1 k25 hk25 x3 x2 im
set_option maxRecDepth 20000 in
set_option maxHeartbeats 4000000 in
theorem s_X7_status_l1 {g : GX} (a1 : Int32)    (n : Nat) : ∀ (x2 : Int32) (x3 : Int32) (im : IM), X g md_X7_status eI 25 [(0, .ref (g.1 82)), (1, .int a1), (2, .int x2), (3, .int x3)] [] im (f_X7_status_l1 a1 n x2 x3 im) := by
  induction n with
  | zero => intro x2 x3 im; exact x_none
  | succ n ih => intro x2 x3 im; exact s_X7_status_l1b a1 (f_X7_status_l1 a1 n) ih x2 x3 im
def f_X7_status (a1 : Int32) (im : IM) : Option (Int32 × IM) :=
  if (f_X7_in a1.toInt64 ((-1)) 6) = 0 then
    (f_X7_finds ((-1000001)) im).bind fun r3 =>
    some ((r3.1, r3.2))
  else
    f_X7_status_l1 a1 xF 0 0 im
set_option maxRecDepth 20000 in
set_option maxHeartbeats 4000000 in
theorem s_X7_status {g : GX}  (a1 : Int32) (im : IM) : X g md_X7_status eI 0 [(0, .ref (g.1 82)), (1, .int a1)] [] im (f_X7_status a1 im) := by
  refine x_iload_n (q := 1) rfl rfl dX7_status_0 ?_
  refine x_i2l dX7_status_1 ?_
  refine x_ldc2 cl_X7_363 dX7_status_2 ?_
  refine x_ldc2 cl_X7_76 dX7_status_5 ?_
  refine x_callSR (av := [.long a1.toInt64, .long ((-1)), .long 6]) (st := []) (m_X7_in  a1.toInt64 (((-1))) 6 im) rfl (by decide) (by decide) lk_X7_46 cd_X7_in xd_X7_in rfl (Nat.le_of_ble_eq_true rfl) dX7_status_8 ?_
  refine x_if_ne (tgt := 21) dX7_status_11 (by decide) ?_ ?_
  · refine x_iconst (v := (0)) (by decide) dX7_status_21 ?_
    refine x_istore_n (lv' := [(2, .int 0), (0, .ref (g.1 82)), (1, .int a1)]) rfl dX7_status_22 (by decide) rfl ?_
    refine x_iconst (v := (0)) (by decide) dX7_status_23 ?_
    refine x_istore_n (lv' := [(3, .int 0), (2, .int 0), (0, .ref (g.1 82)), (1, .int a1)]) rfl dX7_status_24 (by decide) rfl ?_
    refine x_sub [2, 3, 1, 0] rfl ?_
    exact s_X7_status_l1 a1 xF 0 0 im
  · refine x_aload_n (q := 0) rfl rfl dX7_status_14 ?_
    refine x_ldc co_X7_43 dX7_status_15 ?_
    refine x_bind (fun r3 er3 => ?_)
    refine x_callVI (av := [.int ((-1000001))]) (st := []) (m_X7_finds  (((-1000001))) im r3 er3) sh_82 (by decide) rfl rfl (by decide) (by decide) lk_X7_59 cd_X7_finds xd_X7_finds rfl (Nat.le_of_ble_eq_true rfl) dX7_status_17 ?_
    exact x_iret rfl rfl dX7_status_20
theorem m_X7_status {g : GX}  (a1 : Int32) (im : IM) (r : Int32 × IM) (hr : f_X7_status a1 im = some r) : xMet g 1 yX7_status cX7_status 4 (some .int) [.ref (g.1 82), .int a1] im (eI r) := x_met (by decide) (Nat.le_of_ble_eq_true rfl) rfl (s_X7_status a1 im) r hr
