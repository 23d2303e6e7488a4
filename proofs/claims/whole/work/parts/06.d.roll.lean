abbrev md_X0_weighAllSets : xM := (0, 5, RX0, cX0_weighAllSets, none)
def f_X0_weighAllSets_l2b (a1 : Nat) (k9 : Int32 → IM → Option (IM))  (k24 : Int32 → Int32 → Int32 → IM → Option (IM)) (x2 : Int32) (x3 : Int32) (x4 : Int32) (im : IM) : Option (IM) :=
  if x3 ≤ x4 then
    bnd (x2 + 1) fun v3 =>
    k9 v3 im
  else
    if inb x4 1024 = true then
      if inb x2 10 = true then
        if inb (x3 ||| x4) 1024 = true then
          bnd (up im 64 (ix (x3 ||| x4)) ((im 64 (ix x4)) + (im (a1 + 5 + ix x2) 1))) fun m5 =>
          bnd (x4 + 1) fun v6 =>
          k24 x2 x3 v6 m5
        else none
      else none
    else none
def f_X0_weighAllSets_l2 (a1 : Nat) (k9 : Int32 → IM → Option (IM))  : Nat → Int32 → Int32 → Int32 → IM → Option (IM)
  | 0, _, _, _, _ => none
  | n + 1, x2, x3, x4, im => f_X0_weighAllSets_l2b a1 k9 (f_X0_weighAllSets_l2 a1 k9 n) x2 x3 x4 im
set_option maxRecDepth 20000 in
set_option maxHeartbeats 4000000 in
theorem s_X0_weighAllSets_l2b {g : GX} {a1 : Nat} (h1 : xTo a1)  (k9 : Int32 → IM → Option (IM)) (hk9 : ∀ (x2 : Int32) (im : IM), X g md_X0_weighAllSets eV 9 [(0, .ref (g.1 63)), (1, .ref (g.1 a1)), (2, .int x2)] [] im (k9 x2 im)) (k24 : Int32 → Int32 → Int32 → IM → Option (IM)) (hk24 : ∀ (x2 : Int32) (x3 : Int32) (x4 : Int32) (im : IM), X g md_X0_weighAllSets eV 24 [(0, .ref (g.1 63)), (1, .ref (g.1 a1)), (2, .int x2), (3, .int x3), (4, .int x4)] [] im (k24 x2 x3 x4 im)) (x2 : Int32) (x3 : Int32) (x4 : Int32)  (im : IM) : X g md_X0_weighAllSets eV 24 [(0, .ref (g.1 63)), (1, .ref (g.1 a1)), (2, .int x2), (3, .int x3), (4, .int x4)] [] im (f_X0_weighAllSets_l2b a1 k9 k24 x2 x3 x4 im) := by
  refine x_iload (q := 4) rfl dX0_weighAllSets_24 ?_
  refine x_iload_n (q := 3) rfl rfl dX0_weighAllSets_26 ?_
  refine x_icmp_ge (tgt := 62) dX0_weighAllSets_27 (by decide) ?_ ?_
  · refine x_iinc (q := 2) (a := 1) (lv' := fun v3 => [(2, .int v3), (0, .ref (g.1 63)), (1, .ref (g.1 a1)), (3, .int x3), (4, .int x4)]) dX0_weighAllSets_62 rfl (by decide) (by decide) (fun _ => rfl) (fun v3 => ?_)
    refine x_goto (tgt := 9) dX0_weighAllSets_65 (by decide) ?_
    refine x_sub [1, 2, 0] rfl ?_
    exact hk9 v3 im
  · refine x_aload_n (q := 0) rfl rfl dX0_weighAllSets_30 ?_
    refine x_get (C := RX0) (T := TX0) sh_63 (by decide) rfl in_X0 0 (by decide) fl_X0_11 xf_0_0 dX0_weighAllSets_31 ?_
    refine x_iload_n (q := 3) rfl rfl dX0_weighAllSets_34 ?_
    refine x_iload (q := 4) rfl dX0_weighAllSets_35 ?_
    refine x_ior dX0_weighAllSets_37 ?_
    refine x_aload_n (q := 0) rfl rfl dX0_weighAllSets_38 ?_
    refine x_get (C := RX0) (T := TX0) sh_63 (by decide) rfl in_X0 0 (by decide) fl_X0_11 xf_0_0 dX0_weighAllSets_39 ?_
    refine x_iload (q := 4) rfl dX0_weighAllSets_42 ?_
    refine x_iald sh_64 dX0_weighAllSets_44 ?_
    refine x_aload_n (q := 1) rfl rfl dX0_weighAllSets_45 ?_
    refine x_get (C := RX5) (T := TX5) (xTo_o h1) (by decide) rfl in_X5 2 (by decide) fl_X0_29 xf_5_2 dX0_weighAllSets_46 ?_
    refine x_iload_n (q := 2) rfl rfl dX0_weighAllSets_49 ?_
    refine x_aldT (xTo_3 h1) dX0_weighAllSets_50 (fun hi4 => ?_)
    refine x_get (C := RX4) (T := TX4) (xTh h1 hi4) (by decide) rfl in_X4 1 (by decide) fl_X0_33 xf_4_1 dX0_weighAllSets_51 ?_
    refine x_iadd dX0_weighAllSets_54 ?_
    refine x_iast sh_64 dX0_weighAllSets_55 ?_
    refine x_bm (fun m5 => ?_)
    refine x_iinc (q := 4) (a := 1) (lv' := fun v6 => [(4, .int v6), (0, .ref (g.1 63)), (1, .ref (g.1 a1)), (2, .int x2), (3, .int x3)]) dX0_weighAllSets_56 rfl (by decide) (by decide) (fun _ => rfl) (fun v6 => ?_)
    refine x_goto (tgt := 24) dX0_weighAllSets_59 (by decide) ?_
    refine x_sub [1, 2, 3, 4, 0] rfl ?_
    exact hk24 x2 x3 v6 m5
set_option maxRecDepth 20000 in
set_option maxHeartbeats 4000000 in
theorem s_X0_weighAllSets_l2 {g : GX} {a1 : Nat} (h1 : xTo a1)  (k9 : Int32 → IM → Option (IM)) (hk9 : ∀ (x2 : Int32) (im : IM), X g md_X0_weighAllSets eV 9 [(0, .ref (g.1 63)), (1, .ref (g.1 a1)), (2, .int x2)] [] im (k9 x2 im)) (n : Nat) : ∀ (x2 : Int32) (x3 : Int32) (x4 : Int32) (im : IM), X g md_X0_weighAllSets eV 24 [(0, .ref (g.1 63)), (1, .ref (g.1 a1)), (2, .int x2), (3, .int x3), (4, .int x4)] [] im (f_X0_weighAllSets_l2 a1 k9 n x2 x3 x4 im) := by
  induction n with
  | zero => intro x2 x3 x4 im; exact x_none
  | succ n ih => intro x2 x3 x4 im; exact s_X0_weighAllSets_l2b h1 k9 hk9 (f_X0_weighAllSets_l2 a1 k9 n) ih x2 x3 x4 im
def f_X0_weighAllSets_l1b (a1 : Nat)   (k9 : Int32 → IM → Option (IM)) (x2 : Int32) (im : IM) : Option (IM) :=
  if (im a1 4) ≤ x2 then
    some im
  else
    bnd (jshl 1 x2) fun v2 =>
    f_X0_weighAllSets_l2 a1 k9 xF x2 v2 0 im
def f_X0_weighAllSets_l1 (a1 : Nat)   : Nat → Int32 → IM → Option (IM)
  | 0, _, _ => none
  | n + 1, x2, im => f_X0_weighAllSets_l1b a1 (f_X0_weighAllSets_l1 a1 n) x2 im
set_option maxRecDepth 20000 in
set_option maxHeartbeats 4000000 in
theorem s_X0_weighAllSets_l1b {g : GX} {a1 : Nat} (h1 : xTo a1)    (k9 : Int32 → IM → Option (IM)) (hk9 : ∀ (x2 : Int32) (im : IM), X g md_X0_weighAllSets eV 9 [(0, .ref (g.1 63)), (1, .ref (g.1 a1)), (2, .int x2)] [] im (k9 x2 im)) (x2 : Int32)  (im : IM) : X g md_X0_weighAllSets eV 9 [(0, .ref (g.1 63)), (1, .ref (g.1 a1)), (2, .int x2)] [] im (f_X0_weighAllSets_l1b a1 k9 x2 im) := by
  refine x_iload_n (q := 2) rfl rfl dX0_weighAllSets_9 ?_
  refine x_aload_n (q := 1) rfl rfl dX0_weighAllSets_10 ?_
  refine x_get (C := RX5) (T := TX5) (xTo_o h1) (by decide) rfl in_X5 4 (by decide) fl_X0_23 xf_5_4 dX0_weighAllSets_11 ?_
  refine x_icmp_ge (tgt := 68) dX0_weighAllSets_14 (by decide) ?_ ?_
  · exact x_vret rfl rfl dX0_weighAllSets_68
  · refine x_iconst (v := (1)) (by decide) dX0_weighAllSets_17 ?_
    refine x_iload_n (q := 2) rfl rfl dX0_weighAllSets_18 ?_
    refine x_ishl dX0_weighAllSets_19 ?_
    refine x_bi (fun v2 => ?_)
    refine x_istore_n (lv' := [(3, .int v2), (0, .ref (g.1 63)), (1, .ref (g.1 a1)), (2, .int x2)]) rfl dX0_weighAllSets_20 (by decide) rfl ?_
    refine x_iconst (v := (0)) (by decide) dX0_weighAllSets_21 ?_
    refine x_istore (lv' := [(4, .int 0), (3, .int v2), (0, .ref (g.1 63)), (1, .ref (g.1 a1)), (2, .int x2)]) dX0_weighAllSets_22 (by decide) rfl ?_
    refine x_sub [2, 3, 4, 1, 0] rfl ?_
    exact s_X0_weighAllSets_l2 h1 k9 hk9 xF x2 v2 0 im
set_option maxRecDepth 20000 in
set_option maxHeartbeats 4000000 in
theorem s_X0_weighAllSets_l1 {g : GX} {a1 : Nat} (h1 : xTo a1)    (n : Nat) : ∀ (x2 : Int32) (im : IM), X g md_X0_weighAllSets eV 9 [(0, .ref (g.1 63)), (1, .ref (g.1 a1)), (2, .int x2)] [] im (f_X0_weighAllSets_l1 a1 n x2 im) := by
  induction n with
  | zero => intro x2 im; exact x_none
  | succ n ih => intro x2 im; exact s_X0_weighAllSets_l1b h1 (f_X0_weighAllSets_l1 a1 n) ih x2 im
def f_X0_weighAllSets (a1 : Nat) (im : IM) : Option (IM) :=
  bnd (up im 64 0 0) fun m1 =>
  f_X0_weighAllSets_l1 a1 xF 0 m1
set_option maxRecDepth 20000 in
set_option maxHeartbeats 4000000 in
theorem s_X0_weighAllSets {g : GX} {a1 : Nat} (h1 : xTo a1)  (im : IM) : X g md_X0_weighAllSets eV 0 [(0, .ref (g.1 63)), (1, .ref (g.1 a1))] [] im (f_X0_weighAllSets a1 im) := by
  refine x_aload_n (q := 0) rfl rfl dX0_weighAllSets_0 ?_
  refine x_get (C := RX0) (T := TX0) sh_63 (by decide) rfl in_X0 0 (by decide) fl_X0_11 xf_0_0 dX0_weighAllSets_1 ?_
  refine x_iconst (v := (0)) (by decide) dX0_weighAllSets_4 ?_
  refine x_iconst (v := (0)) (by decide) dX0_weighAllSets_5 ?_
  refine x_iastc sh_64 (by decide) ix_0 dX0_weighAllSets_6 ?_
  refine x_bm (fun m1 => ?_)
  refine x_iconst (v := (0)) (by decide) dX0_weighAllSets_7 ?_
  refine x_istore_n (lv' := [(2, .int 0), (0, .ref (g.1 63)), (1, .ref (g.1 a1))]) rfl dX0_weighAllSets_8 (by decide) rfl ?_
  refine x_sub [1, 2, 0] rfl ?_
  exact s_X0_weighAllSets_l1 h1 xF 0 m1
theorem m_X0_weighAllSets {g : GX} {a1 : Nat} (h1 : xTo a1)  (im : IM) (r : IM) (hr : f_X0_weighAllSets a1 im = some r) : xMet g 0 yX0_weighAllSets cX0_weighAllSets 5 none [.ref (g.1 63), .ref (g.1 a1)] im (eV r) := x_met (by decide) (Nat.le_of_ble_eq_true rfl) rfl (s_X0_weighAllSets h1 im) r hr
abbrev md_X0_difference : xM := (1, 3, RX0, cX0_difference, (some .int))
def f_X0_difference (a1 : Int32) (a2 : Int32) (im : IM) : Option (Int32) :=
  if inb a1 1024 = true then
    if inb a2 1024 = true then
      some (jabs ((im 64 (ix a1)) - (2 * (im 64 (ix a2)))))
    else none
  else none
set_option maxRecDepth 20000 in
set_option maxHeartbeats 4000000 in
theorem s_X0_difference {g : GX}   (a1 : Int32) (a2 : Int32) (im : IM) : X g md_X0_difference (eR im) 0 [(0, .ref (g.1 63)), (1, .int a1), (2, .int a2)] [] im (f_X0_difference a1 a2 im) := by
  refine x_aload_n (q := 0) rfl rfl dX0_difference_0 ?_
  refine x_get (C := RX0) (T := TX0) sh_63 (by decide) rfl in_X0 0 (by decide) fl_X0_11 xf_0_0 dX0_difference_1 ?_
  refine x_iload_n (q := 1) rfl rfl dX0_difference_4 ?_
  refine x_iald sh_64 dX0_difference_5 ?_
  refine x_iconst (v := (2)) (by decide) dX0_difference_6 ?_
  refine x_aload_n (q := 0) rfl rfl dX0_difference_7 ?_
  refine x_get (C := RX0) (T := TX0) sh_63 (by decide) rfl in_X0 0 (by decide) fl_X0_11 xf_0_0 dX0_difference_8 ?_
  refine x_iload_n (q := 2) rfl rfl dX0_difference_11 ?_
  refine x_iald sh_64 dX0_difference_12 ?_
  refine x_imul dX0_difference_13 ?_
  refine x_isub dX0_difference_14 ?_
  refine x_mabs lk_X0_38 (by decide) (Nat.le_of_ble_eq_true rfl) dX0_difference_15 ?_
  exact x_iret rfl rfl dX0_difference_18
theorem m_X0_difference {g : GX}   (a1 : Int32) (a2 : Int32) (im : IM) (r : Int32) (hr : f_X0_difference a1 a2 im = some r) : xMet g 1 yX0_difference cX0_difference 3 (some .int) [.ref (g.1 63), .int a1, .int a2] im ((eR im) r) := x_met (by decide) (Nat.le_of_ble_eq_true rfl) rfl (s_X0_difference a1 a2 im) r hr
abbrev md_X0_leftSide : xM := (2, 7, RX0, cX0_leftSide, (some .int))
def f_X0_leftSide_j4 (a1 : Nat) (a2 : Int32) (k16 : Int32 → Int32 → Int32 → IM → Option (Int32 × IM)) (x3 : Int32) (x4 : Int32) (x5 : Int32) (im : IM) : Option (Int32 × IM) :=
  bnd (x5 + (-1)) fun v3 =>
  k16 x3 x4 v3 im
set_option maxRecDepth 20000 in
set_option maxHeartbeats 4000000 in
theorem s_X0_leftSide_j4 {g : GX} {a1 : Nat} (h1 : xTo a1) (a2 : Int32)  (k16 : Int32 → Int32 → Int32 → IM → Option (Int32 × IM)) (hk16 : ∀ (x3 : Int32) (x4 : Int32) (x5 : Int32) (im : IM), X g md_X0_leftSide eI 16 [(0, .ref (g.1 63)), (2, .int a2), (3, .int x3), (4, .int x4), (5, .int x5)] [] im (k16 x3 x4 x5 im)) (x3 : Int32) (x4 : Int32) (x5 : Int32)  (im : IM) : X g md_X0_leftSide eI 71 [(0, .ref (g.1 63)), (2, .int a2), (3, .int x3), (4, .int x4), (5, .int x5)] [] im (f_X0_leftSide_j4 a1 a2 k16 x3 x4 x5 im) := by
  refine x_iinc (q := 4) (a := (-1)) (lv' := fun v3 => [(5, .int v3), (0, .ref (g.1 63)), (2, .int a2), (3, .int x3), (4, .int x4)]) dX0_leftSide_71 rfl (by decide) (by decide) (fun _ => rfl) (fun v3 => ?_)
  refine x_goto (tgt := 16) dX0_leftSide_74 (by decide) ?_
  refine x_sub [1, 2, 3, 4, 0] rfl ?_
  exact hk16 x3 x4 v3 im
def f_X0_leftSide_j3 (a1 : Nat) (a2 : Int32) (k16 : Int32 → Int32 → Int32 → IM → Option (Int32 × IM)) (x3 : Int32) (x4 : Int32) (x5 : Int32) (s0 : Int32) (im : IM) : Option (Int32 × IM) :=
  if s0 = 0 then
    f_X0_leftSide_j4 a1 a2 k16 x3 x4 x5 im
  else
    (f_X0_difference a2 x5 im).bind fun r4 =>
    (f_X0_difference a2 x4 im).bind fun r5 =>
    if r5 < r4 then
      f_X0_leftSide_j4 a1 a2 k16 x3 x4 x5 im
    else
      f_X0_leftSide_j4 a1 a2 k16 x3 x5 x5 im
set_option maxRecDepth 20000 in
set_option maxHeartbeats 4000000 in
theorem s_X0_leftSide_j3 {g : GX} {a1 : Nat} (h1 : xTo a1) (a2 : Int32)  (k16 : Int32 → Int32 → Int32 → IM → Option (Int32 × IM)) (hk16 : ∀ (x3 : Int32) (x4 : Int32) (x5 : Int32) (im : IM), X g md_X0_leftSide eI 16 [(0, .ref (g.1 63)), (2, .int a2), (3, .int x3), (4, .int x4), (5, .int x5)] [] im (k16 x3 x4 x5 im)) (x3 : Int32) (x4 : Int32) (x5 : Int32) (s0 : Int32)  (im : IM) : X g md_X0_leftSide eI 43 [(0, .ref (g.1 63)), (2, .int a2), (3, .int x3), (4, .int x4), (5, .int x5)] [.int s0] im (f_X0_leftSide_j3 a1 a2 k16 x3 x4 x5 s0 im) := by
  refine x_istore (lv' := [(6, .int s0), (0, .ref (g.1 63)), (2, .int a2), (3, .int x3), (4, .int x4), (5, .int x5)]) dX0_leftSide_43 (by decide) rfl ?_
  refine x_iload (q := 0) rfl dX0_leftSide_45 ?_
  refine x_if_eq (tgt := 71) dX0_leftSide_47 (by decide) ?_ ?_
  · refine x_sub [1, 2, 3, 4, 5] rfl ?_
    exact s_X0_leftSide_j4 h1 a2 k16 hk16 x3 x4 x5 im
  · refine x_aload_n (q := 1) rfl rfl dX0_leftSide_50 ?_
    refine x_iload_n (q := 2) rfl rfl dX0_leftSide_51 ?_
    refine x_iload (q := 5) rfl dX0_leftSide_52 ?_
    refine x_bind (fun r4 er4 => ?_)
    refine x_callVR (av := [.int a2, .int x5]) (st := []) (m_X0_difference  a2 x5 im r4 er4) sh_63 (by decide) rfl rfl (by decide) (by decide) lk_X0_19 cd_X0_difference xd_X0_difference rfl (Nat.le_of_ble_eq_true rfl) dX0_leftSide_54 ?_
    refine x_aload_n (q := 1) rfl rfl dX0_leftSide_57 ?_
    refine x_iload_n (q := 2) rfl rfl dX0_leftSide_58 ?_
    refine x_iload (q := 4) rfl dX0_leftSide_59 ?_
    refine x_bind (fun r5 er5 => ?_)
    refine x_callVR (av := [.int a2, .int x4]) (st := [.int r4]) (m_X0_difference  a2 x4 im r5 er5) sh_63 (by decide) rfl rfl (by decide) (by decide) lk_X0_19 cd_X0_difference xd_X0_difference rfl (Nat.le_of_ble_eq_true rfl) dX0_leftSide_61 ?_
    refine x_icmp_gt (tgt := 71) dX0_leftSide_64 (by decide) ?_ ?_
    · refine x_sub [1, 2, 3, 4, 5] rfl ?_
      exact s_X0_leftSide_j4 h1 a2 k16 hk16 x3 x4 x5 im
    · refine x_iload (q := 5) rfl dX0_leftSide_67 ?_
      refine x_istore (lv' := [(4, .int x5), (6, .int s0), (0, .ref (g.1 63)), (2, .int a2), (3, .int x3), (5, .int x5)]) dX0_leftSide_69 (by decide) rfl ?_
      refine x_sub [2, 3, 4, 0, 5] rfl ?_
      exact s_X0_leftSide_j4 h1 a2 k16 hk16 x3 x5 x5 im
def f_X0_leftSide_j2 (a1 : Nat) (a2 : Int32) (k16 : Int32 → Int32 → Int32 → IM → Option (Int32 × IM)) (x3 : Int32) (x4 : Int32) (x5 : Int32) (im : IM) : Option (Int32 × IM) :=
  f_X0_leftSide_j3 a1 a2 k16 x3 x4 x5 0 im
set_option maxRecDepth 20000 in
set_option maxHeartbeats 4000000 in
theorem s_X0_leftSide_j2 {g : GX} {a1 : Nat} (h1 : xTo a1) (a2 : Int32)  (k16 : Int32 → Int32 → Int32 → IM → Option (Int32 × IM)) (hk16 : ∀ (x3 : Int32) (x4 : Int32) (x5 : Int32) (im : IM), X g md_X0_leftSide eI 16 [(0, .ref (g.1 63)), (2, .int a2), (3, .int x3), (4, .int x4), (5, .int x5)] [] im (k16 x3 x4 x5 im)) (x3 : Int32) (x4 : Int32) (x5 : Int32)  (im : IM) : X g md_X0_leftSide eI 42 [(0, .ref (g.1 63)), (2, .int a2), (3, .int x3), (4, .int x4), (5, .int x5)] [] im (f_X0_leftSide_j2 a1 a2 k16 x3 x4 x5 im) := by
  refine x_iconst (v := (0)) (by decide) dX0_leftSide_42 ?_
  refine x_sub [0, 1, 2, 3, 4] rfl ?_
  exact s_X0_leftSide_j3 h1 a2 k16 hk16 x3 x4 x5 0 im
def f_X0_leftSide_l1b (a1 : Nat) (a2 : Int32)   (k16 : Int32 → Int32 → Int32 → IM → Option (Int32 × IM)) (x3 : Int32) (x4 : Int32) (x5 : Int32) (im : IM) : Option (Int32 × IM) :=
  if x5 < x3 then
    some ((x4, im))
  else
    if (x5 &&& (a2 ^^^ ((-1)))) = 0 then
      if (x5 &&& x3) = 0 then
        f_X0_leftSide_j2 a1 a2 k16 x3 x4 x5 im
      else
        f_X0_leftSide_j3 a1 a2 k16 x3 x4 x5 1 im
    else
      f_X0_leftSide_j2 a1 a2 k16 x3 x4 x5 im
def f_X0_leftSide_l1 (a1 : Nat) (a2 : Int32)   : Nat → Int32 → Int32 → Int32 → IM → Option (Int32 × IM)
  | 0, _, _, _, _ => none
  | n + 1, x3, x4, x5, im => f_X0_leftSide_l1b a1 a2 (f_X0_leftSide_l1 a1 a2 n) x3 x4 x5 im
set_option maxRecDepth 20000 in
set_option maxHeartbeats 4000000 in
theorem s_X0_leftSide_l1b {g : GX} {a1 : Nat} (h1 : xTo a1) (a2 : Int32)    (k16 : Int32 → Int32 → Int32 → IM → Option (Int32 × IM)) (hk16 : ∀ (x3 : Int32) (x4 : Int32) (x5 : Int32) (im : IM), X g md_X0_leftSide eI 16 [(0, .ref (g.1 63)), (2, .int a2), (3, .int x3), (4, .int x4), (5, .int x5)] [] im (k16 x3 x4 x5 im)) (x3 : Int32) (x4 : Int32) (x5 : Int32)  (im : IM) : X g md_X0_leftSide eI 16 [(0, .ref (g.1 63)), (2, .int a2), (3, .int x3), (4, .int x4), (5, .int x5)] [] im (f_X0_leftSide_l1b a1 a2 k16 x3 x4 x5 im) := by
  refine x_iload (q := 4) rfl dX0_leftSide_16 ?_
  refine x_iload_n (q := 2) rfl rfl dX0_leftSide_18 ?_
  refine x_icmp_lt (tgt := 77) dX0_leftSide_19 (by decide) ?_ ?_
  · refine x_iload (q := 3) rfl dX0_leftSide_77 ?_
    exact x_iret rfl rfl dX0_leftSide_79
  · refine x_iload (q := 4) rfl dX0_leftSide_22 ?_
    refine x_iload_n (q := 1) rfl rfl dX0_leftSide_24 ?_
    refine x_iconst (v := (-1)) (by decide) dX0_leftSide_25 ?_
    refine x_ixor dX0_leftSide_26 ?_
    refine x_iand dX0_leftSide_27 ?_
    refine x_if_ne (tgt := 42) dX0_leftSide_28 (by decide) ?_ ?_
    · refine x_sub [0, 1, 2, 3, 4] rfl ?_
      exact s_X0_leftSide_j2 h1 a2 k16 hk16 x3 x4 x5 im
    · refine x_iload (q := 4) rfl dX0_leftSide_31 ?_
      refine x_iload_n (q := 2) rfl rfl dX0_leftSide_33 ?_
      refine x_iand dX0_leftSide_34 ?_
      refine x_if_eq (tgt := 42) dX0_leftSide_35 (by decide) ?_ ?_
      · refine x_sub [0, 1, 2, 3, 4] rfl ?_
        exact s_X0_leftSide_j2 h1 a2 k16 hk16 x3 x4 x5 im
      · refine x_iconst (v := (1)) (by decide) dX0_leftSide_38 ?_
        refine x_goto (tgt := 43) dX0_leftSide_39 (by decide) ?_
        refine x_sub [0, 1, 2, 3, 4] rfl ?_
        exact s_X0_leftSide_j3 h1 a2 k16 hk16 x3 x4 x5 1 im
set_option maxRecDepth 20000 in
set_option maxHeartbeats 4000000 in
theorem s_X0_leftSide_l1 {g : GX} {a1 : Nat} (h1 : xTo a1) (a2 : Int32)    (n : Nat) : ∀ (x3 : Int32) (x4 : Int32) (x5 : Int32) (im : IM), X g md_X0_leftSide eI 16 [(0, .ref (g.1 63)), (2, .int a2), (3, .int x3), (4, .int x4), (5, .int x5)] [] im (f_X0_leftSide_l1 a1 a2 n x3 x4 x5 im) := by
  induction n with
  | zero => intro x3 x4 x5 im; exact x_none
  | succ n ih => intro x3 x4 x5 im; exact s_X0_leftSide_l1b h1 a2 (f_X0_leftSide_l1 a1 a2 n) ih x3 x4 x5 im
def f_X0_leftSide (a1 : Nat) (a2 : Int32) (im : IM) : Option (Int32 × IM) :=
  (f_X0_weighAllSets a1 im).bind fun r1 =>
  bnd (a2 &&& (-a2)) fun v2 =>
  f_X0_leftSide_l1 a1 a2 xF v2 a2 a2 r1
set_option maxRecDepth 20000 in
set_option maxHeartbeats 4000000 in
theorem s_X0_leftSide {g : GX} {a1 : Nat} (h1 : xTo a1)   (a2 : Int32) (im : IM) : X g md_X0_leftSide eI 0 [(0, .ref (g.1 63)), (1, .ref (g.1 a1)), (2, .int a2)] [] im (f_X0_leftSide a1 a2 im) := by
  refine x_aload_n (q := 0) rfl rfl dX0_leftSide_0 ?_
  refine x_aload_n (q := 1) rfl rfl dX0_leftSide_1 ?_
  refine x_bind (fun r1 er1 => ?_)
  refine x_callVV (av := [.ref (g.1 a1)]) (st := []) (m_X0_weighAllSets h1  im r1 er1) sh_63 (by decide) rfl rfl (by decide) (by decide) lk_X0_15 cd_X0_weighAllSets xd_X0_weighAllSets rfl (Nat.le_of_ble_eq_true rfl) dX0_leftSide_2 ?_
  refine x_iload_n (q := 2) rfl rfl dX0_leftSide_5 ?_
  refine x_iload_n (q := 2) rfl rfl dX0_leftSide_6 ?_
  refine x_ineg dX0_leftSide_7 ?_
  refine x_iand dX0_leftSide_8 ?_
  refine x_bi (fun v2 => ?_)
  refine x_istore_n (lv' := [(3, .int v2), (0, .ref (g.1 63)), (1, .ref (g.1 a1)), (2, .int a2)]) rfl dX0_leftSide_9 (by decide) rfl ?_
  refine x_iload_n (q := 3) rfl rfl dX0_leftSide_10 ?_
  refine x_istore (lv' := [(4, .int a2), (3, .int v2), (0, .ref (g.1 63)), (1, .ref (g.1 a1)), (2, .int a2)]) dX0_leftSide_11 (by decide) rfl ?_
  refine x_iload_n (q := 4) rfl rfl dX0_leftSide_13 ?_
  refine x_istore (lv' := [(5, .int a2), (4, .int a2), (3, .int v2), (0, .ref (g.1 63)), (1, .ref (g.1 a1)), (2, .int a2)]) dX0_leftSide_14 (by decide) rfl ?_
  refine x_sub [3, 5, 2, 1, 0] rfl ?_
  exact s_X0_leftSide_l1 h1 a2 xF v2 a2 a2 r1
theorem m_X0_leftSide {g : GX} {a1 : Nat} (h1 : xTo a1)   (a2 : Int32) (im : IM) (r : Int32 × IM) (hr : f_X0_leftSide a1 a2 im = some r) : xMet g 2 yX0_leftSide cX0_leftSide 7 (some .int) [.ref (g.1 63), .ref (g.1 a1), .int a2] im (eI r) := x_met (by decide) (Nat.le_of_ble_eq_true rfl) rfl (s_X0_leftSide h1 a2 im) r hr
abbrev md_X0_fewestFor : xM := (1, 10, RX0, cX0_fewestFor, (some .int))
def f_X0_fewestFor_j2 (a1 : Nat) (a2 : Int32) (a3 : Int32) (k8 : Int32 → Int32 → Option (Int32)) (x4 : Int32) (x5 : Int32) (im : IM) : Option (Int32) :=
  bnd (x5 + 1) fun v1 =>
  k8 x4 v1
set_option maxRecDepth 20000 in
set_option maxHeartbeats 4000000 in
theorem s_X0_fewestFor_j2 {g : GX} {a1 : Nat} (h1 : xTo a1) (a2 : Int32) (a3 : Int32)  (k8 : Int32 → Int32 → Option (Int32)) (im : IM) (hk8 : ∀ (x4 : Int32) (x5 : Int32), X g md_X0_fewestFor (eR im) 8 [(0, .ref (g.1 63)), (1, .ref (g.1 a1)), (2, .int a2), (3, .int a3), (4, .int x4), (5, .int x5)] [] im (k8 x4 x5)) (x4 : Int32) (x5 : Int32)  : X g md_X0_fewestFor (eR im) 110 [(0, .ref (g.1 63)), (1, .ref (g.1 a1)), (2, .int a2), (3, .int a3), (4, .int x4), (5, .int x5)] [] im (f_X0_fewestFor_j2 a1 a2 a3 k8 x4 x5 im) := by
  refine x_iinc (q := 5) (a := 1) (lv' := fun v1 => [(5, .int v1), (0, .ref (g.1 63)), (1, .ref (g.1 a1)), (2, .int a2), (3, .int a3), (4, .int x4)]) dX0_fewestFor_110 rfl (by decide) (by decide) (fun _ => rfl) (fun v1 => ?_)
  refine x_goto (tgt := 8) dX0_fewestFor_113 (by decide) ?_
  refine x_sub [1, 2, 3, 4, 5, 0] rfl ?_
  exact hk8 x4 v1
def f_X0_fewestFor_j4 (a1 : Nat) (a2 : Int32) (a3 : Int32) (k8 : Int32 → Int32 → Option (Int32)) (x4 : Int32) (x5 : Int32) (s0 : Int32) (im : IM) : Option (Int32) :=
  bnd (jmin x4 s0) fun v5 =>
  f_X0_fewestFor_j2 a1 a2 a3 k8 v5 x5 im
set_option maxRecDepth 20000 in
set_option maxHeartbeats 4000000 in
theorem s_X0_fewestFor_j4 {g : GX} {a1 : Nat} (h1 : xTo a1) (a2 : Int32) (a3 : Int32)  (k8 : Int32 → Int32 → Option (Int32)) (im : IM) (hk8 : ∀ (x4 : Int32) (x5 : Int32), X g md_X0_fewestFor (eR im) 8 [(0, .ref (g.1 63)), (1, .ref (g.1 a1)), (2, .int a2), (3, .int a3), (4, .int x4), (5, .int x5)] [] im (k8 x4 x5)) (x4 : Int32) (x5 : Int32) (s0 : Int32)  : X g md_X0_fewestFor (eR im) 99 [(0, .ref (g.1 63)), (1, .ref (g.1 a1)), (2, .int a2), (3, .int a3), (4, .int x4), (5, .int x5)] [.int s0] im (f_X0_fewestFor_j4 a1 a2 a3 k8 x4 x5 s0 im) := by
  refine x_istore (lv' := [(9, .int s0), (0, .ref (g.1 63)), (1, .ref (g.1 a1)), (2, .int a2), (3, .int a3), (4, .int x4), (5, .int x5)]) dX0_fewestFor_99 (by decide) rfl ?_
  refine x_iload (q := 5) rfl dX0_fewestFor_101 ?_
  refine x_iload (q := 0) rfl dX0_fewestFor_103 ?_
  refine x_mmin lk_X0_52 (by decide) (Nat.le_of_ble_eq_true rfl) dX0_fewestFor_105 ?_
  refine x_bi (fun v5 => ?_)
  refine x_istore (lv' := [(4, .int v5), (9, .int s0), (0, .ref (g.1 63)), (1, .ref (g.1 a1)), (2, .int a2), (3, .int a3), (5, .int x5)]) dX0_fewestFor_108 (by decide) rfl ?_
  refine x_sub [2, 3, 4, 5, 0, 6] rfl ?_
  exact s_X0_fewestFor_j2 h1 a2 a3 k8 im hk8 v5 x5
def f_X0_fewestFor_j3 (a1 : Nat) (a2 : Int32) (a3 : Int32) (k8 : Int32 → Int32 → Option (Int32)) (x4 : Int32) (x5 : Int32) (x6 : Int32) (x7 : Int32) (s0 : Int32) (im : IM) : Option (Int32) :=
  if s0 = 0 then
    f_X0_fewestFor_j4 a1 a2 a3 k8 x4 x5 ((((x6 / 1000) + 1) * 1000) + x7) im
  else
    f_X0_fewestFor_j4 a1 a2 a3 k8 x4 x5 (x6 + x7) im
set_option maxRecDepth 20000 in
set_option maxHeartbeats 4000000 in
theorem s_X0_fewestFor_j3 {g : GX} {a1 : Nat} (h1 : xTo a1) (a2 : Int32) (a3 : Int32)  (k8 : Int32 → Int32 → Option (Int32)) (im : IM) (hk8 : ∀ (x4 : Int32) (x5 : Int32), X g md_X0_fewestFor (eR im) 8 [(0, .ref (g.1 63)), (1, .ref (g.1 a1)), (2, .int a2), (3, .int a3), (4, .int x4), (5, .int x5)] [] im (k8 x4 x5)) (x4 : Int32) (x5 : Int32) (x6 : Int32) (x7 : Int32) (s0 : Int32)  : X g md_X0_fewestFor (eR im) 69 [(0, .ref (g.1 63)), (1, .ref (g.1 a1)), (2, .int a2), (3, .int a3), (4, .int x4), (5, .int x5), (6, .int x6), (7, .int x7)] [.int s0] im (f_X0_fewestFor_j3 a1 a2 a3 k8 x4 x5 x6 x7 s0 im) := by
  refine x_istore (lv' := [(8, .int s0), (0, .ref (g.1 63)), (1, .ref (g.1 a1)), (2, .int a2), (3, .int a3), (4, .int x4), (5, .int x5), (6, .int x6), (7, .int x7)]) dX0_fewestFor_69 (by decide) rfl ?_
  refine x_iload (q := 0) rfl dX0_fewestFor_71 ?_
  refine x_if_eq (tgt := 84) dX0_fewestFor_73 (by decide) ?_ ?_
  · refine x_iload (q := 7) rfl dX0_fewestFor_84 ?_
    refine x_sipush (v := (1000)) (by decide) dX0_fewestFor_86 ?_
    refine x_idiv (by decide) dX0_fewestFor_89 ?_
    refine x_iconst (v := (1)) (by decide) dX0_fewestFor_90 ?_
    refine x_iadd dX0_fewestFor_91 ?_
    refine x_sipush (v := (1000)) (by decide) dX0_fewestFor_92 ?_
    refine x_imul dX0_fewestFor_95 ?_
    refine x_iload (q := 8) rfl dX0_fewestFor_96 ?_
    refine x_iadd dX0_fewestFor_98 ?_
    refine x_sub [1, 2, 3, 4, 5, 6] rfl ?_
    exact s_X0_fewestFor_j4 h1 a2 a3 k8 im hk8 x4 x5 ((((x6 / 1000) + 1) * 1000) + x7)
  · refine x_iload (q := 7) rfl dX0_fewestFor_76 ?_
    refine x_iload (q := 8) rfl dX0_fewestFor_78 ?_
    refine x_iadd dX0_fewestFor_80 ?_
    refine x_goto (tgt := 99) dX0_fewestFor_81 (by decide) ?_
    refine x_sub [1, 2, 3, 4, 5, 6] rfl ?_
    exact s_X0_fewestFor_j4 h1 a2 a3 k8 im hk8 x4 x5 (x6 + x7)
def f_X0_fewestFor_l1b (a1 : Nat) (a2 : Int32) (a3 : Int32)  (im : IM) (k8 : Int32 → Int32 → Option (Int32)) (x4 : Int32) (x5 : Int32)  : Option (Int32) :=
  if (im a1 4) ≤ x5 then
    some x4
  else
    if (f_X6_has a2 x5) = 0 then
      f_X0_fewestFor_j2 a1 a2 a3 k8 x4 x5 im
    else
      if inb (a2 ^^^ (jshl 1 x5)) 1024 = true then
        bnd (im 64 (ix (a2 ^^^ (jshl 1 x5)))) fun v2 =>
        if inb x5 10 = true then
          bnd (im (a1 + 5 + ix x5) 1) fun v4 =>
          if a3 < ((jrem v2 1000) + v4) then
            f_X0_fewestFor_j3 a1 a2 a3 k8 x4 x5 v2 v4 0 im
          else
            f_X0_fewestFor_j3 a1 a2 a3 k8 x4 x5 v2 v4 1 im
        else none
      else none
def f_X0_fewestFor_l1 (a1 : Nat) (a2 : Int32) (a3 : Int32)  (im : IM) : Nat → Int32 → Int32 → Option (Int32)
  | 0, _, _ => none
  | n + 1, x4, x5 => f_X0_fewestFor_l1b a1 a2 a3 im (f_X0_fewestFor_l1 a1 a2 a3 im n) x4 x5
set_option maxRecDepth 20000 in
set_option maxHeartbeats 4000000 in
theorem s_X0_fewestFor_l1b {g : GX} {a1 : Nat} (h1 : xTo a1) (a2 : Int32) (a3 : Int32)   (im : IM)  (k8 : Int32 → Int32 → Option (Int32)) (hk8 : ∀ (x4 : Int32) (x5 : Int32), X g md_X0_fewestFor (eR im) 8 [(0, .ref (g.1 63)), (1, .ref (g.1 a1)), (2, .int a2), (3, .int a3), (4, .int x4), (5, .int x5)] [] im (k8 x4 x5)) (x4 : Int32) (x5 : Int32)  : X g md_X0_fewestFor (eR im) 8 [(0, .ref (g.1 63)), (1, .ref (g.1 a1)), (2, .int a2), (3, .int a3), (4, .int x4), (5, .int x5)] [] im (f_X0_fewestFor_l1b a1 a2 a3 im k8 x4 x5) := by
  refine x_iload (q := 5) rfl dX0_fewestFor_8 ?_
  refine x_aload_n (q := 1) rfl rfl dX0_fewestFor_10 ?_
  refine x_get (C := RX5) (T := TX5) (xTo_o h1) (by decide) rfl in_X5 4 (by decide) fl_X0_23 xf_5_4 dX0_fewestFor_11 ?_
  refine x_icmp_ge (tgt := 116) dX0_fewestFor_14 (by decide) ?_ ?_
  · refine x_iload (q := 4) rfl dX0_fewestFor_116 ?_
    exact x_iret rfl rfl dX0_fewestFor_118
  · refine x_iload_n (q := 2) rfl rfl dX0_fewestFor_17 ?_
    refine x_iload (q := 5) rfl dX0_fewestFor_18 ?_
    refine x_callSR (av := [.int a2, .int x5]) (st := []) (m_X6_has  a2 x5 im) rfl (by decide) (by decide) lk_X0_48 cd_X6_has xd_X6_has rfl (Nat.le_of_ble_eq_true rfl) dX0_fewestFor_20 ?_
    refine x_if_eq (tgt := 110) dX0_fewestFor_23 (by decide) ?_ ?_
    · refine x_sub [0, 1, 2, 3, 4, 5] rfl ?_
      exact s_X0_fewestFor_j2 h1 a2 a3 k8 im hk8 x4 x5
    · refine x_aload_n (q := 0) rfl rfl dX0_fewestFor_26 ?_
      refine x_get (C := RX0) (T := TX0) sh_63 (by decide) rfl in_X0 0 (by decide) fl_X0_11 xf_0_0 dX0_fewestFor_27 ?_
      refine x_iload_n (q := 2) rfl rfl dX0_fewestFor_30 ?_
      refine x_iconst (v := (1)) (by decide) dX0_fewestFor_31 ?_
      refine x_iload (q := 5) rfl dX0_fewestFor_32 ?_
      refine x_ishl dX0_fewestFor_34 ?_
      refine x_ixor dX0_fewestFor_35 ?_
      refine x_iald sh_64 dX0_fewestFor_36 ?_
      refine x_bi (fun v2 => ?_)
      refine x_istore (lv' := [(6, .int v2), (0, .ref (g.1 63)), (1, .ref (g.1 a1)), (2, .int a2), (3, .int a3), (4, .int x4), (5, .int x5)]) dX0_fewestFor_37 (by decide) rfl ?_
      refine x_aload_n (q := 2) rfl rfl dX0_fewestFor_39 ?_
      refine x_get (C := RX5) (T := TX5) (xTo_o h1) (by decide) rfl in_X5 2 (by decide) fl_X0_29 xf_5_2 dX0_fewestFor_40 ?_
      refine x_iload (q := 6) rfl dX0_fewestFor_43 ?_
      refine x_aldT (xTo_3 h1) dX0_fewestFor_45 (fun hi3 => ?_)
      refine x_get (C := RX4) (T := TX4) (xTh h1 hi3) (by decide) rfl in_X4 1 (by decide) fl_X0_33 xf_4_1 dX0_fewestFor_46 ?_
      refine x_bi (fun v4 => ?_)
      refine x_istore (lv' := [(7, .int v4), (6, .int v2), (0, .ref (g.1 63)), (1, .ref (g.1 a1)), (2, .int a2), (3, .int a3), (4, .int x4), (5, .int x5)]) dX0_fewestFor_49 (by decide) rfl ?_
      refine x_iload (q := 1) rfl dX0_fewestFor_51 ?_
      refine x_sipush (v := (1000)) (by decide) dX0_fewestFor_53 ?_
      refine x_irem (by decide) dX0_fewestFor_56 ?_
      refine x_iload (q := 0) rfl dX0_fewestFor_57 ?_
      refine x_iadd dX0_fewestFor_59 ?_
      refine x_iload_n (q := 5) rfl rfl dX0_fewestFor_60 ?_
      refine x_icmp_gt (tgt := 68) dX0_fewestFor_61 (by decide) ?_ ?_
      · refine x_iconst (v := (0)) (by decide) dX0_fewestFor_68 ?_
        refine x_sub [2, 3, 4, 5, 6, 7, 1, 0] rfl ?_
        exact s_X0_fewestFor_j3 h1 a2 a3 k8 im hk8 x4 x5 v2 v4 0
      · refine x_iconst (v := (1)) (by decide) dX0_fewestFor_64 ?_
        refine x_goto (tgt := 69) dX0_fewestFor_65 (by decide) ?_
        refine x_sub [2, 3, 4, 5, 6, 7, 1, 0] rfl ?_
        exact s_X0_fewestFor_j3 h1 a2 a3 k8 im hk8 x4 x5 v2 v4 1
set_option maxRecDepth 20000 in
set_option maxHeartbeats 4000000 in
theorem s_X0_fewestFor_l1 {g : GX} {a1 : Nat} (h1 : xTo a1) (a2 : Int32) (a3 : Int32)   (im : IM)  (n : Nat) : ∀ (x4 : Int32) (x5 : Int32), X g md_X0_fewestFor (eR im) 8 [(0, .ref (g.1 63)), (1, .ref (g.1 a1)), (2, .int a2), (3, .int a3), (4, .int x4), (5, .int x5)] [] im (f_X0_fewestFor_l1 a1 a2 a3 im n x4 x5) := by
  induction n with
  | zero => intro x4 x5; exact x_none
  | succ n ih => intro x4 x5; exact s_X0_fewestFor_l1b h1 a2 a3 im (f_X0_fewestFor_l1 a1 a2 a3 im n) ih x4 x5
def f_X0_fewestFor (a1 : Nat) (a2 : Int32) (a3 : Int32) (im : IM) : Option (Int32) :=
  f_X0_fewestFor_l1 a1 a2 a3 im xF 11000 0
set_option maxRecDepth 20000 in
set_option maxHeartbeats 4000000 in
theorem s_X0_fewestFor {g : GX} {a1 : Nat} (h1 : xTo a1)    (a2 : Int32) (a3 : Int32) (im : IM) : X g md_X0_fewestFor (eR im) 0 [(0, .ref (g.1 63)), (1, .ref (g.1 a1)), (2, .int a2), (3, .int a3)] [] im (f_X0_fewestFor a1 a2 a3 im) := by
  refine x_sipush (v := (11000)) (by decide) dX0_fewestFor_0 ?_
  refine x_istore (lv' := [(4, .int 11000), (0, .ref (g.1 63)), (1, .ref (g.1 a1)), (2, .int a2), (3, .int a3)]) dX0_fewestFor_3 (by decide) rfl ?_
  refine x_iconst (v := (0)) (by decide) dX0_fewestFor_5 ?_
  refine x_istore (lv' := [(5, .int 0), (4, .int 11000), (0, .ref (g.1 63)), (1, .ref (g.1 a1)), (2, .int a2), (3, .int a3)]) dX0_fewestFor_6 (by decide) rfl ?_
  refine x_sub [2, 3, 4, 5, 1, 0] rfl ?_
  exact s_X0_fewestFor_l1 h1 a2 a3 im xF 11000 0
theorem m_X0_fewestFor {g : GX} {a1 : Nat} (h1 : xTo a1)    (a2 : Int32) (a3 : Int32) (im : IM) (r : Int32) (hr : f_X0_fewestFor a1 a2 a3 im = some r) : xMet g 1 yX0_fewestFor cX0_fewestFor 10 (some .int) [.ref (g.1 63), .ref (g.1 a1), .int a2, .int a3] im ((eR im) r) := x_met (by decide) (Nat.le_of_ble_eq_true rfl) rfl (s_X0_fewestFor h1 a2 a3 im) r hr
abbrev md_X0_fewestDrums : xM := (2, 5, RX0, cX0_fewestDrums, (some .int))
def f_X0_fewestDrums_j2 (a1 : Nat) (a2 : Int32) (a3 : Int32)   (im : IM) : Option (Int32 × IM) :=
  if inb a2 1024 = true then
    some (((im 64 (ix a2)) / 1000, im))
  else none
set_option maxRecDepth 20000 in
set_option maxHeartbeats 4000000 in
theorem s_X0_fewestDrums_j2 {g : GX} {a1 : Nat} (h1 : xTo a1) (a2 : Int32) (a3 : Int32)      (im : IM) : X g md_X0_fewestDrums eI 56 [(0, .ref (g.1 63)), (2, .int a2)] [] im (f_X0_fewestDrums_j2 a1 a2 a3 im) := by
  refine x_aload_n (q := 0) rfl rfl dX0_fewestDrums_56 ?_
  refine x_get (C := RX0) (T := TX0) sh_63 (by decide) rfl in_X0 0 (by decide) fl_X0_11 xf_0_0 dX0_fewestDrums_57 ?_
  refine x_iload_n (q := 1) rfl rfl dX0_fewestDrums_60 ?_
  refine x_iald sh_64 dX0_fewestDrums_61 ?_
  refine x_sipush (v := (1000)) (by decide) dX0_fewestDrums_62 ?_
  refine x_idiv (by decide) dX0_fewestDrums_65 ?_
  exact x_iret rfl rfl dX0_fewestDrums_66
def f_X0_fewestDrums_j3 (a1 : Nat) (a2 : Int32) (a3 : Int32) (k12 : Int32 → IM → Option (Int32 × IM)) (x4 : Int32) (im : IM) : Option (Int32 × IM) :=
  bnd (x4 + 1) fun v2 =>
  k12 v2 im
set_option maxRecDepth 20000 in
set_option maxHeartbeats 4000000 in
theorem s_X0_fewestDrums_j3 {g : GX} {a1 : Nat} (h1 : xTo a1) (a2 : Int32) (a3 : Int32)  (k12 : Int32 → IM → Option (Int32 × IM)) (hk12 : ∀ (x4 : Int32) (im : IM), X g md_X0_fewestDrums eI 12 [(0, .ref (g.1 63)), (1, .ref (g.1 a1)), (2, .int a2), (3, .int a3), (4, .int x4)] [] im (k12 x4 im)) (x4 : Int32)  (im : IM) : X g md_X0_fewestDrums eI 50 [(0, .ref (g.1 63)), (1, .ref (g.1 a1)), (2, .int a2), (3, .int a3), (4, .int x4)] [] im (f_X0_fewestDrums_j3 a1 a2 a3 k12 x4 im) := by
  refine x_iinc (q := 4) (a := 1) (lv' := fun v2 => [(4, .int v2), (0, .ref (g.1 63)), (1, .ref (g.1 a1)), (2, .int a2), (3, .int a3)]) dX0_fewestDrums_50 rfl (by decide) (by decide) (fun _ => rfl) (fun v2 => ?_)
  refine x_goto (tgt := 12) dX0_fewestDrums_53 (by decide) ?_
  refine x_sub [1, 2, 3, 4, 0] rfl ?_
  exact hk12 v2 im
def f_X0_fewestDrums_l1b (a1 : Nat) (a2 : Int32) (a3 : Int32)   (k12 : Int32 → IM → Option (Int32 × IM)) (x4 : Int32) (im : IM) : Option (Int32 × IM) :=
  if a2 < x4 then
    f_X0_fewestDrums_j2 a1 a2 a3 im
  else
    if 1024 ≤ x4 then
      f_X0_fewestDrums_j2 a1 a2 a3 im
    else
      if (x4 &&& (a2 ^^^ ((-1)))) = 0 then
        (f_X0_fewestFor a1 x4 a3 im).bind fun r3 =>
        if inb x4 1024 = true then
          bnd (up im 64 (ix x4) r3) fun m4 =>
          f_X0_fewestDrums_j3 a1 a2 a3 k12 x4 m4
        else none
      else
        f_X0_fewestDrums_j3 a1 a2 a3 k12 x4 im
def f_X0_fewestDrums_l1 (a1 : Nat) (a2 : Int32) (a3 : Int32)   : Nat → Int32 → IM → Option (Int32 × IM)
  | 0, _, _ => none
  | n + 1, x4, im => f_X0_fewestDrums_l1b a1 a2 a3 (f_X0_fewestDrums_l1 a1 a2 a3 n) x4 im
set_option maxRecDepth 20000 in
set_option maxHeartbeats 4000000 in
theorem s_X0_fewestDrums_l1b {g : GX} {a1 : Nat} (h1 : xTo a1) (a2 : Int32) (a3 : Int32)    (k12 : Int32 → IM → Option (Int32 × IM)) (hk12 : ∀ (x4 : Int32) (im : IM), X g md_X0_fewestDrums eI 12 [(0, .ref (g.1 63)), (1, .ref (g.1 a1)), (2, .int a2), (3, .int a3), (4, .int x4)] [] im (k12 x4 im)) (x4 : Int32)  (im : IM) : X g md_X0_fewestDrums eI 12 [(0, .ref (g.1 63)), (1, .ref (g.1 a1)), (2, .int a2), (3, .int a3), (4, .int x4)] [] im (f_X0_fewestDrums_l1b a1 a2 a3 k12 x4 im) := by
  refine x_iload (q := 4) rfl dX0_fewestDrums_12 ?_
  refine x_iload_n (q := 2) rfl rfl dX0_fewestDrums_14 ?_
  refine x_icmp_gt (tgt := 56) dX0_fewestDrums_15 (by decide) ?_ ?_
  · refine x_sub [0, 2] rfl ?_
    exact s_X0_fewestDrums_j2 h1 a2 a3 im
  · refine x_iload (q := 4) rfl dX0_fewestDrums_18 ?_
    refine x_sipush (v := (1024)) (by decide) dX0_fewestDrums_20 ?_
    refine x_icmp_ge (tgt := 56) dX0_fewestDrums_23 (by decide) ?_ ?_
    · refine x_sub [0, 2] rfl ?_
      exact s_X0_fewestDrums_j2 h1 a2 a3 im
    · refine x_iload (q := 4) rfl dX0_fewestDrums_26 ?_
      refine x_iload_n (q := 2) rfl rfl dX0_fewestDrums_28 ?_
      refine x_iconst (v := (-1)) (by decide) dX0_fewestDrums_29 ?_
      refine x_ixor dX0_fewestDrums_30 ?_
      refine x_iand dX0_fewestDrums_31 ?_
      refine x_if_ne (tgt := 50) dX0_fewestDrums_32 (by decide) ?_ ?_
      · refine x_sub [0, 1, 2, 3, 4] rfl ?_
        exact s_X0_fewestDrums_j3 h1 a2 a3 k12 hk12 x4 im
      · refine x_aload_n (q := 0) rfl rfl dX0_fewestDrums_35 ?_
        refine x_get (C := RX0) (T := TX0) sh_63 (by decide) rfl in_X0 0 (by decide) fl_X0_11 xf_0_0 dX0_fewestDrums_36 ?_
        refine x_iload (q := 4) rfl dX0_fewestDrums_39 ?_
        refine x_aload_n (q := 0) rfl rfl dX0_fewestDrums_41 ?_
        refine x_aload_n (q := 1) rfl rfl dX0_fewestDrums_42 ?_
        refine x_iload (q := 4) rfl dX0_fewestDrums_43 ?_
        refine x_iload_n (q := 3) rfl rfl dX0_fewestDrums_45 ?_
        refine x_bind (fun r3 er3 => ?_)
        refine x_callVR (av := [.ref (g.1 a1), .int x4, .int a3]) (st := [.int x4, .ref (g.1 64)]) (m_X0_fewestFor h1 x4 a3 im r3 er3) sh_63 (by decide) rfl rfl (by decide) (by decide) lk_X0_44 cd_X0_fewestFor xd_X0_fewestFor rfl (Nat.le_of_ble_eq_true rfl) dX0_fewestDrums_46 ?_
        refine x_iast sh_64 dX0_fewestDrums_49 ?_
        refine x_bm (fun m4 => ?_)
        refine x_sub [0, 1, 2, 3, 4] rfl ?_
        exact s_X0_fewestDrums_j3 h1 a2 a3 k12 hk12 x4 m4
set_option maxRecDepth 20000 in
set_option maxHeartbeats 4000000 in
theorem s_X0_fewestDrums_l1 {g : GX} {a1 : Nat} (h1 : xTo a1) (a2 : Int32) (a3 : Int32)    (n : Nat) : ∀ (x4 : Int32) (im : IM), X g md_X0_fewestDrums eI 12 [(0, .ref (g.1 63)), (1, .ref (g.1 a1)), (2, .int a2), (3, .int a3), (4, .int x4)] [] im (f_X0_fewestDrums_l1 a1 a2 a3 n x4 im) := by
  induction n with
  | zero => intro x4 im; exact x_none
  | succ n ih => intro x4 im; exact s_X0_fewestDrums_l1b h1 a2 a3 (f_X0_fewestDrums_l1 a1 a2 a3 n) ih x4 im
def f_X0_fewestDrums (a1 : Nat) (a2 : Int32) (a3 : Int32) (im : IM) : Option (Int32 × IM) :=
  bnd (up im 64 0 1000) fun m1 =>
  f_X0_fewestDrums_l1 a1 a2 a3 xF 1 m1
set_option maxRecDepth 20000 in
set_option maxHeartbeats 4000000 in
theorem s_X0_fewestDrums {g : GX} {a1 : Nat} (h1 : xTo a1)    (a2 : Int32) (a3 : Int32) (im : IM) : X g md_X0_fewestDrums eI 0 [(0, .ref (g.1 63)), (1, .ref (g.1 a1)), (2, .int a2), (3, .int a3)] [] im (f_X0_fewestDrums a1 a2 a3 im) := by
  refine x_aload_n (q := 0) rfl rfl dX0_fewestDrums_0 ?_
  refine x_get (C := RX0) (T := TX0) sh_63 (by decide) rfl in_X0 0 (by decide) fl_X0_11 xf_0_0 dX0_fewestDrums_1 ?_
  refine x_iconst (v := (0)) (by decide) dX0_fewestDrums_4 ?_
  refine x_sipush (v := (1000)) (by decide) dX0_fewestDrums_5 ?_
  refine x_iastc sh_64 (by decide) ix_0 dX0_fewestDrums_8 ?_
  refine x_bm (fun m1 => ?_)
  refine x_iconst (v := (1)) (by decide) dX0_fewestDrums_9 ?_
  refine x_istore (lv' := [(4, .int 1), (0, .ref (g.1 63)), (1, .ref (g.1 a1)), (2, .int a2), (3, .int a3)]) dX0_fewestDrums_10 (by decide) rfl ?_
  refine x_sub [1, 2, 3, 4, 0] rfl ?_
  exact s_X0_fewestDrums_l1 h1 a2 a3 xF 1 m1
theorem m_X0_fewestDrums {g : GX} {a1 : Nat} (h1 : xTo a1)    (a2 : Int32) (a3 : Int32) (im : IM) (r : Int32 × IM) (hr : f_X0_fewestDrums a1 a2 a3 im = some r) : xMet g 2 yX0_fewestDrums cX0_fewestDrums 5 (some .int) [.ref (g.1 63), .ref (g.1 a1), .int a2, .int a3] im (eI r) := x_met (by decide) (Nat.le_of_ble_eq_true rfl) rfl (s_X0_fewestDrums h1 a2 a3 im) r hr
abbrev md_X2_runFrom : xM := (3, 4, RX2, cX2_runFrom, none)
def f_X2_runFrom_l2b (a1 : Nat) (a2 : Nat) (a3 : Int32)   (k55 : IM → Option (IM))  (im : IM) : Option (IM) :=
  if 200 ≤ (im 61 1) then
    some im
  else
    if (im 62 6) = 1 then
      (f_X5_rollOn a1 62 ((im a1 7) + (im 61 1)) im).bind fun r5 =>
      bnd (up r5 61 1 ((r5 61 1) + 1)) fun m6 =>
      bnd (up m6 61 2 (jmax (m6 61 2) (m6 62 5))) fun m7 =>
      if (m7 62 6) = 2 then
        k55 m7
      else
        bnd (up m7 61 3 ((m7 61 3) ||| (jshl 1 (m7 62 4)))) fun m8 =>
        k55 m8
    else
      some im
def f_X2_runFrom_l2 (a1 : Nat) (a2 : Nat) (a3 : Int32)   : Nat → IM → Option (IM)
  | 0, _ => none
  | n + 1, im => f_X2_runFrom_l2b a1 a2 a3 (f_X2_runFrom_l2 a1 a2 a3 n) im
set_option maxRecDepth 20000 in
set_option maxHeartbeats 4000000 in
theorem s_X2_runFrom_l2b {g : GX} {a1 : Nat} (h1 : xTo a1) {a2 : Nat} (h2 : xSH a2 = (4, 8)) (a3 : Int32)    (k55 : IM → Option (IM)) (hk55 : ∀ (im : IM), X g md_X2_runFrom eV 55 [(0, .ref (g.1 61)), (1, .ref (g.1 a1))] [] im (k55 im))   (im : IM) : X g md_X2_runFrom eV 55 [(0, .ref (g.1 61)), (1, .ref (g.1 a1))] [] im (f_X2_runFrom_l2b a1 a2 a3 k55 im) := by
  refine x_aload_n (q := 0) rfl rfl dX2_runFrom_55 ?_
  refine x_get (C := RX2) (T := TX2) sh_61 (by decide) rfl in_X2 1 (by decide) fl_X2_18 xf_2_1 dX2_runFrom_56 ?_
  refine x_sipush (v := (200)) (by decide) dX2_runFrom_59 ?_
  refine x_icmp_ge (tgt := 153) dX2_runFrom_62 (by decide) ?_ ?_
  · exact x_vret rfl rfl dX2_runFrom_153
  · refine x_aload_n (q := 0) rfl rfl dX2_runFrom_65 ?_
    refine x_get (C := RX2) (T := TX2) sh_61 (by decide) rfl in_X2 0 (by decide) fl_X2_12 xf_2_0 dX2_runFrom_66 ?_
    refine x_get (C := RX4) (T := TX4) sh_62 (by decide) rfl in_X4 6 (by decide) fl_X2_36 xf_4_6 dX2_runFrom_69 ?_
    refine x_iconst (v := (1)) (by decide) dX2_runFrom_72 ?_
    refine x_icmp_ne (tgt := 153) dX2_runFrom_73 (by decide) ?_ ?_
    · exact x_vret rfl rfl dX2_runFrom_153
    · refine x_aload_n (q := 1) rfl rfl dX2_runFrom_76 ?_
      refine x_aload_n (q := 0) rfl rfl dX2_runFrom_77 ?_
      refine x_get (C := RX2) (T := TX2) sh_61 (by decide) rfl in_X2 0 (by decide) fl_X2_12 xf_2_0 dX2_runFrom_78 ?_
      refine x_aload_n (q := 1) rfl rfl dX2_runFrom_81 ?_
      refine x_get (C := RX5) (T := TX5) (xTo_o h1) (by decide) rfl in_X5 7 (by decide) fl_X2_49 xf_5_7 dX2_runFrom_82 ?_
      refine x_aload_n (q := 0) rfl rfl dX2_runFrom_85 ?_
      refine x_get (C := RX2) (T := TX2) sh_61 (by decide) rfl in_X2 1 (by decide) fl_X2_18 xf_2_1 dX2_runFrom_86 ?_
      refine x_iadd dX2_runFrom_89 ?_
      refine x_bind (fun r5 er5 => ?_)
      refine x_callVV (av := [.ref (g.1 62), .int ((im a1 7) + (im 61 1))]) (st := []) (m_X5_rollOn h1 sh_62 (((im a1 7) + (im 61 1))) im r5 er5) (xTo_o h1) (by decide) rfl rfl (by decide) (by decide) lk_X2_54 cd_X5_rollOn xd_X5_rollOn rfl (Nat.le_of_ble_eq_true rfl) dX2_runFrom_90 ?_
      refine x_aload_n (q := 0) rfl rfl dX2_runFrom_93 ?_
      refine x_dup rfl dX2_runFrom_94 ?_
      refine x_get (C := RX2) (T := TX2) sh_61 (by decide) rfl in_X2 1 (by decide) fl_X2_18 xf_2_1 dX2_runFrom_95 ?_
      refine x_iconst (v := (1)) (by decide) dX2_runFrom_98 ?_
      refine x_iadd dX2_runFrom_99 ?_
      refine x_put (C := RX2) (T := TX2) (ty := .int) tyX2 tyX2_ok nmX2 sh_61 (by decide) rfl in_X2 1 (by decide) (by decide) fl_X2_18 rfl (by decide +kernel) rfl rfl dX2_runFrom_100 ?_
      refine x_bm (fun m6 => ?_)
      refine x_aload_n (q := 0) rfl rfl dX2_runFrom_103 ?_
      refine x_aload_n (q := 0) rfl rfl dX2_runFrom_104 ?_
      refine x_get (C := RX2) (T := TX2) sh_61 (by decide) rfl in_X2 2 (by decide) fl_X2_22 xf_2_2 dX2_runFrom_105 ?_
      refine x_aload_n (q := 0) rfl rfl dX2_runFrom_108 ?_
      refine x_get (C := RX2) (T := TX2) sh_61 (by decide) rfl in_X2 0 (by decide) fl_X2_12 xf_2_0 dX2_runFrom_109 ?_
      refine x_get (C := RX4) (T := TX4) sh_62 (by decide) rfl in_X4 5 (by decide) fl_X2_43 xf_4_5 dX2_runFrom_112 ?_
      refine x_mmax lk_X2_58 (by decide) (Nat.le_of_ble_eq_true rfl) dX2_runFrom_115 ?_
      refine x_put (C := RX2) (T := TX2) (ty := .int) tyX2 tyX2_ok nmX2 sh_61 (by decide) rfl in_X2 2 (by decide) (by decide) fl_X2_22 rfl (by decide +kernel) rfl rfl dX2_runFrom_118 ?_
      refine x_bm (fun m7 => ?_)
      refine x_aload_n (q := 0) rfl rfl dX2_runFrom_121 ?_
      refine x_get (C := RX2) (T := TX2) sh_61 (by decide) rfl in_X2 0 (by decide) fl_X2_12 xf_2_0 dX2_runFrom_122 ?_
      refine x_get (C := RX4) (T := TX4) sh_62 (by decide) rfl in_X4 6 (by decide) fl_X2_36 xf_4_6 dX2_runFrom_125 ?_
      refine x_iconst (v := (2)) (by decide) dX2_runFrom_128 ?_
      refine x_icmp_eq (tgt := 55) dX2_runFrom_129 (by decide) ?_ ?_
      · refine x_sub [0, 1] rfl ?_
        exact hk55 m7
      · refine x_aload_n (q := 0) rfl rfl dX2_runFrom_132 ?_
        refine x_dup rfl dX2_runFrom_133 ?_
        refine x_get (C := RX2) (T := TX2) sh_61 (by decide) rfl in_X2 3 (by decide) fl_X2_25 xf_2_3 dX2_runFrom_134 ?_
        refine x_iconst (v := (1)) (by decide) dX2_runFrom_137 ?_
        refine x_aload_n (q := 0) rfl rfl dX2_runFrom_138 ?_
        refine x_get (C := RX2) (T := TX2) sh_61 (by decide) rfl in_X2 0 (by decide) fl_X2_12 xf_2_0 dX2_runFrom_139 ?_
        refine x_get (C := RX4) (T := TX4) sh_62 (by decide) rfl in_X4 4 (by decide) fl_X2_46 xf_4_4 dX2_runFrom_142 ?_
        refine x_ishl dX2_runFrom_145 ?_
        refine x_ior dX2_runFrom_146 ?_
        refine x_put (C := RX2) (T := TX2) (ty := .int) tyX2 tyX2_ok nmX2 sh_61 (by decide) rfl in_X2 3 (by decide) (by decide) fl_X2_25 rfl (by decide +kernel) rfl rfl dX2_runFrom_147 ?_
        refine x_bm (fun m8 => ?_)
        refine x_goto (tgt := 55) dX2_runFrom_150 (by decide) ?_
        refine x_sub [0, 1] rfl ?_
        exact hk55 m8
set_option maxRecDepth 20000 in
set_option maxHeartbeats 4000000 in
theorem s_X2_runFrom_l2 {g : GX} {a1 : Nat} (h1 : xTo a1) {a2 : Nat} (h2 : xSH a2 = (4, 8)) (a3 : Int32)    (n : Nat) : ∀ (im : IM), X g md_X2_runFrom eV 55 [(0, .ref (g.1 61)), (1, .ref (g.1 a1))] [] im (f_X2_runFrom_l2 a1 a2 a3 n im) := by
  induction n with
  | zero => intro im; exact x_none
  | succ n ih => intro im; exact s_X2_runFrom_l2b h1 h2 a3 (f_X2_runFrom_l2 a1 a2 a3 n) ih im
def f_X2_runFrom_j1 (a1 : Nat) (a2 : Nat) (a3 : Int32)   (im : IM) : Option (IM) :=
  bnd (up im 61 2 (im 62 5)) fun m2 =>
  bnd (up m2 61 3 (jshl 1 (m2 62 4))) fun m3 =>
  bnd (up m3 61 1 0) fun m4 =>
  f_X2_runFrom_l2 a1 a2 a3 xF m4
set_option maxRecDepth 20000 in
set_option maxHeartbeats 4000000 in
theorem s_X2_runFrom_j1 {g : GX} {a1 : Nat} (h1 : xTo a1) {a2 : Nat} (h2 : xSH a2 = (4, 8)) (a3 : Int32)      (im : IM) : X g md_X2_runFrom eV 26 [(0, .ref (g.1 61)), (1, .ref (g.1 a1))] [] im (f_X2_runFrom_j1 a1 a2 a3 im) := by
  refine x_aload_n (q := 0) rfl rfl dX2_runFrom_26 ?_
  refine x_aload_n (q := 0) rfl rfl dX2_runFrom_27 ?_
  refine x_get (C := RX2) (T := TX2) sh_61 (by decide) rfl in_X2 0 (by decide) fl_X2_12 xf_2_0 dX2_runFrom_28 ?_
  refine x_get (C := RX4) (T := TX4) sh_62 (by decide) rfl in_X4 5 (by decide) fl_X2_43 xf_4_5 dX2_runFrom_31 ?_
  refine x_put (C := RX2) (T := TX2) (ty := .int) tyX2 tyX2_ok nmX2 sh_61 (by decide) rfl in_X2 2 (by decide) (by decide) fl_X2_22 rfl (by decide +kernel) rfl rfl dX2_runFrom_34 ?_
  refine x_bm (fun m2 => ?_)
  refine x_aload_n (q := 0) rfl rfl dX2_runFrom_37 ?_
  refine x_iconst (v := (1)) (by decide) dX2_runFrom_38 ?_
  refine x_aload_n (q := 0) rfl rfl dX2_runFrom_39 ?_
  refine x_get (C := RX2) (T := TX2) sh_61 (by decide) rfl in_X2 0 (by decide) fl_X2_12 xf_2_0 dX2_runFrom_40 ?_
  refine x_get (C := RX4) (T := TX4) sh_62 (by decide) rfl in_X4 4 (by decide) fl_X2_46 xf_4_4 dX2_runFrom_43 ?_
  refine x_ishl dX2_runFrom_46 ?_
  refine x_put (C := RX2) (T := TX2) (ty := .int) tyX2 tyX2_ok nmX2 sh_61 (by decide) rfl in_X2 3 (by decide) (by decide) fl_X2_25 rfl (by decide +kernel) rfl rfl dX2_runFrom_47 ?_
  refine x_bm (fun m3 => ?_)
  refine x_aload_n (q := 0) rfl rfl dX2_runFrom_50 ?_
  refine x_iconst (v := (0)) (by decide) dX2_runFrom_51 ?_
  refine x_put (C := RX2) (T := TX2) (ty := .int) tyX2 tyX2_ok nmX2 sh_61 (by decide) rfl in_X2 1 (by decide) (by decide) fl_X2_18 rfl (by decide +kernel) rfl rfl dX2_runFrom_52 ?_
  refine x_bm (fun m4 => ?_)
  refine x_sub [0, 1] rfl ?_
  exact s_X2_runFrom_l2 h1 h2 a3 xF m4
def f_X2_runFrom (a1 : Nat) (a2 : Nat) (a3 : Int32) (im : IM) : Option (IM) :=
  bnd (f_X4_become 62 a2 im) fun m1 =>
  if (m1 62 6) = 0 then
    bnd (f_X4_letGo 62 a3 m1) fun m9 =>
    f_X2_runFrom_j1 a1 a2 a3 m9
  else
    f_X2_runFrom_j1 a1 a2 a3 m1
set_option maxRecDepth 20000 in
set_option maxHeartbeats 4000000 in
theorem s_X2_runFrom {g : GX} {a1 : Nat} (h1 : xTo a1) {a2 : Nat} (h2 : xSH a2 = (4, 8))    (a3 : Int32) (im : IM) : X g md_X2_runFrom eV 0 [(0, .ref (g.1 61)), (1, .ref (g.1 a1)), (2, .ref (g.1 a2)), (3, .int a3)] [] im (f_X2_runFrom a1 a2 a3 im) := by
  refine x_aload_n (q := 0) rfl rfl dX2_runFrom_0 ?_
  refine x_get (C := RX2) (T := TX2) sh_61 (by decide) rfl in_X2 0 (by decide) fl_X2_12 xf_2_0 dX2_runFrom_1 ?_
  refine x_aload_n (q := 2) rfl rfl dX2_runFrom_4 ?_
  refine x_callVV (av := [.ref (g.1 a2)]) (st := []) (m_X4_become sh_62 h2  im) sh_62 (by decide) rfl rfl (by decide) (by decide) lk_X2_32 cd_X4_become xd_X4_become rfl (Nat.le_of_ble_eq_true rfl) dX2_runFrom_5 ?_
  refine x_bm (fun m1 => ?_)
  refine x_aload_n (q := 0) rfl rfl dX2_runFrom_8 ?_
  refine x_get (C := RX2) (T := TX2) sh_61 (by decide) rfl in_X2 0 (by decide) fl_X2_12 xf_2_0 dX2_runFrom_9 ?_
  refine x_get (C := RX4) (T := TX4) sh_62 (by decide) rfl in_X4 6 (by decide) fl_X2_36 xf_4_6 dX2_runFrom_12 ?_
  refine x_if_ne (tgt := 26) dX2_runFrom_15 (by decide) ?_ ?_
  · refine x_sub [0, 1] rfl ?_
    exact s_X2_runFrom_j1 h1 h2 a3 m1
  · refine x_aload_n (q := 0) rfl rfl dX2_runFrom_18 ?_
    refine x_get (C := RX2) (T := TX2) sh_61 (by decide) rfl in_X2 0 (by decide) fl_X2_12 xf_2_0 dX2_runFrom_19 ?_
    refine x_iload_n (q := 3) rfl rfl dX2_runFrom_22 ?_
    refine x_callVV (av := [.int a3]) (st := []) (m_X4_letGo sh_62 a3 m1) sh_62 (by decide) rfl rfl (by decide) (by decide) lk_X2_39 cd_X4_letGo xd_X4_letGo rfl (Nat.le_of_ble_eq_true rfl) dX2_runFrom_23 ?_
    refine x_bm (fun m9 => ?_)
    refine x_sub [0, 1] rfl ?_
    exact s_X2_runFrom_j1 h1 h2 a3 m9
theorem m_X2_runFrom {g : GX} {a1 : Nat} (h1 : xTo a1) {a2 : Nat} (h2 : xSH a2 = (4, 8))    (a3 : Int32) (im : IM) (r : IM) (hr : f_X2_runFrom a1 a2 a3 im = some r) : xMet g 3 yX2_runFrom cX2_runFrom 4 none [.ref (g.1 61), .ref (g.1 a1), .ref (g.1 a2), .int a3] im (eV r) := x_met (by decide) (Nat.le_of_ble_eq_true rfl) rfl (s_X2_runFrom h1 h2 a3 im) r hr
abbrev md_X2_run : xM := (4, 3, RX2, cX2_run, none)
def f_X2_run (a1 : Nat) (a2 : Nat) (im : IM) : Option (IM) :=
  (f_X2_runFrom a1 a2 10 im).bind fun r1 =>
  some r1
set_option maxRecDepth 20000 in
set_option maxHeartbeats 4000000 in
theorem s_X2_run {g : GX} {a1 : Nat} (h1 : xTo a1) {a2 : Nat} (h2 : xSH a2 = (4, 8))   (im : IM) : X g md_X2_run eV 0 [(0, .ref (g.1 61)), (1, .ref (g.1 a1)), (2, .ref (g.1 a2))] [] im (f_X2_run a1 a2 im) := by
  refine x_aload_n (q := 0) rfl rfl dX2_run_0 ?_
  refine x_aload_n (q := 1) rfl rfl dX2_run_1 ?_
  refine x_aload_n (q := 2) rfl rfl dX2_run_2 ?_
  refine x_bipush (v := (10)) (by decide) dX2_run_3 ?_
  refine x_bind (fun r1 er1 => ?_)
  refine x_callVV (av := [.ref (g.1 a1), .ref (g.1 a2), .int 10]) (st := []) (m_X2_runFrom h1 h2 10 im r1 er1) sh_61 (by decide) rfl rfl (by decide) (by decide) lk_X2_28 cd_X2_runFrom xd_X2_runFrom rfl (Nat.le_of_ble_eq_true rfl) dX2_run_5 ?_
  exact x_vret rfl rfl dX2_run_8
theorem m_X2_run {g : GX} {a1 : Nat} (h1 : xTo a1) {a2 : Nat} (h2 : xSH a2 = (4, 8))   (im : IM) (r : IM) (hr : f_X2_run a1 a2 im = some r) : xMet g 4 yX2_run cX2_run 3 none [.ref (g.1 61), .ref (g.1 a1), .ref (g.1 a2)] im (eV r) := x_met (by decide) (Nat.le_of_ble_eq_true rfl) rfl (s_X2_run h1 h2 im) r hr
abbrev md_X2_goesStill : xM := (0, 1, RX2, cX2_goesStill, (some .boolean))
def f_X2_goesStill  (im : IM) : Int32 :=
  if (im 62 6) = 1 then
    1
  else
    0
set_option maxRecDepth 20000 in
set_option maxHeartbeats 4000000 in
theorem s_X2_goesStill {g : GX}   (im : IM) : X g md_X2_goesStill (eR im) 0 [(0, .ref (g.1 61))] [] im (some (f_X2_goesStill im)) := by
  refine x_aload_n (q := 0) rfl rfl dX2_goesStill_0 ?_
  refine x_get (C := RX2) (T := TX2) sh_61 (by decide) rfl in_X2 0 (by decide) fl_X2_12 xf_2_0 dX2_goesStill_1 ?_
  refine x_get (C := RX4) (T := TX4) sh_62 (by decide) rfl in_X4 6 (by decide) fl_X2_36 xf_4_6 dX2_goesStill_4 ?_
  refine x_iconst (v := (1)) (by decide) dX2_goesStill_7 ?_
  refine x_cs ?_
  refine x_icmp_ne (tgt := 15) dX2_goesStill_8 (by decide) ?_ ?_
  · refine x_iconst (v := (0)) (by decide) dX2_goesStill_15 ?_
    exact x_nret (y := 0) rfl rfl (by decide) dX2_goesStill_16
  · refine x_iconst (v := (1)) (by decide) dX2_goesStill_11 ?_
    refine x_goto (tgt := 16) dX2_goesStill_12 (by decide) ?_
    exact x_nret (y := 1) rfl rfl (by decide) dX2_goesStill_16
theorem m_X2_goesStill {g : GX}   (im : IM) : xMet g 0 yX2_goesStill cX2_goesStill 1 (some .boolean) [.ref (g.1 61)] im ((eR im) (f_X2_goesStill im)) := x_met (by decide) (Nat.le_of_ble_eq_true rfl) rfl (s_X2_goesStill im) _ rfl
abbrev md_X2_endsOn : xM := (0, 2, RX2, cX2_endsOn, (some .boolean))
def f_X2_endsOn_j1 (a1 : Int32)   (im : IM) : Int32 :=
  0
set_option maxRecDepth 20000 in
set_option maxHeartbeats 4000000 in
theorem s_X2_endsOn_j1 {g : GX} (a1 : Int32)   (im : IM)    : X g md_X2_endsOn (eR im) 25 [] [] im (some (f_X2_endsOn_j1 a1 im)) := by
  refine x_iconst (v := (0)) (by decide) dX2_endsOn_25 ?_
  exact x_nret (y := 0) rfl rfl (by decide) dX2_endsOn_26
def f_X2_endsOn (a1 : Int32) (im : IM) : Int32 :=
  if (im 62 6) = 0 then
    if (im 62 4) = a1 then
      1
    else
      f_X2_endsOn_j1 a1 im
  else
    f_X2_endsOn_j1 a1 im
set_option maxRecDepth 20000 in
set_option maxHeartbeats 4000000 in
theorem s_X2_endsOn {g : GX}  (a1 : Int32) (im : IM) : X g md_X2_endsOn (eR im) 0 [(0, .ref (g.1 61)), (1, .int a1)] [] im (some (f_X2_endsOn a1 im)) := by
  refine x_aload_n (q := 0) rfl rfl dX2_endsOn_0 ?_
  refine x_get (C := RX2) (T := TX2) sh_61 (by decide) rfl in_X2 0 (by decide) fl_X2_12 xf_2_0 dX2_endsOn_1 ?_
  refine x_get (C := RX4) (T := TX4) sh_62 (by decide) rfl in_X4 6 (by decide) fl_X2_36 xf_4_6 dX2_endsOn_4 ?_
  refine x_cs ?_
  refine x_if_ne (tgt := 25) dX2_endsOn_7 (by decide) ?_ ?_
  · refine x_sub [] rfl ?_
    exact s_X2_endsOn_j1 a1 im
  · refine x_aload_n (q := 0) rfl rfl dX2_endsOn_10 ?_
    refine x_get (C := RX2) (T := TX2) sh_61 (by decide) rfl in_X2 0 (by decide) fl_X2_12 xf_2_0 dX2_endsOn_11 ?_
    refine x_get (C := RX4) (T := TX4) sh_62 (by decide) rfl in_X4 4 (by decide) fl_X2_46 xf_4_4 dX2_endsOn_14 ?_
    refine x_iload_n (q := 1) rfl rfl dX2_endsOn_17 ?_
    refine x_cs ?_
    refine x_icmp_ne (tgt := 25) dX2_endsOn_18 (by decide) ?_ ?_
    · refine x_sub [] rfl ?_
      exact s_X2_endsOn_j1 a1 im
    · refine x_iconst (v := (1)) (by decide) dX2_endsOn_21 ?_
      refine x_goto (tgt := 26) dX2_endsOn_22 (by decide) ?_
      exact x_nret (y := 1) rfl rfl (by decide) dX2_endsOn_26
theorem m_X2_endsOn {g : GX}  (a1 : Int32) (im : IM) : xMet g 0 yX2_endsOn cX2_endsOn 2 (some .boolean) [.ref (g.1 61), .int a1] im ((eR im) (f_X2_endsOn a1 im)) := x_met (by decide) (Nat.le_of_ble_eq_true rfl) rfl (s_X2_endsOn a1 im) _ rfl
abbrev md_X2_place : xM := (0, 1, RX2, cX2_place, (some .int))
def f_X2_place  (im : IM) : Int32 :=
  if (im 62 6) = 2 then
    ((-1))
  else
    (im 62 4)
set_option maxRecDepth 20000 in
set_option maxHeartbeats 4000000 in
theorem s_X2_place {g : GX}   (im : IM) : X g md_X2_place (eR im) 0 [(0, .ref (g.1 61))] [] im (some (f_X2_place im)) := by
  refine x_aload_n (q := 0) rfl rfl dX2_place_0 ?_
  refine x_get (C := RX2) (T := TX2) sh_61 (by decide) rfl in_X2 0 (by decide) fl_X2_12 xf_2_0 dX2_place_1 ?_
  refine x_get (C := RX4) (T := TX4) sh_62 (by decide) rfl in_X4 6 (by decide) fl_X2_36 xf_4_6 dX2_place_4 ?_
  refine x_iconst (v := (2)) (by decide) dX2_place_7 ?_
  refine x_cs ?_
  refine x_icmp_ne (tgt := 15) dX2_place_8 (by decide) ?_ ?_
  · refine x_aload_n (q := 0) rfl rfl dX2_place_15 ?_
    refine x_get (C := RX2) (T := TX2) sh_61 (by decide) rfl in_X2 0 (by decide) fl_X2_12 xf_2_0 dX2_place_16 ?_
    refine x_get (C := RX4) (T := TX4) sh_62 (by decide) rfl in_X4 4 (by decide) fl_X2_46 xf_4_4 dX2_place_19 ?_
    exact x_iret rfl rfl dX2_place_22
  · refine x_iconst (v := (-1)) (by decide) dX2_place_11 ?_
    refine x_goto (tgt := 22) dX2_place_12 (by decide) ?_
    exact x_iret rfl rfl dX2_place_22
theorem m_X2_place {g : GX}   (im : IM) : xMet g 0 yX2_place cX2_place 1 (some .int) [.ref (g.1 61)] im ((eR im) (f_X2_place im)) := x_met (by decide) (Nat.le_of_ble_eq_true rfl) rfl (s_X2_place im) _ rfl
