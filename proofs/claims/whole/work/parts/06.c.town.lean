abbrev md_X5_isFull : xM := (0, 1, RX5, cX5_isFull, (some .boolean))
def f_X5_isFull (a0 : Nat) (im : IM) : Int32 :=
  if (im a0 4) < 10 then
    0
  else
    1
set_option maxRecDepth 20000 in
set_option maxHeartbeats 4000000 in
theorem s_X5_isFull {g : GX} {a0 : Nat} (h0 : xTo a0)  (im : IM) : X g md_X5_isFull (eR im) 0 [(0, .ref (g.1 a0))] [] im (some (f_X5_isFull a0 im)) := by
  refine x_aload_n (q := 0) rfl rfl dX5_isFull_0 ?_
  refine x_get (C := RX5) (T := TX5) (xTo_o h0) (by decide) rfl in_X5 4 (by decide) fl_X5_27 xf_5_4 dX5_isFull_1 ?_
  refine x_bipush (v := (10)) (by decide) dX5_isFull_4 ?_
  refine x_cs ?_
  refine x_icmp_lt (tgt := 13) dX5_isFull_6 (by decide) ?_ ?_
  · refine x_iconst (v := (0)) (by decide) dX5_isFull_13 ?_
    exact x_nret (y := 0) rfl rfl (by decide) dX5_isFull_14
  · refine x_iconst (v := (1)) (by decide) dX5_isFull_9 ?_
    refine x_goto (tgt := 14) dX5_isFull_10 (by decide) ?_
    exact x_nret (y := 1) rfl rfl (by decide) dX5_isFull_14
theorem m_X5_isFull {g : GX} {a0 : Nat} (h0 : xTo a0)  (im : IM) : xMet g 0 yX5_isFull cX5_isFull 1 (some .boolean) [.ref (g.1 a0)] im ((eR im) (f_X5_isFull a0 im)) := x_met (by decide) (Nat.le_of_ble_eq_true rfl) rfl (s_X5_isFull h0 im) _ rfl
abbrev md_X5_addThing : xM := (1, 3, RX5, cX5_addThing, none)
def f_X5_addThing (a0 : Nat) (a1 : Int32) (a2 : Int32) (im : IM) : Option (IM) :=
  if (f_X5_isFull a0 im) = 0 then
    bnd (im a0 4) fun v2 =>
    if inb v2 10 = true then
      bnd (f_X4_beginAs (a0 + 5 + ix v2) a1 a2 im) fun m3 =>
      bnd (up m3 a0 4 ((m3 a0 4) + 1)) fun m4 =>
      some m4
    else none
  else
    some im
set_option maxRecDepth 20000 in
set_option maxHeartbeats 4000000 in
theorem s_X5_addThing {g : GX} {a0 : Nat} (h0 : xTo a0)    (a1 : Int32) (a2 : Int32) (im : IM) : X g md_X5_addThing eV 0 [(0, .ref (g.1 a0)), (1, .int a1), (2, .int a2)] [] im (f_X5_addThing a0 a1 a2 im) := by
  refine x_aload_n (q := 0) rfl rfl dX5_addThing_0 ?_
  refine x_callVR (av := []) (st := []) (m_X5_isFull h0  im) (xTo_o h0) (by decide) rfl rfl (by decide) (by decide) lk_X5_54 cd_X5_isFull xd_X5_isFull rfl (Nat.le_of_ble_eq_true rfl) dX5_addThing_1 ?_
  refine x_if_ne (tgt := 31) dX5_addThing_4 (by decide) ?_ ?_
  · exact x_vret rfl rfl dX5_addThing_31
  · refine x_aload_n (q := 0) rfl rfl dX5_addThing_7 ?_
    refine x_get (C := RX5) (T := TX5) (xTo_o h0) (by decide) rfl in_X5 2 (by decide) fl_X5_20 xf_5_2 dX5_addThing_8 ?_
    refine x_aload_n (q := 0) rfl rfl dX5_addThing_11 ?_
    refine x_get (C := RX5) (T := TX5) (xTo_o h0) (by decide) rfl in_X5 4 (by decide) fl_X5_27 xf_5_4 dX5_addThing_12 ?_
    refine x_bi (fun v2 => ?_)
    refine x_aldT (xTo_3 h0) dX5_addThing_15 (fun hi1 => ?_)
    refine x_iload_n (q := 1) rfl rfl dX5_addThing_16 ?_
    refine x_iload_n (q := 2) rfl rfl dX5_addThing_17 ?_
    refine x_callVV (av := [.int a1, .int a2]) (st := []) (m_X4_beginAs (xTh h0 hi1) a1 a2 im) (xTh h0 hi1) (by decide) rfl rfl (by decide) (by decide) lk_X5_58 cd_X4_beginAs xd_X4_beginAs rfl (Nat.le_of_ble_eq_true rfl) dX5_addThing_18 ?_
    refine x_bm (fun m3 => ?_)
    refine x_aload_n (q := 0) rfl rfl dX5_addThing_21 ?_
    refine x_dup rfl dX5_addThing_22 ?_
    refine x_get (C := RX5) (T := TX5) (xTo_o h0) (by decide) rfl in_X5 4 (by decide) fl_X5_27 xf_5_4 dX5_addThing_23 ?_
    refine x_iconst (v := (1)) (by decide) dX5_addThing_26 ?_
    refine x_iadd dX5_addThing_27 ?_
    refine x_put (C := RX5) (T := TX5) (ty := .int) tyX5 tyX5_ok nmX5 (xTo_o h0) (by decide) rfl in_X5 4 (by decide) (by decide) fl_X5_27 rfl (by decide +kernel) rfl rfl dX5_addThing_28 ?_
    refine x_bm (fun m4 => ?_)
    exact x_vret rfl rfl dX5_addThing_31
theorem m_X5_addThing {g : GX} {a0 : Nat} (h0 : xTo a0)    (a1 : Int32) (a2 : Int32) (im : IM) (r : IM) (hr : f_X5_addThing a0 a1 a2 im = some r) : xMet g 1 yX5_addThing cX5_addThing 3 none [.ref (g.1 a0), .int a1, .int a2] im (eV r) := x_met (by decide) (Nat.le_of_ble_eq_true rfl) rfl (s_X5_addThing h0 a1 a2 im) r hr
abbrev md_X5_gatesAreShut : xM := (0, 3, RX5, cX5_gatesAreShut, (some .boolean))
def f_X5_gatesAreShut_j1 (a0 : Nat) (a1 : Int32)   (im : IM) : Int32 :=
  1
set_option maxRecDepth 20000 in
set_option maxHeartbeats 4000000 in
theorem s_X5_gatesAreShut_j1 {g : GX} {a0 : Nat} (h0 : xTo a0) (a1 : Int32)   (im : IM)    : X g md_X5_gatesAreShut (eR im) 54 [] [] im (some (f_X5_gatesAreShut_j1 a0 a1 im)) := by
  refine x_iconst (v := (1)) (by decide) dX5_gatesAreShut_54 ?_
  refine x_goto (tgt := 59) dX5_gatesAreShut_55 (by decide) ?_
  exact x_nret (y := 1) rfl rfl (by decide) dX5_gatesAreShut_59
def f_X5_gatesAreShut_j2 (a0 : Nat) (a1 : Int32)   (im : IM) : Int32 :=
  0
set_option maxRecDepth 20000 in
set_option maxHeartbeats 4000000 in
theorem s_X5_gatesAreShut_j2 {g : GX} {a0 : Nat} (h0 : xTo a0) (a1 : Int32)   (im : IM)    : X g md_X5_gatesAreShut (eR im) 36 [] [] im (some (f_X5_gatesAreShut_j2 a0 a1 im)) := by
  refine x_iconst (v := (0)) (by decide) dX5_gatesAreShut_36 ?_
  exact x_nret (y := 0) rfl rfl (by decide) dX5_gatesAreShut_37
def f_X5_gatesAreShut (a0 : Nat) (a1 : Int32) (im : IM) : Int32 :=
  bnd (jrem a1 60) fun v1 =>
  if (im a0 6) < (im a0 5) then
    if (im a0 5) ≤ v1 then
      f_X5_gatesAreShut_j1 a0 a1 im
    else
      if (im a0 6) < v1 then
        0
      else
        f_X5_gatesAreShut_j1 a0 a1 im
  else
    if v1 < (im a0 5) then
      f_X5_gatesAreShut_j2 a0 a1 im
    else
      if (im a0 6) < v1 then
        f_X5_gatesAreShut_j2 a0 a1 im
      else
        1
set_option maxRecDepth 20000 in
set_option maxHeartbeats 4000000 in
theorem s_X5_gatesAreShut {g : GX} {a0 : Nat} (h0 : xTo a0)   (a1 : Int32) (im : IM) : X g md_X5_gatesAreShut (eR im) 0 [(0, .ref (g.1 a0)), (1, .int a1)] [] im (some (f_X5_gatesAreShut a0 a1 im)) := by
  refine x_iload_n (q := 1) rfl rfl dX5_gatesAreShut_0 ?_
  refine x_bipush (v := (60)) (by decide) dX5_gatesAreShut_1 ?_
  refine x_irem (by decide) dX5_gatesAreShut_3 ?_
  refine x_bs (x_bi (fun v1 => ?_))
  refine x_istore_n (lv' := [(2, .int v1), (0, .ref (g.1 a0)), (1, .int a1)]) rfl dX5_gatesAreShut_4 (by decide) rfl ?_
  refine x_aload_n (q := 1) rfl rfl dX5_gatesAreShut_5 ?_
  refine x_get (C := RX5) (T := TX5) (xTo_o h0) (by decide) rfl in_X5 5 (by decide) fl_X5_31 xf_5_5 dX5_gatesAreShut_6 ?_
  refine x_aload_n (q := 1) rfl rfl dX5_gatesAreShut_9 ?_
  refine x_get (C := RX5) (T := TX5) (xTo_o h0) (by decide) rfl in_X5 6 (by decide) fl_X5_34 xf_5_6 dX5_gatesAreShut_10 ?_
  refine x_cs ?_
  refine x_icmp_gt (tgt := 38) dX5_gatesAreShut_13 (by decide) ?_ ?_
  · refine x_iload_n (q := 0) rfl rfl dX5_gatesAreShut_38 ?_
    refine x_aload_n (q := 1) rfl rfl dX5_gatesAreShut_39 ?_
    refine x_get (C := RX5) (T := TX5) (xTo_o h0) (by decide) rfl in_X5 5 (by decide) fl_X5_31 xf_5_5 dX5_gatesAreShut_40 ?_
    refine x_cs ?_
    refine x_icmp_ge (tgt := 54) dX5_gatesAreShut_43 (by decide) ?_ ?_
    · refine x_sub [] rfl ?_
      exact s_X5_gatesAreShut_j1 h0 a1 im
    · refine x_iload_n (q := 0) rfl rfl dX5_gatesAreShut_46 ?_
      refine x_aload_n (q := 1) rfl rfl dX5_gatesAreShut_47 ?_
      refine x_get (C := RX5) (T := TX5) (xTo_o h0) (by decide) rfl in_X5 6 (by decide) fl_X5_34 xf_5_6 dX5_gatesAreShut_48 ?_
      refine x_cs ?_
      refine x_icmp_gt (tgt := 58) dX5_gatesAreShut_51 (by decide) ?_ ?_
      · refine x_iconst (v := (0)) (by decide) dX5_gatesAreShut_58 ?_
        exact x_nret (y := 0) rfl rfl (by decide) dX5_gatesAreShut_59
      · refine x_sub [] rfl ?_
        exact s_X5_gatesAreShut_j1 h0 a1 im
  · refine x_iload_n (q := 0) rfl rfl dX5_gatesAreShut_16 ?_
    refine x_aload_n (q := 1) rfl rfl dX5_gatesAreShut_17 ?_
    refine x_get (C := RX5) (T := TX5) (xTo_o h0) (by decide) rfl in_X5 5 (by decide) fl_X5_31 xf_5_5 dX5_gatesAreShut_18 ?_
    refine x_cs ?_
    refine x_icmp_lt (tgt := 36) dX5_gatesAreShut_21 (by decide) ?_ ?_
    · refine x_sub [] rfl ?_
      exact s_X5_gatesAreShut_j2 h0 a1 im
    · refine x_iload_n (q := 0) rfl rfl dX5_gatesAreShut_24 ?_
      refine x_aload_n (q := 1) rfl rfl dX5_gatesAreShut_25 ?_
      refine x_get (C := RX5) (T := TX5) (xTo_o h0) (by decide) rfl in_X5 6 (by decide) fl_X5_34 xf_5_6 dX5_gatesAreShut_26 ?_
      refine x_cs ?_
      refine x_icmp_gt (tgt := 36) dX5_gatesAreShut_29 (by decide) ?_ ?_
      · refine x_sub [] rfl ?_
        exact s_X5_gatesAreShut_j2 h0 a1 im
      · refine x_iconst (v := (1)) (by decide) dX5_gatesAreShut_32 ?_
        refine x_goto (tgt := 37) dX5_gatesAreShut_33 (by decide) ?_
        exact x_nret (y := 1) rfl rfl (by decide) dX5_gatesAreShut_37
theorem m_X5_gatesAreShut {g : GX} {a0 : Nat} (h0 : xTo a0)   (a1 : Int32) (im : IM) : xMet g 0 yX5_gatesAreShut cX5_gatesAreShut 3 (some .boolean) [.ref (g.1 a0), .int a1] im ((eR im) (f_X5_gatesAreShut a0 a1 im)) := x_met (by decide) (Nat.le_of_ble_eq_true rfl) rfl (s_X5_gatesAreShut h0 a1 im) _ rfl
abbrev md_X5_stepOn : xM := (1, 3, RX5, cX5_stepOn, none)
def f_X5_stepOn_j1 (a0 : Nat) (a1 : Nat) (a2 : Int32)   (im : IM) : Option (IM) :=
  bnd (up im a1 5 0) fun m1 =>
  some m1
set_option maxRecDepth 20000 in
set_option maxHeartbeats 4000000 in
theorem s_X5_stepOn_j1 {g : GX} {a0 : Nat} (h0 : xTo a0) {a1 : Nat} (h1 : xSH a1 = (4, 8)) (a2 : Int32)      (im : IM) : X g md_X5_stepOn eV 28 [(1, .ref (g.1 a1))] [] im (f_X5_stepOn_j1 a0 a1 a2 im) := by
  refine x_aload_n (q := 0) rfl rfl dX5_stepOn_28 ?_
  refine x_iconst (v := (0)) (by decide) dX5_stepOn_29 ?_
  refine x_put (C := RX4) (T := TX4) (ty := .int) tyX4 tyX4_ok nmX4 h1 (by decide) rfl in_X4 5 (by decide) (by decide) fl_X5_84 rfl (by decide +kernel) rfl rfl dX5_stepOn_30 ?_
  refine x_bm (fun m1 => ?_)
  exact x_vret rfl rfl dX5_stepOn_33
def f_X5_stepOn_j2 (a0 : Nat) (a1 : Nat) (a2 : Int32)   (im : IM) : Option (IM) :=
  bnd (up im a1 4 ((im a1 4) + 1)) fun m2 =>
  if (m2 a1 4) = 30 then
    bnd (f_X4_stop a1 m2) fun m4 =>
    some m4
  else
    if inb (m2 a1 4) 31 = true then
      if (m2 (a0 + 2) (ix (m2 a1 4))) = 3 then
        if (m2 a1 5) ≤ (f_X4_bendLimit a1 m2) then
          some m2
        else
          bnd (up m2 a1 6 2) fun m3 =>
          some m3
      else
        some m2
    else none
set_option maxRecDepth 20000 in
set_option maxHeartbeats 4000000 in
theorem s_X5_stepOn_j2 {g : GX} {a0 : Nat} (h0 : xTo a0) {a1 : Nat} (h1 : xSH a1 = (4, 8)) (a2 : Int32)      (im : IM) : X g md_X5_stepOn eV 34 [(0, .ref (g.1 a0)), (1, .ref (g.1 a1))] [] im (f_X5_stepOn_j2 a0 a1 a2 im) := by
  refine x_aload_n (q := 1) rfl rfl dX5_stepOn_34 ?_
  refine x_dup rfl dX5_stepOn_35 ?_
  refine x_get (C := RX4) (T := TX4) h1 (by decide) rfl in_X4 4 (by decide) fl_X5_87 xf_4_4 dX5_stepOn_36 ?_
  refine x_iconst (v := (1)) (by decide) dX5_stepOn_39 ?_
  refine x_iadd dX5_stepOn_40 ?_
  refine x_put (C := RX4) (T := TX4) (ty := .int) tyX4 tyX4_ok nmX4 h1 (by decide) rfl in_X4 4 (by decide) (by decide) fl_X5_87 rfl (by decide +kernel) rfl rfl dX5_stepOn_41 ?_
  refine x_bm (fun m2 => ?_)
  refine x_aload_n (q := 1) rfl rfl dX5_stepOn_44 ?_
  refine x_get (C := RX4) (T := TX4) h1 (by decide) rfl in_X4 4 (by decide) fl_X5_87 xf_4_4 dX5_stepOn_45 ?_
  refine x_bipush (v := (30)) (by decide) dX5_stepOn_48 ?_
  refine x_icmp_ne (tgt := 60) dX5_stepOn_50 (by decide) ?_ ?_
  · refine x_aload_n (q := 0) rfl rfl dX5_stepOn_60 ?_
    refine x_get (C := RX5) (T := TX5) (xTo_o h0) (by decide) rfl in_X5 1 (by decide) fl_X5_15 xf_5_1 dX5_stepOn_61 ?_
    refine x_aload_n (q := 1) rfl rfl dX5_stepOn_64 ?_
    refine x_get (C := RX4) (T := TX4) h1 (by decide) rfl in_X4 4 (by decide) fl_X5_87 xf_4_4 dX5_stepOn_65 ?_
    refine x_iald (xTo_2 h0) dX5_stepOn_68 ?_
    refine x_iconst (v := (3)) (by decide) dX5_stepOn_69 ?_
    refine x_icmp_ne (tgt := 89) dX5_stepOn_70 (by decide) ?_ ?_
    · exact x_vret rfl rfl dX5_stepOn_89
    · refine x_aload_n (q := 1) rfl rfl dX5_stepOn_73 ?_
      refine x_get (C := RX4) (T := TX4) h1 (by decide) rfl in_X4 5 (by decide) fl_X5_84 xf_4_5 dX5_stepOn_74 ?_
      refine x_aload_n (q := 1) rfl rfl dX5_stepOn_77 ?_
      refine x_callVR (av := []) (st := [.int (m2 a1 5)]) (m_X4_bendLimit h1  m2) h1 (by decide) rfl rfl (by decide) (by decide) lk_X5_116 cd_X4_bendLimit xd_X4_bendLimit rfl (Nat.le_of_ble_eq_true rfl) dX5_stepOn_78 ?_
      refine x_icmp_le (tgt := 89) dX5_stepOn_81 (by decide) ?_ ?_
      · exact x_vret rfl rfl dX5_stepOn_89
      · refine x_aload_n (q := 1) rfl rfl dX5_stepOn_84 ?_
        refine x_iconst (v := (2)) (by decide) dX5_stepOn_85 ?_
        refine x_put (C := RX4) (T := TX4) (ty := .int) tyX4 tyX4_ok nmX4 h1 (by decide) rfl in_X4 6 (by decide) (by decide) fl_X5_66 rfl (by decide +kernel) rfl rfl dX5_stepOn_86 ?_
        refine x_bm (fun m3 => ?_)
        exact x_vret rfl rfl dX5_stepOn_89
  · refine x_aload_n (q := 1) rfl rfl dX5_stepOn_53 ?_
    refine x_callVV (av := []) (st := []) (m_X4_stop h1  m2) h1 (by decide) rfl rfl (by decide) (by decide) lk_X5_113 cd_X4_stop xd_X4_stop rfl (Nat.le_of_ble_eq_true rfl) dX5_stepOn_54 ?_
    refine x_bm (fun m4 => ?_)
    refine x_goto (tgt := 89) dX5_stepOn_57 (by decide) ?_
    exact x_vret rfl rfl dX5_stepOn_89
def f_X5_stepOn (a0 : Nat) (a1 : Nat) (a2 : Int32) (im : IM) : Option (IM) :=
  if 30 ≤ (im a1 4) then
    f_X5_stepOn_j1 a0 a1 a2 im
  else
    if a2 = 0 then
      f_X5_stepOn_j2 a0 a1 a2 im
    else
      if inb ((im a1 4) + 1) 31 = true then
        if (im (a0 + 2) (ix ((im a1 4) + 1))) = 4 then
          f_X5_stepOn_j1 a0 a1 a2 im
        else
          f_X5_stepOn_j2 a0 a1 a2 im
      else none
set_option maxRecDepth 20000 in
set_option maxHeartbeats 4000000 in
theorem s_X5_stepOn {g : GX} {a0 : Nat} (h0 : xTo a0) {a1 : Nat} (h1 : xSH a1 = (4, 8))    (a2 : Int32) (im : IM) : X g md_X5_stepOn eV 0 [(0, .ref (g.1 a0)), (1, .ref (g.1 a1)), (2, .int a2)] [] im (f_X5_stepOn a0 a1 a2 im) := by
  refine x_aload_n (q := 1) rfl rfl dX5_stepOn_0 ?_
  refine x_get (C := RX4) (T := TX4) h1 (by decide) rfl in_X4 4 (by decide) fl_X5_87 xf_4_4 dX5_stepOn_1 ?_
  refine x_bipush (v := (30)) (by decide) dX5_stepOn_4 ?_
  refine x_icmp_ge (tgt := 28) dX5_stepOn_6 (by decide) ?_ ?_
  · refine x_sub [1] rfl ?_
    exact s_X5_stepOn_j1 h0 h1 a2 im
  · refine x_iload_n (q := 2) rfl rfl dX5_stepOn_9 ?_
    refine x_if_eq (tgt := 34) dX5_stepOn_10 (by decide) ?_ ?_
    · refine x_sub [0, 1] rfl ?_
      exact s_X5_stepOn_j2 h0 h1 a2 im
    · refine x_aload_n (q := 0) rfl rfl dX5_stepOn_13 ?_
      refine x_get (C := RX5) (T := TX5) (xTo_o h0) (by decide) rfl in_X5 1 (by decide) fl_X5_15 xf_5_1 dX5_stepOn_14 ?_
      refine x_aload_n (q := 1) rfl rfl dX5_stepOn_17 ?_
      refine x_get (C := RX4) (T := TX4) h1 (by decide) rfl in_X4 4 (by decide) fl_X5_87 xf_4_4 dX5_stepOn_18 ?_
      refine x_iconst (v := (1)) (by decide) dX5_stepOn_21 ?_
      refine x_iadd dX5_stepOn_22 ?_
      refine x_iald (xTo_2 h0) dX5_stepOn_23 ?_
      refine x_iconst (v := (4)) (by decide) dX5_stepOn_24 ?_
      refine x_icmp_ne (tgt := 34) dX5_stepOn_25 (by decide) ?_ ?_
      · refine x_sub [0, 1] rfl ?_
        exact s_X5_stepOn_j2 h0 h1 a2 im
      · refine x_sub [1] rfl ?_
        exact s_X5_stepOn_j1 h0 h1 a2 im
theorem m_X5_stepOn {g : GX} {a0 : Nat} (h0 : xTo a0) {a1 : Nat} (h1 : xSH a1 = (4, 8))    (a2 : Int32) (im : IM) (r : IM) (hr : f_X5_stepOn a0 a1 a2 im = some r) : xMet g 1 yX5_stepOn cX5_stepOn 3 none [.ref (g.1 a0), .ref (g.1 a1), .int a2] im (eV r) := x_met (by decide) (Nat.le_of_ble_eq_true rfl) rfl (s_X5_stepOn h0 h1 a2 im) r hr
abbrev md_X5_rollOn : xM := (2, 7, RX5, cX5_rollOn, none)
def f_X5_rollOn_j2 (a0 : Nat) (a1 : Nat) (a2 : Int32)   (im : IM) : Option (IM) :=
  if (im a1 5) = 0 then
    if (im a1 6) = 2 then
      some im
    else
      bnd (f_X4_stop a1 im) fun m6 =>
      some m6
  else
    some im
set_option maxRecDepth 20000 in
set_option maxHeartbeats 4000000 in
theorem s_X5_rollOn_j2 {g : GX} {a0 : Nat} (h0 : xTo a0) {a1 : Nat} (h1 : xSH a1 = (4, 8)) (a2 : Int32)      (im : IM) : X g md_X5_rollOn eV 101 [(1, .ref (g.1 a1))] [] im (f_X5_rollOn_j2 a0 a1 a2 im) := by
  refine x_aload_n (q := 0) rfl rfl dX5_rollOn_101 ?_
  refine x_get (C := RX4) (T := TX4) h1 (by decide) rfl in_X4 5 (by decide) fl_X5_84 xf_4_5 dX5_rollOn_102 ?_
  refine x_if_ne (tgt := 120) dX5_rollOn_105 (by decide) ?_ ?_
  · exact x_vret rfl rfl dX5_rollOn_120
  · refine x_aload_n (q := 0) rfl rfl dX5_rollOn_108 ?_
    refine x_get (C := RX4) (T := TX4) h1 (by decide) rfl in_X4 6 (by decide) fl_X5_66 xf_4_6 dX5_rollOn_109 ?_
    refine x_iconst (v := (2)) (by decide) dX5_rollOn_112 ?_
    refine x_icmp_eq (tgt := 120) dX5_rollOn_113 (by decide) ?_ ?_
    · exact x_vret rfl rfl dX5_rollOn_120
    · refine x_aload_n (q := 0) rfl rfl dX5_rollOn_116 ?_
      refine x_callVV (av := []) (st := []) (m_X4_stop h1  im) h1 (by decide) rfl rfl (by decide) (by decide) lk_X5_113 cd_X4_stop xd_X4_stop rfl (Nat.le_of_ble_eq_true rfl) dX5_rollOn_117 ?_
      refine x_bm (fun m6 => ?_)
      exact x_vret rfl rfl dX5_rollOn_120
def f_X5_rollOn_l1b (a0 : Nat) (a1 : Nat) (a2 : Int32)   (k66 : Int32 → Int32 → Int32 → IM → Option (IM)) (x4 : Int32) (x5 : Int32) (x6 : Int32) (im : IM) : Option (IM) :=
  if x5 ≤ x6 then
    f_X5_rollOn_j2 a0 a1 a2 im
  else
    if (im a1 6) = 1 then
      if (im a1 5) ≤ 0 then
        f_X5_rollOn_j2 a0 a1 a2 im
      else
        (f_X5_stepOn a0 a1 x4 im).bind fun r7 =>
        bnd (x6 + 1) fun v8 =>
        k66 x4 x5 v8 r7
    else
      f_X5_rollOn_j2 a0 a1 a2 im
def f_X5_rollOn_l1 (a0 : Nat) (a1 : Nat) (a2 : Int32)   : Nat → Int32 → Int32 → Int32 → IM → Option (IM)
  | 0, _, _, _, _ => none
  | n + 1, x4, x5, x6, im => f_X5_rollOn_l1b a0 a1 a2 (f_X5_rollOn_l1 a0 a1 a2 n) x4 x5 x6 im
set_option maxRecDepth 20000 in
set_option maxHeartbeats 4000000 in
theorem s_X5_rollOn_l1b {g : GX} {a0 : Nat} (h0 : xTo a0) {a1 : Nat} (h1 : xSH a1 = (4, 8)) (a2 : Int32)    (k66 : Int32 → Int32 → Int32 → IM → Option (IM)) (hk66 : ∀ (x4 : Int32) (x5 : Int32) (x6 : Int32) (im : IM), X g md_X5_rollOn eV 66 [(0, .ref (g.1 a0)), (1, .ref (g.1 a1)), (4, .int x4), (5, .int x5), (6, .int x6)] [] im (k66 x4 x5 x6 im)) (x4 : Int32) (x5 : Int32) (x6 : Int32)  (im : IM) : X g md_X5_rollOn eV 66 [(0, .ref (g.1 a0)), (1, .ref (g.1 a1)), (4, .int x4), (5, .int x5), (6, .int x6)] [] im (f_X5_rollOn_l1b a0 a1 a2 k66 x4 x5 x6 im) := by
  refine x_iload (q := 4) rfl dX5_rollOn_66 ?_
  refine x_iload (q := 3) rfl dX5_rollOn_68 ?_
  refine x_icmp_ge (tgt := 101) dX5_rollOn_70 (by decide) ?_ ?_
  · refine x_sub [1] rfl ?_
    exact s_X5_rollOn_j2 h0 h1 a2 im
  · refine x_aload_n (q := 1) rfl rfl dX5_rollOn_73 ?_
    refine x_get (C := RX4) (T := TX4) h1 (by decide) rfl in_X4 6 (by decide) fl_X5_66 xf_4_6 dX5_rollOn_74 ?_
    refine x_iconst (v := (1)) (by decide) dX5_rollOn_77 ?_
    refine x_icmp_ne (tgt := 101) dX5_rollOn_78 (by decide) ?_ ?_
    · refine x_sub [1] rfl ?_
      exact s_X5_rollOn_j2 h0 h1 a2 im
    · refine x_aload_n (q := 1) rfl rfl dX5_rollOn_81 ?_
      refine x_get (C := RX4) (T := TX4) h1 (by decide) rfl in_X4 5 (by decide) fl_X5_84 xf_4_5 dX5_rollOn_82 ?_
      refine x_if_le (tgt := 101) dX5_rollOn_85 (by decide) ?_ ?_
      · refine x_sub [1] rfl ?_
        exact s_X5_rollOn_j2 h0 h1 a2 im
      · refine x_aload_n (q := 0) rfl rfl dX5_rollOn_88 ?_
        refine x_aload_n (q := 1) rfl rfl dX5_rollOn_89 ?_
        refine x_iload (q := 2) rfl dX5_rollOn_90 ?_
        refine x_bind (fun r7 er7 => ?_)
        refine x_callVV (av := [.ref (g.1 a1), .int x4]) (st := []) (m_X5_stepOn h0 h1 x4 im r7 er7) (xTo_o h0) (by decide) rfl rfl (by decide) (by decide) lk_X5_109 cd_X5_stepOn xd_X5_stepOn rfl (Nat.le_of_ble_eq_true rfl) dX5_rollOn_92 ?_
        refine x_iinc (q := 4) (a := 1) (lv' := fun v8 => [(6, .int v8), (0, .ref (g.1 a0)), (1, .ref (g.1 a1)), (4, .int x4), (5, .int x5)]) dX5_rollOn_95 rfl (by decide) (by decide) (fun _ => rfl) (fun v8 => ?_)
        refine x_goto (tgt := 66) dX5_rollOn_98 (by decide) ?_
        refine x_sub [1, 2, 3, 4, 0] rfl ?_
        exact hk66 x4 x5 v8 r7
set_option maxRecDepth 20000 in
set_option maxHeartbeats 4000000 in
theorem s_X5_rollOn_l1 {g : GX} {a0 : Nat} (h0 : xTo a0) {a1 : Nat} (h1 : xSH a1 = (4, 8)) (a2 : Int32)    (n : Nat) : ∀ (x4 : Int32) (x5 : Int32) (x6 : Int32) (im : IM), X g md_X5_rollOn eV 66 [(0, .ref (g.1 a0)), (1, .ref (g.1 a1)), (4, .int x4), (5, .int x5), (6, .int x6)] [] im (f_X5_rollOn_l1 a0 a1 a2 n x4 x5 x6 im) := by
  induction n with
  | zero => intro x4 x5 x6 im; exact x_none
  | succ n ih => intro x4 x5 x6 im; exact s_X5_rollOn_l1b h0 h1 a2 (f_X5_rollOn_l1 a0 a1 a2 n) ih x4 x5 x6 im
def f_X5_rollOn (a0 : Nat) (a1 : Nat) (a2 : Int32) (im : IM) : Option (IM) :=
  if inb (im a1 4) 31 = true then
    if inb (im a1 4) 31 = true then
      (f_X4_dragOn a1 (im (a0 + 2) (ix (im a1 4))) im).bind fun r1 =>
      bnd (((im a1 5) + (f_X4_gainFrom a1 (im (a0 + 1) (ix (im a1 4))) im)) - r1) fun v2 =>
      bnd (up im a1 5 (jmax 0 (jmin 99 v2))) fun m3 =>
      bnd (f_X5_gatesAreShut a0 a2 m3) fun v4 =>
      bnd ((m3 a1 5) / 10) fun v5 =>
      f_X5_rollOn_l1 a0 a1 a2 xF v4 v5 0 m3
    else none
  else none
set_option maxRecDepth 20000 in
set_option maxHeartbeats 4000000 in
theorem s_X5_rollOn {g : GX} {a0 : Nat} (h0 : xTo a0) {a1 : Nat} (h1 : xSH a1 = (4, 8))    (a2 : Int32) (im : IM) : X g md_X5_rollOn eV 0 [(0, .ref (g.1 a0)), (1, .ref (g.1 a1)), (2, .int a2)] [] im (f_X5_rollOn a0 a1 a2 im) := by
  refine x_aload_n (q := 1) rfl rfl dX5_rollOn_0 ?_
  refine x_get (C := RX4) (T := TX4) h1 (by decide) rfl in_X4 5 (by decide) fl_X5_84 xf_4_5 dX5_rollOn_1 ?_
  refine x_aload_n (q := 1) rfl rfl dX5_rollOn_4 ?_
  refine x_aload_n (q := 0) rfl rfl dX5_rollOn_5 ?_
  refine x_get (C := RX5) (T := TX5) (xTo_o h0) (by decide) rfl in_X5 0 (by decide) fl_X5_9 xf_5_0 dX5_rollOn_6 ?_
  refine x_aload_n (q := 1) rfl rfl dX5_rollOn_9 ?_
  refine x_get (C := RX4) (T := TX4) h1 (by decide) rfl in_X4 4 (by decide) fl_X5_87 xf_4_4 dX5_rollOn_10 ?_
  refine x_iald (xTo_1 h0) dX5_rollOn_13 ?_
  refine x_callVR (av := [.int (im (a0 + 1) (ix (im a1 4)))]) (st := [.int (im a1 5)]) (m_X4_gainFrom h1 ((im (a0 + 1) (ix (im a1 4)))) im) h1 (by decide) rfl rfl (by decide) (by decide) lk_X5_90 cd_X4_gainFrom xd_X4_gainFrom rfl (Nat.le_of_ble_eq_true rfl) dX5_rollOn_14 ?_
  refine x_iadd dX5_rollOn_17 ?_
  refine x_aload_n (q := 1) rfl rfl dX5_rollOn_18 ?_
  refine x_aload_n (q := 0) rfl rfl dX5_rollOn_19 ?_
  refine x_get (C := RX5) (T := TX5) (xTo_o h0) (by decide) rfl in_X5 1 (by decide) fl_X5_15 xf_5_1 dX5_rollOn_20 ?_
  refine x_aload_n (q := 1) rfl rfl dX5_rollOn_23 ?_
  refine x_get (C := RX4) (T := TX4) h1 (by decide) rfl in_X4 4 (by decide) fl_X5_87 xf_4_4 dX5_rollOn_24 ?_
  refine x_iald (xTo_2 h0) dX5_rollOn_27 ?_
  refine x_bind (fun r1 er1 => ?_)
  refine x_callVR (av := [.int (im (a0 + 2) (ix (im a1 4)))]) (st := [.int ((im a1 5) + (f_X4_gainFrom a1 (im (a0 + 1) (ix (im a1 4))) im))]) (m_X4_dragOn h1 ((im (a0 + 2) (ix (im a1 4)))) im r1 er1) h1 (by decide) rfl rfl (by decide) (by decide) lk_X5_93 cd_X4_dragOn xd_X4_dragOn rfl (Nat.le_of_ble_eq_true rfl) dX5_rollOn_28 ?_
  refine x_isub dX5_rollOn_31 ?_
  refine x_bi (fun v2 => ?_)
  refine x_istore_n (lv' := [(3, .int v2), (0, .ref (g.1 a0)), (1, .ref (g.1 a1)), (2, .int a2)]) rfl dX5_rollOn_32 (by decide) rfl ?_
  refine x_aload_n (q := 2) rfl rfl dX5_rollOn_33 ?_
  refine x_iconst (v := (0)) (by decide) dX5_rollOn_34 ?_
  refine x_bipush (v := (99)) (by decide) dX5_rollOn_35 ?_
  refine x_iload_n (q := 0) rfl rfl dX5_rollOn_37 ?_
  refine x_mmin lk_X5_96 (by decide) (Nat.le_of_ble_eq_true rfl) dX5_rollOn_38 ?_
  refine x_mmax lk_X5_102 (by decide) (Nat.le_of_ble_eq_true rfl) dX5_rollOn_41 ?_
  refine x_put (C := RX4) (T := TX4) (ty := .int) tyX4 tyX4_ok nmX4 h1 (by decide) rfl in_X4 5 (by decide) (by decide) fl_X5_84 rfl (by decide +kernel) rfl rfl dX5_rollOn_44 ?_
  refine x_bm (fun m3 => ?_)
  refine x_aload_n (q := 1) rfl rfl dX5_rollOn_47 ?_
  refine x_iload_n (q := 3) rfl rfl dX5_rollOn_48 ?_
  refine x_callVR (av := [.int a2]) (st := []) (m_X5_gatesAreShut h0 a2 m3) (xTo_o h0) (by decide) rfl rfl (by decide) (by decide) lk_X5_105 cd_X5_gatesAreShut xd_X5_gatesAreShut rfl (Nat.le_of_ble_eq_true rfl) dX5_rollOn_49 ?_
  refine x_bi (fun v4 => ?_)
  refine x_istore (lv' := [(4, .int v4), (3, .int v2), (0, .ref (g.1 a0)), (1, .ref (g.1 a1)), (2, .int a2)]) dX5_rollOn_52 (by decide) rfl ?_
  refine x_aload_n (q := 3) rfl rfl dX5_rollOn_54 ?_
  refine x_get (C := RX4) (T := TX4) h1 (by decide) rfl in_X4 5 (by decide) fl_X5_84 xf_4_5 dX5_rollOn_55 ?_
  refine x_bipush (v := (10)) (by decide) dX5_rollOn_58 ?_
  refine x_idiv (by decide) dX5_rollOn_60 ?_
  refine x_bi (fun v5 => ?_)
  refine x_istore (lv' := [(5, .int v5), (4, .int v4), (3, .int v2), (0, .ref (g.1 a0)), (1, .ref (g.1 a1)), (2, .int a2)]) dX5_rollOn_61 (by decide) rfl ?_
  refine x_iconst (v := (0)) (by decide) dX5_rollOn_63 ?_
  refine x_istore (lv' := [(6, .int 0), (5, .int v5), (4, .int v4), (3, .int v2), (0, .ref (g.1 a0)), (1, .ref (g.1 a1)), (2, .int a2)]) dX5_rollOn_64 (by decide) rfl ?_
  refine x_sub [4, 5, 2, 1, 0] rfl ?_
  exact s_X5_rollOn_l1 h0 h1 a2 xF v4 v5 0 m3
theorem m_X5_rollOn {g : GX} {a0 : Nat} (h0 : xTo a0) {a1 : Nat} (h1 : xSH a1 = (4, 8))    (a2 : Int32) (im : IM) (r : IM) (hr : f_X5_rollOn a0 a1 a2 im = some r) : xMet g 2 yX5_rollOn cX5_rollOn 7 none [.ref (g.1 a0), .ref (g.1 a1), .int a2] im (eV r) := x_met (by decide) (Nat.le_of_ble_eq_true rfl) rfl (s_X5_rollOn h0 h1 a2 im) r hr
abbrev md_X5_become : xM := (1, 3, RX5, cX5_become, none)
def f_X5_become_l1b (a0 : Nat) (a1 : Nat)   (k47 : Int32 → IM → Option (IM)) (x2 : Int32) (im : IM) : Option (IM) :=
  if (im a1 4) ≤ x2 then
    bnd (up im a0 4 (im a1 4)) fun m4 =>
    bnd (up m4 a0 5 (m4 a1 5)) fun m5 =>
    bnd (up m5 a0 6 (m5 a1 6)) fun m6 =>
    bnd (up m6 a0 7 (m6 a1 7)) fun m7 =>
    bnd (up m7 a0 8 (m7 a1 8)) fun m8 =>
    some m8
  else
    if inb x2 10 = true then
      if inb x2 10 = true then
        bnd (f_X4_become (a0 + 5 + ix x2) (a1 + 5 + ix x2) im) fun m11 =>
        bnd (x2 + 1) fun v12 =>
        k47 v12 m11
      else none
    else none
def f_X5_become_l1 (a0 : Nat) (a1 : Nat)   : Nat → Int32 → IM → Option (IM)
  | 0, _, _ => none
  | n + 1, x2, im => f_X5_become_l1b a0 a1 (f_X5_become_l1 a0 a1 n) x2 im
set_option maxRecDepth 20000 in
set_option maxHeartbeats 4000000 in
theorem s_X5_become_l1b {g : GX} {a0 : Nat} (h0 : xTo a0) {a1 : Nat} (h1 : xTo a1)    (k47 : Int32 → IM → Option (IM)) (hk47 : ∀ (x2 : Int32) (im : IM), X g md_X5_become eV 47 [(0, .ref (g.1 a0)), (1, .ref (g.1 a1)), (2, .int x2)] [] im (k47 x2 im)) (x2 : Int32)  (im : IM) : X g md_X5_become eV 47 [(0, .ref (g.1 a0)), (1, .ref (g.1 a1)), (2, .int x2)] [] im (f_X5_become_l1b a0 a1 k47 x2 im) := by
  refine x_iload_n (q := 2) rfl rfl dX5_become_47 ?_
  refine x_aload_n (q := 1) rfl rfl dX5_become_48 ?_
  refine x_get (C := RX5) (T := TX5) (xTo_o h1) (by decide) rfl in_X5 4 (by decide) fl_X5_27 xf_5_4 dX5_become_49 ?_
  refine x_icmp_ge (tgt := 76) dX5_become_52 (by decide) ?_ ?_
  · refine x_aload_n (q := 0) rfl rfl dX5_become_76 ?_
    refine x_aload_n (q := 1) rfl rfl dX5_become_77 ?_
    refine x_get (C := RX5) (T := TX5) (xTo_o h1) (by decide) rfl in_X5 4 (by decide) fl_X5_27 xf_5_4 dX5_become_78 ?_
    refine x_put (C := RX5) (T := TX5) (ty := .int) tyX5 tyX5_ok nmX5 (xTo_o h0) (by decide) rfl in_X5 4 (by decide) (by decide) fl_X5_27 rfl (by decide +kernel) rfl rfl dX5_become_81 ?_
    refine x_bm (fun m4 => ?_)
    refine x_aload_n (q := 0) rfl rfl dX5_become_84 ?_
    refine x_aload_n (q := 1) rfl rfl dX5_become_85 ?_
    refine x_get (C := RX5) (T := TX5) (xTo_o h1) (by decide) rfl in_X5 5 (by decide) fl_X5_31 xf_5_5 dX5_become_86 ?_
    refine x_put (C := RX5) (T := TX5) (ty := .int) tyX5 tyX5_ok nmX5 (xTo_o h0) (by decide) rfl in_X5 5 (by decide) (by decide) fl_X5_31 rfl (by decide +kernel) rfl rfl dX5_become_89 ?_
    refine x_bm (fun m5 => ?_)
    refine x_aload_n (q := 0) rfl rfl dX5_become_92 ?_
    refine x_aload_n (q := 1) rfl rfl dX5_become_93 ?_
    refine x_get (C := RX5) (T := TX5) (xTo_o h1) (by decide) rfl in_X5 6 (by decide) fl_X5_34 xf_5_6 dX5_become_94 ?_
    refine x_put (C := RX5) (T := TX5) (ty := .int) tyX5 tyX5_ok nmX5 (xTo_o h0) (by decide) rfl in_X5 6 (by decide) (by decide) fl_X5_34 rfl (by decide +kernel) rfl rfl dX5_become_97 ?_
    refine x_bm (fun m6 => ?_)
    refine x_aload_n (q := 0) rfl rfl dX5_become_100 ?_
    refine x_aload_n (q := 1) rfl rfl dX5_become_101 ?_
    refine x_get (C := RX5) (T := TX5) (xTo_o h1) (by decide) rfl in_X5 7 (by decide) fl_X5_37 xf_5_7 dX5_become_102 ?_
    refine x_put (C := RX5) (T := TX5) (ty := .int) tyX5 tyX5_ok nmX5 (xTo_o h0) (by decide) rfl in_X5 7 (by decide) (by decide) fl_X5_37 rfl (by decide +kernel) rfl rfl dX5_become_105 ?_
    refine x_bm (fun m7 => ?_)
    refine x_aload_n (q := 0) rfl rfl dX5_become_108 ?_
    refine x_aload_n (q := 1) rfl rfl dX5_become_109 ?_
    refine x_get (C := RX5) (T := TX5) (xTo_o h1) (by decide) rfl in_X5 8 (by decide) fl_X5_40 xf_5_8 dX5_become_110 ?_
    refine x_put (C := RX5) (T := TX5) (ty := .int) tyX5 tyX5_ok nmX5 (xTo_o h0) (by decide) rfl in_X5 8 (by decide) (by decide) fl_X5_40 rfl (by decide +kernel) rfl rfl dX5_become_113 ?_
    refine x_bm (fun m8 => ?_)
    exact x_vret rfl rfl dX5_become_116
  · refine x_aload_n (q := 0) rfl rfl dX5_become_55 ?_
    refine x_get (C := RX5) (T := TX5) (xTo_o h0) (by decide) rfl in_X5 2 (by decide) fl_X5_20 xf_5_2 dX5_become_56 ?_
    refine x_iload_n (q := 2) rfl rfl dX5_become_59 ?_
    refine x_aldT (xTo_3 h0) dX5_become_60 (fun hi9 => ?_)
    refine x_aload_n (q := 1) rfl rfl dX5_become_61 ?_
    refine x_get (C := RX5) (T := TX5) (xTo_o h1) (by decide) rfl in_X5 2 (by decide) fl_X5_20 xf_5_2 dX5_become_62 ?_
    refine x_iload_n (q := 2) rfl rfl dX5_become_65 ?_
    refine x_aldT (xTo_3 h1) dX5_become_66 (fun hi10 => ?_)
    refine x_callVV (av := [.ref (g.1 ((a1 + 5 + ix x2)))]) (st := []) (m_X4_become (xTh h0 hi9) (xTh h1 hi10)  im) (xTh h0 hi9) (by decide) rfl rfl (by decide) (by decide) lk_X5_50 cd_X4_become xd_X4_become rfl (Nat.le_of_ble_eq_true rfl) dX5_become_67 ?_
    refine x_bm (fun m11 => ?_)
    refine x_iinc (q := 2) (a := 1) (lv' := fun v12 => [(2, .int v12), (0, .ref (g.1 a0)), (1, .ref (g.1 a1))]) dX5_become_70 rfl (by decide) (by decide) (fun _ => rfl) (fun v12 => ?_)
    refine x_goto (tgt := 47) dX5_become_73 (by decide) ?_
    refine x_sub [1, 2, 0] rfl ?_
    exact hk47 v12 m11
set_option maxRecDepth 20000 in
set_option maxHeartbeats 4000000 in
theorem s_X5_become_l1 {g : GX} {a0 : Nat} (h0 : xTo a0) {a1 : Nat} (h1 : xTo a1)    (n : Nat) : ∀ (x2 : Int32) (im : IM), X g md_X5_become eV 47 [(0, .ref (g.1 a0)), (1, .ref (g.1 a1)), (2, .int x2)] [] im (f_X5_become_l1 a0 a1 n x2 im) := by
  induction n with
  | zero => intro x2 im; exact x_none
  | succ n ih => intro x2 im; exact s_X5_become_l1b h0 h1 (f_X5_become_l1 a0 a1 n) ih x2 im
def f_X5_become (a0 : Nat) (a1 : Nat) (im : IM) : Option (IM) :=
  if cpk 0 0 31 31 31 = true then
    bnd (upA im (a0 + 1) (va_cpy (im (a1 + 1)) (im (a0 + 1)) (ix 0) (ix 0) (ix 31))) fun m1 =>
    if cpk 0 0 31 31 31 = true then
      bnd (upA m1 (a0 + 2) (va_cpy (m1 (a1 + 2)) (m1 (a0 + 2)) (ix 0) (ix 0) (ix 31))) fun m2 =>
      if cpk 0 0 10 10 10 = true then
        bnd (upA m2 (a0 + 4) (va_cpy (m2 (a1 + 4)) (m2 (a0 + 4)) (ix 0) (ix 0) (ix 10))) fun m3 =>
        f_X5_become_l1 a0 a1 xF 0 m3
      else none
    else none
  else none
set_option maxRecDepth 20000 in
set_option maxHeartbeats 4000000 in
theorem s_X5_become {g : GX} {a0 : Nat} (h0 : xTo a0) {a1 : Nat} (h1 : xTo a1)   (im : IM) : X g md_X5_become eV 0 [(0, .ref (g.1 a0)), (1, .ref (g.1 a1))] [] im (f_X5_become a0 a1 im) := by
  refine x_aload_n (q := 1) rfl rfl dX5_become_0 ?_
  refine x_get (C := RX5) (T := TX5) (xTo_o h1) (by decide) rfl in_X5 0 (by decide) fl_X5_9 xf_5_0 dX5_become_1 ?_
  refine x_iconst (v := (0)) (by decide) dX5_become_4 ?_
  refine x_aload_n (q := 0) rfl rfl dX5_become_5 ?_
  refine x_get (C := RX5) (T := TX5) (xTo_o h0) (by decide) rfl in_X5 0 (by decide) fl_X5_9 xf_5_0 dX5_become_6 ?_
  refine x_iconst (v := (0)) (by decide) dX5_become_9 ?_
  refine x_bipush (v := (31)) (by decide) dX5_become_10 ?_
  refine x_copy (xTo_1 h1) (xTo_1 h0) lk_X5_44 (by decide) (Nat.le_of_ble_eq_true rfl) dX5_become_12 ?_
  refine x_bm (fun m1 => ?_)
  refine x_aload_n (q := 1) rfl rfl dX5_become_15 ?_
  refine x_get (C := RX5) (T := TX5) (xTo_o h1) (by decide) rfl in_X5 1 (by decide) fl_X5_15 xf_5_1 dX5_become_16 ?_
  refine x_iconst (v := (0)) (by decide) dX5_become_19 ?_
  refine x_aload_n (q := 0) rfl rfl dX5_become_20 ?_
  refine x_get (C := RX5) (T := TX5) (xTo_o h0) (by decide) rfl in_X5 1 (by decide) fl_X5_15 xf_5_1 dX5_become_21 ?_
  refine x_iconst (v := (0)) (by decide) dX5_become_24 ?_
  refine x_bipush (v := (31)) (by decide) dX5_become_25 ?_
  refine x_copy (xTo_2 h1) (xTo_2 h0) lk_X5_44 (by decide) (Nat.le_of_ble_eq_true rfl) dX5_become_27 ?_
  refine x_bm (fun m2 => ?_)
  refine x_aload_n (q := 1) rfl rfl dX5_become_30 ?_
  refine x_get (C := RX5) (T := TX5) (xTo_o h1) (by decide) rfl in_X5 3 (by decide) fl_X5_24 xf_5_3 dX5_become_31 ?_
  refine x_iconst (v := (0)) (by decide) dX5_become_34 ?_
  refine x_aload_n (q := 0) rfl rfl dX5_become_35 ?_
  refine x_get (C := RX5) (T := TX5) (xTo_o h0) (by decide) rfl in_X5 3 (by decide) fl_X5_24 xf_5_3 dX5_become_36 ?_
  refine x_iconst (v := (0)) (by decide) dX5_become_39 ?_
  refine x_bipush (v := (10)) (by decide) dX5_become_40 ?_
  refine x_copy (xTo_4 h1) (xTo_4 h0) lk_X5_44 (by decide) (Nat.le_of_ble_eq_true rfl) dX5_become_42 ?_
  refine x_bm (fun m3 => ?_)
  refine x_iconst (v := (0)) (by decide) dX5_become_45 ?_
  refine x_istore_n (lv' := [(2, .int 0), (0, .ref (g.1 a0)), (1, .ref (g.1 a1))]) rfl dX5_become_46 (by decide) rfl ?_
  refine x_sub [1, 2, 0] rfl ?_
  exact s_X5_become_l1 h0 h1 xF 0 m3
theorem m_X5_become {g : GX} {a0 : Nat} (h0 : xTo a0) {a1 : Nat} (h1 : xTo a1)   (im : IM) (r : IM) (hr : f_X5_become a0 a1 im = some r) : xMet g 1 yX5_become cX5_become 3 none [.ref (g.1 a0), .ref (g.1 a1)] im (eV r) := x_met (by decide) (Nat.le_of_ble_eq_true rfl) rfl (s_X5_become h0 h1 im) r hr
abbrev md_X5_clearAllBut : xM := (1, 3, RX5, cX5_clearAllBut, none)
def f_X5_clearAllBut_j2 (a0 : Nat) (a1 : Int32) (k2 : Int32 → IM → Option (IM)) (x2 : Int32) (im : IM) : Option (IM) :=
  bnd (x2 + 1) fun v1 =>
  k2 v1 im
set_option maxRecDepth 20000 in
set_option maxHeartbeats 4000000 in
theorem s_X5_clearAllBut_j2 {g : GX} {a0 : Nat} (h0 : xTo a0) (a1 : Int32)  (k2 : Int32 → IM → Option (IM)) (hk2 : ∀ (x2 : Int32) (im : IM), X g md_X5_clearAllBut eV 2 [(0, .ref (g.1 a0)), (1, .int a1), (2, .int x2)] [] im (k2 x2 im)) (x2 : Int32)  (im : IM) : X g md_X5_clearAllBut eV 28 [(0, .ref (g.1 a0)), (1, .int a1), (2, .int x2)] [] im (f_X5_clearAllBut_j2 a0 a1 k2 x2 im) := by
  refine x_iinc (q := 2) (a := 1) (lv' := fun v1 => [(2, .int v1), (0, .ref (g.1 a0)), (1, .int a1)]) dX5_clearAllBut_28 rfl (by decide) (by decide) (fun _ => rfl) (fun v1 => ?_)
  refine x_goto (tgt := 2) dX5_clearAllBut_31 (by decide) ?_
  refine x_sub [1, 2, 0] rfl ?_
  exact hk2 v1 im
def f_X5_clearAllBut_l1b (a0 : Nat) (a1 : Int32)   (k2 : Int32 → IM → Option (IM)) (x2 : Int32) (im : IM) : Option (IM) :=
  if (im a0 4) ≤ x2 then
    some im
  else
    if (f_X6_has a1 x2) = 0 then
      if inb x2 10 = true then
        bnd (up im (a0 + 5 + ix x2) 6 2) fun m3 =>
        f_X5_clearAllBut_j2 a0 a1 k2 x2 m3
      else none
    else
      f_X5_clearAllBut_j2 a0 a1 k2 x2 im
def f_X5_clearAllBut_l1 (a0 : Nat) (a1 : Int32)   : Nat → Int32 → IM → Option (IM)
  | 0, _, _ => none
  | n + 1, x2, im => f_X5_clearAllBut_l1b a0 a1 (f_X5_clearAllBut_l1 a0 a1 n) x2 im
set_option maxRecDepth 20000 in
set_option maxHeartbeats 4000000 in
theorem s_X5_clearAllBut_l1b {g : GX} {a0 : Nat} (h0 : xTo a0) (a1 : Int32)    (k2 : Int32 → IM → Option (IM)) (hk2 : ∀ (x2 : Int32) (im : IM), X g md_X5_clearAllBut eV 2 [(0, .ref (g.1 a0)), (1, .int a1), (2, .int x2)] [] im (k2 x2 im)) (x2 : Int32)  (im : IM) : X g md_X5_clearAllBut eV 2 [(0, .ref (g.1 a0)), (1, .int a1), (2, .int x2)] [] im (f_X5_clearAllBut_l1b a0 a1 k2 x2 im) := by
  refine x_iload_n (q := 2) rfl rfl dX5_clearAllBut_2 ?_
  refine x_aload_n (q := 0) rfl rfl dX5_clearAllBut_3 ?_
  refine x_get (C := RX5) (T := TX5) (xTo_o h0) (by decide) rfl in_X5 4 (by decide) fl_X5_27 xf_5_4 dX5_clearAllBut_4 ?_
  refine x_icmp_ge (tgt := 34) dX5_clearAllBut_7 (by decide) ?_ ?_
  · exact x_vret rfl rfl dX5_clearAllBut_34
  · refine x_iload_n (q := 1) rfl rfl dX5_clearAllBut_10 ?_
    refine x_iload_n (q := 2) rfl rfl dX5_clearAllBut_11 ?_
    refine x_callSR (av := [.int a1, .int x2]) (st := []) (m_X6_has  a1 x2 im) rfl (by decide) (by decide) lk_X5_62 cd_X6_has xd_X6_has rfl (Nat.le_of_ble_eq_true rfl) dX5_clearAllBut_12 ?_
    refine x_if_ne (tgt := 28) dX5_clearAllBut_15 (by decide) ?_ ?_
    · refine x_sub [0, 1, 2] rfl ?_
      exact s_X5_clearAllBut_j2 h0 a1 k2 hk2 x2 im
    · refine x_aload_n (q := 0) rfl rfl dX5_clearAllBut_18 ?_
      refine x_get (C := RX5) (T := TX5) (xTo_o h0) (by decide) rfl in_X5 2 (by decide) fl_X5_20 xf_5_2 dX5_clearAllBut_19 ?_
      refine x_iload_n (q := 2) rfl rfl dX5_clearAllBut_22 ?_
      refine x_aldT (xTo_3 h0) dX5_clearAllBut_23 (fun hi2 => ?_)
      refine x_iconst (v := (2)) (by decide) dX5_clearAllBut_24 ?_
      refine x_put (C := RX4) (T := TX4) (ty := .int) tyX4 tyX4_ok nmX4 (xTh h0 hi2) (by decide) rfl in_X4 6 (by decide) (by decide) fl_X5_66 rfl (by decide +kernel) rfl rfl dX5_clearAllBut_25 ?_
      refine x_bm (fun m3 => ?_)
      refine x_sub [0, 1, 2] rfl ?_
      exact s_X5_clearAllBut_j2 h0 a1 k2 hk2 x2 m3
set_option maxRecDepth 20000 in
set_option maxHeartbeats 4000000 in
theorem s_X5_clearAllBut_l1 {g : GX} {a0 : Nat} (h0 : xTo a0) (a1 : Int32)    (n : Nat) : ∀ (x2 : Int32) (im : IM), X g md_X5_clearAllBut eV 2 [(0, .ref (g.1 a0)), (1, .int a1), (2, .int x2)] [] im (f_X5_clearAllBut_l1 a0 a1 n x2 im) := by
  induction n with
  | zero => intro x2 im; exact x_none
  | succ n ih => intro x2 im; exact s_X5_clearAllBut_l1b h0 a1 (f_X5_clearAllBut_l1 a0 a1 n) ih x2 im
def f_X5_clearAllBut (a0 : Nat) (a1 : Int32) (im : IM) : Option (IM) :=
  f_X5_clearAllBut_l1 a0 a1 xF 0 im
set_option maxRecDepth 20000 in
set_option maxHeartbeats 4000000 in
theorem s_X5_clearAllBut {g : GX} {a0 : Nat} (h0 : xTo a0)   (a1 : Int32) (im : IM) : X g md_X5_clearAllBut eV 0 [(0, .ref (g.1 a0)), (1, .int a1)] [] im (f_X5_clearAllBut a0 a1 im) := by
  refine x_iconst (v := (0)) (by decide) dX5_clearAllBut_0 ?_
  refine x_istore_n (lv' := [(2, .int 0), (0, .ref (g.1 a0)), (1, .int a1)]) rfl dX5_clearAllBut_1 (by decide) rfl ?_
  refine x_sub [1, 2, 0] rfl ?_
  exact s_X5_clearAllBut_l1 h0 a1 xF 0 im
theorem m_X5_clearAllBut {g : GX} {a0 : Nat} (h0 : xTo a0)   (a1 : Int32) (im : IM) (r : IM) (hr : f_X5_clearAllBut a0 a1 im = some r) : xMet g 1 yX5_clearAllBut cX5_clearAllBut 3 none [.ref (g.1 a0), .int a1] im (eV r) := x_met (by decide) (Nat.le_of_ble_eq_true rfl) rfl (s_X5_clearAllBut h0 a1 im) r hr
abbrev md_X5_allIn : xM := (0, 4, RX5, cX5_allIn, (some .int))
def f_X5_allIn_j2 (a0 : Nat) (a1 : Int32) (k4 : Int32 → Int32 → Option (Int32)) (x2 : Int32) (x3 : Int32) (im : IM) : Option (Int32) :=
  bnd (x3 + 1) fun v2 =>
  k4 x2 v2
set_option maxRecDepth 20000 in
set_option maxHeartbeats 4000000 in
theorem s_X5_allIn_j2 {g : GX} {a0 : Nat} (h0 : xTo a0) (a1 : Int32)  (k4 : Int32 → Int32 → Option (Int32)) (im : IM) (hk4 : ∀ (x2 : Int32) (x3 : Int32), X g md_X5_allIn (eR im) 4 [(0, .ref (g.1 a0)), (1, .int a1), (2, .int x2), (3, .int x3)] [] im (k4 x2 x3)) (x2 : Int32) (x3 : Int32)  : X g md_X5_allIn (eR im) 31 [(0, .ref (g.1 a0)), (1, .int a1), (2, .int x2), (3, .int x3)] [] im (f_X5_allIn_j2 a0 a1 k4 x2 x3 im) := by
  refine x_iinc (q := 3) (a := 1) (lv' := fun v2 => [(3, .int v2), (0, .ref (g.1 a0)), (1, .int a1), (2, .int x2)]) dX5_allIn_31 rfl (by decide) (by decide) (fun _ => rfl) (fun v2 => ?_)
  refine x_goto (tgt := 4) dX5_allIn_34 (by decide) ?_
  refine x_sub [1, 2, 3, 0] rfl ?_
  exact hk4 x2 v2
def f_X5_allIn_l1b (a0 : Nat) (a1 : Int32)  (im : IM) (k4 : Int32 → Int32 → Option (Int32)) (x2 : Int32) (x3 : Int32)  : Option (Int32) :=
  if (im a0 4) ≤ x3 then
    some x2
  else
    if inb x3 10 = true then
      if (im (a0 + 5 + ix x3) 6) = a1 then
        bnd (x2 ||| (jshl 1 x3)) fun v3 =>
        f_X5_allIn_j2 a0 a1 k4 v3 x3 im
      else
        f_X5_allIn_j2 a0 a1 k4 x2 x3 im
    else none
def f_X5_allIn_l1 (a0 : Nat) (a1 : Int32)  (im : IM) : Nat → Int32 → Int32 → Option (Int32)
  | 0, _, _ => none
  | n + 1, x2, x3 => f_X5_allIn_l1b a0 a1 im (f_X5_allIn_l1 a0 a1 im n) x2 x3
set_option maxRecDepth 20000 in
set_option maxHeartbeats 4000000 in
theorem s_X5_allIn_l1b {g : GX} {a0 : Nat} (h0 : xTo a0) (a1 : Int32)   (im : IM)  (k4 : Int32 → Int32 → Option (Int32)) (hk4 : ∀ (x2 : Int32) (x3 : Int32), X g md_X5_allIn (eR im) 4 [(0, .ref (g.1 a0)), (1, .int a1), (2, .int x2), (3, .int x3)] [] im (k4 x2 x3)) (x2 : Int32) (x3 : Int32)  : X g md_X5_allIn (eR im) 4 [(0, .ref (g.1 a0)), (1, .int a1), (2, .int x2), (3, .int x3)] [] im (f_X5_allIn_l1b a0 a1 im k4 x2 x3) := by
  refine x_iload_n (q := 3) rfl rfl dX5_allIn_4 ?_
  refine x_aload_n (q := 0) rfl rfl dX5_allIn_5 ?_
  refine x_get (C := RX5) (T := TX5) (xTo_o h0) (by decide) rfl in_X5 4 (by decide) fl_X5_27 xf_5_4 dX5_allIn_6 ?_
  refine x_icmp_ge (tgt := 37) dX5_allIn_9 (by decide) ?_ ?_
  · refine x_iload_n (q := 2) rfl rfl dX5_allIn_37 ?_
    exact x_iret rfl rfl dX5_allIn_38
  · refine x_aload_n (q := 0) rfl rfl dX5_allIn_12 ?_
    refine x_get (C := RX5) (T := TX5) (xTo_o h0) (by decide) rfl in_X5 2 (by decide) fl_X5_20 xf_5_2 dX5_allIn_13 ?_
    refine x_iload_n (q := 3) rfl rfl dX5_allIn_16 ?_
    refine x_aldT (xTo_3 h0) dX5_allIn_17 (fun hi1 => ?_)
    refine x_get (C := RX4) (T := TX4) (xTh h0 hi1) (by decide) rfl in_X4 6 (by decide) fl_X5_66 xf_4_6 dX5_allIn_18 ?_
    refine x_iload_n (q := 1) rfl rfl dX5_allIn_21 ?_
    refine x_icmp_ne (tgt := 31) dX5_allIn_22 (by decide) ?_ ?_
    · refine x_sub [0, 1, 2, 3] rfl ?_
      exact s_X5_allIn_j2 h0 a1 k4 im hk4 x2 x3
    · refine x_iload_n (q := 2) rfl rfl dX5_allIn_25 ?_
      refine x_iconst (v := (1)) (by decide) dX5_allIn_26 ?_
      refine x_iload_n (q := 3) rfl rfl dX5_allIn_27 ?_
      refine x_ishl dX5_allIn_28 ?_
      refine x_ior dX5_allIn_29 ?_
      refine x_bi (fun v3 => ?_)
      refine x_istore_n (lv' := [(2, .int v3), (0, .ref (g.1 a0)), (1, .int a1), (3, .int x3)]) rfl dX5_allIn_30 (by decide) rfl ?_
      refine x_sub [1, 2, 0, 3] rfl ?_
      exact s_X5_allIn_j2 h0 a1 k4 im hk4 v3 x3
set_option maxRecDepth 20000 in
set_option maxHeartbeats 4000000 in
theorem s_X5_allIn_l1 {g : GX} {a0 : Nat} (h0 : xTo a0) (a1 : Int32)   (im : IM)  (n : Nat) : ∀ (x2 : Int32) (x3 : Int32), X g md_X5_allIn (eR im) 4 [(0, .ref (g.1 a0)), (1, .int a1), (2, .int x2), (3, .int x3)] [] im (f_X5_allIn_l1 a0 a1 im n x2 x3) := by
  induction n with
  | zero => intro x2 x3; exact x_none
  | succ n ih => intro x2 x3; exact s_X5_allIn_l1b h0 a1 im (f_X5_allIn_l1 a0 a1 im n) ih x2 x3
def f_X5_allIn (a0 : Nat) (a1 : Int32) (im : IM) : Option (Int32) :=
  f_X5_allIn_l1 a0 a1 im xF 0 0
set_option maxRecDepth 20000 in
set_option maxHeartbeats 4000000 in
theorem s_X5_allIn {g : GX} {a0 : Nat} (h0 : xTo a0)   (a1 : Int32) (im : IM) : X g md_X5_allIn (eR im) 0 [(0, .ref (g.1 a0)), (1, .int a1)] [] im (f_X5_allIn a0 a1 im) := by
  refine x_iconst (v := (0)) (by decide) dX5_allIn_0 ?_
  refine x_istore_n (lv' := [(2, .int 0), (0, .ref (g.1 a0)), (1, .int a1)]) rfl dX5_allIn_1 (by decide) rfl ?_
  refine x_iconst (v := (0)) (by decide) dX5_allIn_2 ?_
  refine x_istore_n (lv' := [(3, .int 0), (2, .int 0), (0, .ref (g.1 a0)), (1, .int a1)]) rfl dX5_allIn_3 (by decide) rfl ?_
  refine x_sub [2, 3, 1, 0] rfl ?_
  exact s_X5_allIn_l1 h0 a1 im xF 0 0
theorem m_X5_allIn {g : GX} {a0 : Nat} (h0 : xTo a0)   (a1 : Int32) (im : IM) (r : Int32) (hr : f_X5_allIn a0 a1 im = some r) : xMet g 0 yX5_allIn cX5_allIn 4 (some .int) [.ref (g.1 a0), .int a1] im ((eR im) r) := x_met (by decide) (Nat.le_of_ble_eq_true rfl) rfl (s_X5_allIn h0 a1 im) r hr
abbrev md_X5_allOn : xM := (1, 4, RX5, cX5_allOn, (some .int))
def f_X5_allOn_j2 (a0 : Nat) (a1 : Int32) (k4 : Int32 → Int32 → Option (Int32)) (x2 : Int32) (x3 : Int32) (im : IM) : Option (Int32) :=
  bnd (x3 + 1) fun v2 =>
  k4 x2 v2
set_option maxRecDepth 20000 in
set_option maxHeartbeats 4000000 in
theorem s_X5_allOn_j2 {g : GX} {a0 : Nat} (h0 : xTo a0) (a1 : Int32)  (k4 : Int32 → Int32 → Option (Int32)) (im : IM) (hk4 : ∀ (x2 : Int32) (x3 : Int32), X g md_X5_allOn (eR im) 4 [(0, .ref (g.1 a0)), (1, .int a1), (2, .int x2), (3, .int x3)] [] im (k4 x2 x3)) (x2 : Int32) (x3 : Int32)  : X g md_X5_allOn (eR im) 43 [(0, .ref (g.1 a0)), (1, .int a1), (2, .int x2), (3, .int x3)] [] im (f_X5_allOn_j2 a0 a1 k4 x2 x3 im) := by
  refine x_iinc (q := 3) (a := 1) (lv' := fun v2 => [(3, .int v2), (0, .ref (g.1 a0)), (1, .int a1), (2, .int x2)]) dX5_allOn_43 rfl (by decide) (by decide) (fun _ => rfl) (fun v2 => ?_)
  refine x_goto (tgt := 4) dX5_allOn_46 (by decide) ?_
  refine x_sub [1, 2, 3, 0] rfl ?_
  exact hk4 x2 v2
def f_X5_allOn_l1b (a0 : Nat) (a1 : Int32)  (im : IM) (k4 : Int32 → Int32 → Option (Int32)) (x2 : Int32) (x3 : Int32)  : Option (Int32) :=
  if (im a0 4) ≤ x3 then
    some x2
  else
    if inb x3 10 = true then
      if (im (a0 + 5 + ix x3) 4) = a1 then
        if inb x3 10 = true then
          if (f_X4_isStanding (a0 + 5 + ix x3) im) = 0 then
            f_X5_allOn_j2 a0 a1 k4 x2 x3 im
          else
            bnd (x2 ||| (jshl 1 x3)) fun v4 =>
            f_X5_allOn_j2 a0 a1 k4 v4 x3 im
        else none
      else
        f_X5_allOn_j2 a0 a1 k4 x2 x3 im
    else none
def f_X5_allOn_l1 (a0 : Nat) (a1 : Int32)  (im : IM) : Nat → Int32 → Int32 → Option (Int32)
  | 0, _, _ => none
  | n + 1, x2, x3 => f_X5_allOn_l1b a0 a1 im (f_X5_allOn_l1 a0 a1 im n) x2 x3
set_option maxRecDepth 20000 in
set_option maxHeartbeats 4000000 in
theorem s_X5_allOn_l1b {g : GX} {a0 : Nat} (h0 : xTo a0) (a1 : Int32)   (im : IM)  (k4 : Int32 → Int32 → Option (Int32)) (hk4 : ∀ (x2 : Int32) (x3 : Int32), X g md_X5_allOn (eR im) 4 [(0, .ref (g.1 a0)), (1, .int a1), (2, .int x2), (3, .int x3)] [] im (k4 x2 x3)) (x2 : Int32) (x3 : Int32)  : X g md_X5_allOn (eR im) 4 [(0, .ref (g.1 a0)), (1, .int a1), (2, .int x2), (3, .int x3)] [] im (f_X5_allOn_l1b a0 a1 im k4 x2 x3) := by
  refine x_iload_n (q := 3) rfl rfl dX5_allOn_4 ?_
  refine x_aload_n (q := 0) rfl rfl dX5_allOn_5 ?_
  refine x_get (C := RX5) (T := TX5) (xTo_o h0) (by decide) rfl in_X5 4 (by decide) fl_X5_27 xf_5_4 dX5_allOn_6 ?_
  refine x_icmp_ge (tgt := 49) dX5_allOn_9 (by decide) ?_ ?_
  · refine x_iload_n (q := 2) rfl rfl dX5_allOn_49 ?_
    exact x_iret rfl rfl dX5_allOn_50
  · refine x_aload_n (q := 0) rfl rfl dX5_allOn_12 ?_
    refine x_get (C := RX5) (T := TX5) (xTo_o h0) (by decide) rfl in_X5 2 (by decide) fl_X5_20 xf_5_2 dX5_allOn_13 ?_
    refine x_iload_n (q := 3) rfl rfl dX5_allOn_16 ?_
    refine x_aldT (xTo_3 h0) dX5_allOn_17 (fun hi1 => ?_)
    refine x_get (C := RX4) (T := TX4) (xTh h0 hi1) (by decide) rfl in_X4 4 (by decide) fl_X5_87 xf_4_4 dX5_allOn_18 ?_
    refine x_iload_n (q := 1) rfl rfl dX5_allOn_21 ?_
    refine x_icmp_ne (tgt := 43) dX5_allOn_22 (by decide) ?_ ?_
    · refine x_sub [0, 1, 2, 3] rfl ?_
      exact s_X5_allOn_j2 h0 a1 k4 im hk4 x2 x3
    · refine x_aload_n (q := 0) rfl rfl dX5_allOn_25 ?_
      refine x_get (C := RX5) (T := TX5) (xTo_o h0) (by decide) rfl in_X5 2 (by decide) fl_X5_20 xf_5_2 dX5_allOn_26 ?_
      refine x_iload_n (q := 3) rfl rfl dX5_allOn_29 ?_
      refine x_aldT (xTo_3 h0) dX5_allOn_30 (fun hi3 => ?_)
      refine x_callVR (av := []) (st := []) (m_X4_isStanding (xTh h0 hi3)  im) (xTh h0 hi3) (by decide) rfl rfl (by decide) (by decide) lk_X5_119 cd_X4_isStanding xd_X4_isStanding rfl (Nat.le_of_ble_eq_true rfl) dX5_allOn_31 ?_
      refine x_if_eq (tgt := 43) dX5_allOn_34 (by decide) ?_ ?_
      · refine x_sub [0, 1, 2, 3] rfl ?_
        exact s_X5_allOn_j2 h0 a1 k4 im hk4 x2 x3
      · refine x_iload_n (q := 2) rfl rfl dX5_allOn_37 ?_
        refine x_iconst (v := (1)) (by decide) dX5_allOn_38 ?_
        refine x_iload_n (q := 3) rfl rfl dX5_allOn_39 ?_
        refine x_ishl dX5_allOn_40 ?_
        refine x_ior dX5_allOn_41 ?_
        refine x_bi (fun v4 => ?_)
        refine x_istore_n (lv' := [(2, .int v4), (0, .ref (g.1 a0)), (1, .int a1), (3, .int x3)]) rfl dX5_allOn_42 (by decide) rfl ?_
        refine x_sub [1, 2, 0, 3] rfl ?_
        exact s_X5_allOn_j2 h0 a1 k4 im hk4 v4 x3
set_option maxRecDepth 20000 in
set_option maxHeartbeats 4000000 in
theorem s_X5_allOn_l1 {g : GX} {a0 : Nat} (h0 : xTo a0) (a1 : Int32)   (im : IM)  (n : Nat) : ∀ (x2 : Int32) (x3 : Int32), X g md_X5_allOn (eR im) 4 [(0, .ref (g.1 a0)), (1, .int a1), (2, .int x2), (3, .int x3)] [] im (f_X5_allOn_l1 a0 a1 im n x2 x3) := by
  induction n with
  | zero => intro x2 x3; exact x_none
  | succ n ih => intro x2 x3; exact s_X5_allOn_l1b h0 a1 im (f_X5_allOn_l1 a0 a1 im n) ih x2 x3
def f_X5_allOn (a0 : Nat) (a1 : Int32) (im : IM) : Option (Int32) :=
  f_X5_allOn_l1 a0 a1 im xF 0 0
set_option maxRecDepth 20000 in
set_option maxHeartbeats 4000000 in
theorem s_X5_allOn {g : GX} {a0 : Nat} (h0 : xTo a0)   (a1 : Int32) (im : IM) : X g md_X5_allOn (eR im) 0 [(0, .ref (g.1 a0)), (1, .int a1)] [] im (f_X5_allOn a0 a1 im) := by
  refine x_iconst (v := (0)) (by decide) dX5_allOn_0 ?_
  refine x_istore_n (lv' := [(2, .int 0), (0, .ref (g.1 a0)), (1, .int a1)]) rfl dX5_allOn_1 (by decide) rfl ?_
  refine x_iconst (v := (0)) (by decide) dX5_allOn_2 ?_
  refine x_istore_n (lv' := [(3, .int 0), (2, .int 0), (0, .ref (g.1 a0)), (1, .int a1)]) rfl dX5_allOn_3 (by decide) rfl ?_
  refine x_sub [2, 3, 1, 0] rfl ?_
  exact s_X5_allOn_l1 h0 a1 im xF 0 0
theorem m_X5_allOn {g : GX} {a0 : Nat} (h0 : xTo a0)   (a1 : Int32) (im : IM) (r : Int32) (hr : f_X5_allOn a0 a1 im = some r) : xMet g 1 yX5_allOn cX5_allOn 4 (some .int) [.ref (g.1 a0), .int a1] im ((eR im) r) := x_met (by decide) (Nat.le_of_ble_eq_true rfl) rfl (s_X5_allOn h0 a1 im) r hr
abbrev md_X5_stopWithDamage : xM := (1, 3, RX5, cX5_stopWithDamage, none)
def f_X5_stopWithDamage_j2 (a0 : Nat) (a1 : Int32) (k2 : Int32 → IM → Option (IM)) (x2 : Int32) (im : IM) : Option (IM) :=
  bnd (x2 + 1) fun v1 =>
  k2 v1 im
set_option maxRecDepth 20000 in
set_option maxHeartbeats 4000000 in
theorem s_X5_stopWithDamage_j2 {g : GX} {a0 : Nat} (h0 : xTo a0) (a1 : Int32)  (k2 : Int32 → IM → Option (IM)) (hk2 : ∀ (x2 : Int32) (im : IM), X g md_X5_stopWithDamage eV 2 [(0, .ref (g.1 a0)), (1, .int a1), (2, .int x2)] [] im (k2 x2 im)) (x2 : Int32)  (im : IM) : X g md_X5_stopWithDamage eV 42 [(0, .ref (g.1 a0)), (1, .int a1), (2, .int x2)] [] im (f_X5_stopWithDamage_j2 a0 a1 k2 x2 im) := by
  refine x_iinc (q := 2) (a := 1) (lv' := fun v1 => [(2, .int v1), (0, .ref (g.1 a0)), (1, .int a1)]) dX5_stopWithDamage_42 rfl (by decide) (by decide) (fun _ => rfl) (fun v1 => ?_)
  refine x_goto (tgt := 2) dX5_stopWithDamage_45 (by decide) ?_
  refine x_sub [1, 2, 0] rfl ?_
  exact hk2 v1 im
def f_X5_stopWithDamage_l1b (a0 : Nat) (a1 : Int32)   (k2 : Int32 → IM → Option (IM)) (x2 : Int32) (im : IM) : Option (IM) :=
  if (im a0 4) ≤ x2 then
    some im
  else
    if (f_X6_has a1 x2) = 0 then
      f_X5_stopWithDamage_j2 a0 a1 k2 x2 im
    else
      if inb x2 10 = true then
        bnd (f_X4_stop (a0 + 5 + ix x2) im) fun m3 =>
        if inb x2 10 = true then
          bnd (up m3 (a0 + 5 + ix x2) 7 ((m3 (a0 + 5 + ix x2) 7) + 1)) fun m5 =>
          f_X5_stopWithDamage_j2 a0 a1 k2 x2 m5
        else none
      else none
def f_X5_stopWithDamage_l1 (a0 : Nat) (a1 : Int32)   : Nat → Int32 → IM → Option (IM)
  | 0, _, _ => none
  | n + 1, x2, im => f_X5_stopWithDamage_l1b a0 a1 (f_X5_stopWithDamage_l1 a0 a1 n) x2 im
set_option maxRecDepth 20000 in
set_option maxHeartbeats 4000000 in
theorem s_X5_stopWithDamage_l1b {g : GX} {a0 : Nat} (h0 : xTo a0) (a1 : Int32)    (k2 : Int32 → IM → Option (IM)) (hk2 : ∀ (x2 : Int32) (im : IM), X g md_X5_stopWithDamage eV 2 [(0, .ref (g.1 a0)), (1, .int a1), (2, .int x2)] [] im (k2 x2 im)) (x2 : Int32)  (im : IM) : X g md_X5_stopWithDamage eV 2 [(0, .ref (g.1 a0)), (1, .int a1), (2, .int x2)] [] im (f_X5_stopWithDamage_l1b a0 a1 k2 x2 im) := by
  refine x_iload_n (q := 2) rfl rfl dX5_stopWithDamage_2 ?_
  refine x_aload_n (q := 0) rfl rfl dX5_stopWithDamage_3 ?_
  refine x_get (C := RX5) (T := TX5) (xTo_o h0) (by decide) rfl in_X5 4 (by decide) fl_X5_27 xf_5_4 dX5_stopWithDamage_4 ?_
  refine x_icmp_ge (tgt := 48) dX5_stopWithDamage_7 (by decide) ?_ ?_
  · exact x_vret rfl rfl dX5_stopWithDamage_48
  · refine x_iload_n (q := 1) rfl rfl dX5_stopWithDamage_10 ?_
    refine x_iload_n (q := 2) rfl rfl dX5_stopWithDamage_11 ?_
    refine x_callSR (av := [.int a1, .int x2]) (st := []) (m_X6_has  a1 x2 im) rfl (by decide) (by decide) lk_X5_62 cd_X6_has xd_X6_has rfl (Nat.le_of_ble_eq_true rfl) dX5_stopWithDamage_12 ?_
    refine x_if_eq (tgt := 42) dX5_stopWithDamage_15 (by decide) ?_ ?_
    · refine x_sub [0, 1, 2] rfl ?_
      exact s_X5_stopWithDamage_j2 h0 a1 k2 hk2 x2 im
    · refine x_aload_n (q := 0) rfl rfl dX5_stopWithDamage_18 ?_
      refine x_get (C := RX5) (T := TX5) (xTo_o h0) (by decide) rfl in_X5 2 (by decide) fl_X5_20 xf_5_2 dX5_stopWithDamage_19 ?_
      refine x_iload_n (q := 2) rfl rfl dX5_stopWithDamage_22 ?_
      refine x_aldT (xTo_3 h0) dX5_stopWithDamage_23 (fun hi2 => ?_)
      refine x_callVV (av := []) (st := []) (m_X4_stop (xTh h0 hi2)  im) (xTh h0 hi2) (by decide) rfl rfl (by decide) (by decide) lk_X5_113 cd_X4_stop xd_X4_stop rfl (Nat.le_of_ble_eq_true rfl) dX5_stopWithDamage_24 ?_
      refine x_bm (fun m3 => ?_)
      refine x_aload_n (q := 0) rfl rfl dX5_stopWithDamage_27 ?_
      refine x_get (C := RX5) (T := TX5) (xTo_o h0) (by decide) rfl in_X5 2 (by decide) fl_X5_20 xf_5_2 dX5_stopWithDamage_28 ?_
      refine x_iload_n (q := 2) rfl rfl dX5_stopWithDamage_31 ?_
      refine x_aldT (xTo_3 h0) dX5_stopWithDamage_32 (fun hi4 => ?_)
      refine x_dup rfl dX5_stopWithDamage_33 ?_
      refine x_get (C := RX4) (T := TX4) (xTh h0 hi4) (by decide) rfl in_X4 7 (by decide) fl_X5_134 xf_4_7 dX5_stopWithDamage_34 ?_
      refine x_iconst (v := (1)) (by decide) dX5_stopWithDamage_37 ?_
      refine x_iadd dX5_stopWithDamage_38 ?_
      refine x_put (C := RX4) (T := TX4) (ty := .int) tyX4 tyX4_ok nmX4 (xTh h0 hi4) (by decide) rfl in_X4 7 (by decide) (by decide) fl_X5_134 rfl (by decide +kernel) rfl rfl dX5_stopWithDamage_39 ?_
      refine x_bm (fun m5 => ?_)
      refine x_sub [0, 1, 2] rfl ?_
      exact s_X5_stopWithDamage_j2 h0 a1 k2 hk2 x2 m5
set_option maxRecDepth 20000 in
set_option maxHeartbeats 4000000 in
theorem s_X5_stopWithDamage_l1 {g : GX} {a0 : Nat} (h0 : xTo a0) (a1 : Int32)    (n : Nat) : ∀ (x2 : Int32) (im : IM), X g md_X5_stopWithDamage eV 2 [(0, .ref (g.1 a0)), (1, .int a1), (2, .int x2)] [] im (f_X5_stopWithDamage_l1 a0 a1 n x2 im) := by
  induction n with
  | zero => intro x2 im; exact x_none
  | succ n ih => intro x2 im; exact s_X5_stopWithDamage_l1b h0 a1 (f_X5_stopWithDamage_l1 a0 a1 n) ih x2 im
def f_X5_stopWithDamage (a0 : Nat) (a1 : Int32) (im : IM) : Option (IM) :=
  f_X5_stopWithDamage_l1 a0 a1 xF 0 im
set_option maxRecDepth 20000 in
set_option maxHeartbeats 4000000 in
theorem s_X5_stopWithDamage {g : GX} {a0 : Nat} (h0 : xTo a0)   (a1 : Int32) (im : IM) : X g md_X5_stopWithDamage eV 0 [(0, .ref (g.1 a0)), (1, .int a1)] [] im (f_X5_stopWithDamage a0 a1 im) := by
  refine x_iconst (v := (0)) (by decide) dX5_stopWithDamage_0 ?_
  refine x_istore_n (lv' := [(2, .int 0), (0, .ref (g.1 a0)), (1, .int a1)]) rfl dX5_stopWithDamage_1 (by decide) rfl ?_
  refine x_sub [1, 2, 0] rfl ?_
  exact s_X5_stopWithDamage_l1 h0 a1 xF 0 im
theorem m_X5_stopWithDamage {g : GX} {a0 : Nat} (h0 : xTo a0)   (a1 : Int32) (im : IM) (r : IM) (hr : f_X5_stopWithDamage a0 a1 im = some r) : xMet g 1 yX5_stopWithDamage cX5_stopWithDamage 3 none [.ref (g.1 a0), .int a1] im (eV r) := x_met (by decide) (Nat.le_of_ble_eq_true rfl) rfl (s_X5_stopWithDamage h0 a1 im) r hr
abbrev md_X5_stopThoseThatMeet : xM := (2, 6, RX5, cX5_stopThoseThatMeet, (some .int))
def f_X5_stopThoseThatMeet_j2 (a0 : Nat) (a1 : Int32) (k4 : Int32 → Int32 → IM → Option (Int32 × IM)) (x2 : Int32) (x3 : Int32) (im : IM) : Option (Int32 × IM) :=
  bnd (x3 + 1) fun v2 =>
  k4 x2 v2 im
set_option maxRecDepth 20000 in
set_option maxHeartbeats 4000000 in
theorem s_X5_stopThoseThatMeet_j2 {g : GX} {a0 : Nat} (h0 : xTo a0) (a1 : Int32)  (k4 : Int32 → Int32 → IM → Option (Int32 × IM)) (hk4 : ∀ (x2 : Int32) (x3 : Int32) (im : IM), X g md_X5_stopThoseThatMeet eI 4 [(0, .ref (g.1 a0)), (1, .int a1), (2, .int x2), (3, .int x3)] [] im (k4 x2 x3 im)) (x2 : Int32) (x3 : Int32)  (im : IM) : X g md_X5_stopThoseThatMeet eI 89 [(0, .ref (g.1 a0)), (1, .int a1), (2, .int x2), (3, .int x3)] [] im (f_X5_stopThoseThatMeet_j2 a0 a1 k4 x2 x3 im) := by
  refine x_iinc (q := 3) (a := 1) (lv' := fun v2 => [(3, .int v2), (0, .ref (g.1 a0)), (1, .int a1), (2, .int x2)]) dX5_stopThoseThatMeet_89 rfl (by decide) (by decide) (fun _ => rfl) (fun v2 => ?_)
  refine x_goto (tgt := 4) dX5_stopThoseThatMeet_92 (by decide) ?_
  refine x_sub [1, 2, 3, 0] rfl ?_
  exact hk4 x2 v2 im
def f_X5_stopThoseThatMeet_l1b (a0 : Nat) (a1 : Int32)   (k4 : Int32 → Int32 → IM → Option (Int32 × IM)) (x2 : Int32) (x3 : Int32) (im : IM) : Option (Int32 × IM) :=
  if (im a0 4) ≤ x3 then
    some ((f_J6_bitCount_0f7a4 x2, im))
  else
    if inb x3 10 = true then
      if (f_X6_has (a1 &&& (x2 ^^^ ((-1)))) x3) = 0 then
        f_X5_stopThoseThatMeet_j2 a0 a1 k4 x2 x3 im
      else
        if (f_X4_isStanding (a0 + 5 + ix x3) im) = 0 then
          f_X5_stopThoseThatMeet_j2 a0 a1 k4 x2 x3 im
        else
          if (im (a0 + 5 + ix x3) 4) ≤ 0 then
            f_X5_stopThoseThatMeet_j2 a0 a1 k4 x2 x3 im
          else
            if 30 ≤ (im (a0 + 5 + ix x3) 4) then
              f_X5_stopThoseThatMeet_j2 a0 a1 k4 x2 x3 im
            else
              (f_X5_allOn a0 (im (a0 + 5 + ix x3) 4) im).bind fun r3 =>
              if (f_J6_bitCount_0f7a4 r3) ≤ 1 then
                f_X5_stopThoseThatMeet_j2 a0 a1 k4 x2 x3 im
              else
                (f_X5_stopWithDamage a0 r3 im).bind fun r4 =>
                bnd (x2 ||| r3) fun v5 =>
                f_X5_stopThoseThatMeet_j2 a0 a1 k4 v5 x3 r4
    else none
def f_X5_stopThoseThatMeet_l1 (a0 : Nat) (a1 : Int32)   : Nat → Int32 → Int32 → IM → Option (Int32 × IM)
  | 0, _, _, _ => none
  | n + 1, x2, x3, im => f_X5_stopThoseThatMeet_l1b a0 a1 (f_X5_stopThoseThatMeet_l1 a0 a1 n) x2 x3 im
set_option maxRecDepth 20000 in
set_option maxHeartbeats 4000000 in
theorem s_X5_stopThoseThatMeet_l1b {g : GX} {a0 : Nat} (h0 : xTo a0) (a1 : Int32)    (k4 : Int32 → Int32 → IM → Option (Int32 × IM)) (hk4 : ∀ (x2 : Int32) (x3 : Int32) (im : IM), X g md_X5_stopThoseThatMeet eI 4 [(0, .ref (g.1 a0)), (1, .int a1), (2, .int x2), (3, .int x3)] [] im (k4 x2 x3 im)) (x2 : Int32) (x3 : Int32)  (im : IM) : X g md_X5_stopThoseThatMeet eI 4 [(0, .ref (g.1 a0)), (1, .int a1), (2, .int x2), (3, .int x3)] [] im (f_X5_stopThoseThatMeet_l1b a0 a1 k4 x2 x3 im) := by
  refine x_iload_n (q := 3) rfl rfl dX5_stopThoseThatMeet_4 ?_
  refine x_aload_n (q := 0) rfl rfl dX5_stopThoseThatMeet_5 ?_
  refine x_get (C := RX5) (T := TX5) (xTo_o h0) (by decide) rfl in_X5 4 (by decide) fl_X5_27 xf_5_4 dX5_stopThoseThatMeet_6 ?_
  refine x_icmp_ge (tgt := 95) dX5_stopThoseThatMeet_9 (by decide) ?_ ?_
  · refine x_iload_n (q := 2) rfl rfl dX5_stopThoseThatMeet_95 ?_
    refine x_callSR (av := [.int x2]) (st := []) (m_J6_bitCount_0f7a4  x2 im) rfl (by decide) (by decide) lk_X5_125 cd_J6_bitCount_0f7a4 xd_J6_bitCount_0f7a4 rfl (Nat.le_of_ble_eq_true rfl) dX5_stopThoseThatMeet_96 ?_
    exact x_iret rfl rfl dX5_stopThoseThatMeet_99
  · refine x_aload_n (q := 0) rfl rfl dX5_stopThoseThatMeet_12 ?_
    refine x_get (C := RX5) (T := TX5) (xTo_o h0) (by decide) rfl in_X5 2 (by decide) fl_X5_20 xf_5_2 dX5_stopThoseThatMeet_13 ?_
    refine x_iload_n (q := 3) rfl rfl dX5_stopThoseThatMeet_16 ?_
    refine x_aldT (xTo_3 h0) dX5_stopThoseThatMeet_17 (fun hi1 => ?_)
    refine x_astore (lv' := [(4, .ref (g.1 ((a0 + 5 + ix x3)))), (0, .ref (g.1 a0)), (1, .int a1), (2, .int x2), (3, .int x3)]) dX5_stopThoseThatMeet_18 (by decide) rfl ?_
    refine x_iload_n (q := 2) rfl rfl dX5_stopThoseThatMeet_20 ?_
    refine x_iload_n (q := 3) rfl rfl dX5_stopThoseThatMeet_21 ?_
    refine x_iconst (v := (-1)) (by decide) dX5_stopThoseThatMeet_22 ?_
    refine x_ixor dX5_stopThoseThatMeet_23 ?_
    refine x_iand dX5_stopThoseThatMeet_24 ?_
    refine x_iload_n (q := 4) rfl rfl dX5_stopThoseThatMeet_25 ?_
    refine x_callSR (av := [.int (a1 &&& (x2 ^^^ ((-1)))), .int x3]) (st := []) (m_X6_has  ((a1 &&& (x2 ^^^ ((-1))))) x3 im) rfl (by decide) (by decide) lk_X5_62 cd_X6_has xd_X6_has rfl (Nat.le_of_ble_eq_true rfl) dX5_stopThoseThatMeet_26 ?_
    refine x_if_eq (tgt := 89) dX5_stopThoseThatMeet_29 (by decide) ?_ ?_
    · refine x_sub [1, 2, 3, 4] rfl ?_
      exact s_X5_stopThoseThatMeet_j2 h0 a1 k4 hk4 x2 x3 im
    · refine x_aload (q := 0) rfl dX5_stopThoseThatMeet_32 ?_
      refine x_callVR (av := []) (st := []) (m_X4_isStanding (xTh h0 hi1)  im) (xTh h0 hi1) (by decide) rfl rfl (by decide) (by decide) lk_X5_119 cd_X4_isStanding xd_X4_isStanding rfl (Nat.le_of_ble_eq_true rfl) dX5_stopThoseThatMeet_34 ?_
      refine x_if_eq (tgt := 89) dX5_stopThoseThatMeet_37 (by decide) ?_ ?_
      · refine x_sub [1, 2, 3, 4] rfl ?_
        exact s_X5_stopThoseThatMeet_j2 h0 a1 k4 hk4 x2 x3 im
      · refine x_aload (q := 0) rfl dX5_stopThoseThatMeet_40 ?_
        refine x_get (C := RX4) (T := TX4) (xTh h0 hi1) (by decide) rfl in_X4 4 (by decide) fl_X5_87 xf_4_4 dX5_stopThoseThatMeet_42 ?_
        refine x_if_le (tgt := 89) dX5_stopThoseThatMeet_45 (by decide) ?_ ?_
        · refine x_sub [1, 2, 3, 4] rfl ?_
          exact s_X5_stopThoseThatMeet_j2 h0 a1 k4 hk4 x2 x3 im
        · refine x_aload (q := 0) rfl dX5_stopThoseThatMeet_48 ?_
          refine x_get (C := RX4) (T := TX4) (xTh h0 hi1) (by decide) rfl in_X4 4 (by decide) fl_X5_87 xf_4_4 dX5_stopThoseThatMeet_50 ?_
          refine x_bipush (v := (30)) (by decide) dX5_stopThoseThatMeet_53 ?_
          refine x_icmp_ge (tgt := 89) dX5_stopThoseThatMeet_55 (by decide) ?_ ?_
          · refine x_sub [1, 2, 3, 4] rfl ?_
            exact s_X5_stopThoseThatMeet_j2 h0 a1 k4 hk4 x2 x3 im
          · refine x_aload_n (q := 1) rfl rfl dX5_stopThoseThatMeet_58 ?_
            refine x_aload (q := 0) rfl dX5_stopThoseThatMeet_59 ?_
            refine x_get (C := RX4) (T := TX4) (xTh h0 hi1) (by decide) rfl in_X4 4 (by decide) fl_X5_87 xf_4_4 dX5_stopThoseThatMeet_61 ?_
            refine x_bind (fun r3 er3 => ?_)
            refine x_callVR (av := [.int (im (a0 + 5 + ix x3) 4)]) (st := []) (m_X5_allOn h0 ((im (a0 + 5 + ix x3) 4)) im r3 er3) (xTo_o h0) (by decide) rfl rfl (by decide) (by decide) lk_X5_122 cd_X5_allOn xd_X5_allOn rfl (Nat.le_of_ble_eq_true rfl) dX5_stopThoseThatMeet_64 ?_
            refine x_istore (lv' := [(5, .int r3), (4, .ref (g.1 ((a0 + 5 + ix x3)))), (0, .ref (g.1 a0)), (1, .int a1), (2, .int x2), (3, .int x3)]) dX5_stopThoseThatMeet_67 (by decide) rfl ?_
            refine x_iload (q := 0) rfl dX5_stopThoseThatMeet_69 ?_
            refine x_callSR (av := [.int r3]) (st := []) (m_J6_bitCount_0f7a4  r3 im) rfl (by decide) (by decide) lk_X5_125 cd_J6_bitCount_0f7a4 xd_J6_bitCount_0f7a4 rfl (Nat.le_of_ble_eq_true rfl) dX5_stopThoseThatMeet_71 ?_
            refine x_iconst (v := (1)) (by decide) dX5_stopThoseThatMeet_74 ?_
            refine x_icmp_le (tgt := 89) dX5_stopThoseThatMeet_75 (by decide) ?_ ?_
            · refine x_sub [2, 3, 4, 5] rfl ?_
              exact s_X5_stopThoseThatMeet_j2 h0 a1 k4 hk4 x2 x3 im
            · refine x_aload_n (q := 2) rfl rfl dX5_stopThoseThatMeet_78 ?_
              refine x_iload (q := 0) rfl dX5_stopThoseThatMeet_79 ?_
              refine x_bind (fun r4 er4 => ?_)
              refine x_callVV (av := [.int r3]) (st := []) (m_X5_stopWithDamage h0 r3 im r4 er4) (xTo_o h0) (by decide) rfl rfl (by decide) (by decide) lk_X5_130 cd_X5_stopWithDamage xd_X5_stopWithDamage rfl (Nat.le_of_ble_eq_true rfl) dX5_stopThoseThatMeet_81 ?_
              refine x_iload_n (q := 4) rfl rfl dX5_stopThoseThatMeet_84 ?_
              refine x_iload (q := 0) rfl dX5_stopThoseThatMeet_85 ?_
              refine x_ior dX5_stopThoseThatMeet_87 ?_
              refine x_bi (fun v5 => ?_)
              refine x_istore_n (lv' := [(2, .int v5), (5, .int r3), (4, .ref (g.1 ((a0 + 5 + ix x3)))), (0, .ref (g.1 a0)), (1, .int a1), (3, .int x3)]) rfl dX5_stopThoseThatMeet_88 (by decide) rfl ?_
              refine x_sub [3, 4, 0, 5] rfl ?_
              exact s_X5_stopThoseThatMeet_j2 h0 a1 k4 hk4 v5 x3 r4
set_option maxRecDepth 20000 in
set_option maxHeartbeats 4000000 in
theorem s_X5_stopThoseThatMeet_l1 {g : GX} {a0 : Nat} (h0 : xTo a0) (a1 : Int32)    (n : Nat) : ∀ (x2 : Int32) (x3 : Int32) (im : IM), X g md_X5_stopThoseThatMeet eI 4 [(0, .ref (g.1 a0)), (1, .int a1), (2, .int x2), (3, .int x3)] [] im (f_X5_stopThoseThatMeet_l1 a0 a1 n x2 x3 im) := by
  induction n with
  | zero => intro x2 x3 im; exact x_none
  | succ n ih => intro x2 x3 im; exact s_X5_stopThoseThatMeet_l1b h0 a1 (f_X5_stopThoseThatMeet_l1 a0 a1 n) ih x2 x3 im
def f_X5_stopThoseThatMeet (a0 : Nat) (a1 : Int32) (im : IM) : Option (Int32 × IM) :=
  f_X5_stopThoseThatMeet_l1 a0 a1 xF 0 0 im
set_option maxRecDepth 20000 in
set_option maxHeartbeats 4000000 in
theorem s_X5_stopThoseThatMeet {g : GX} {a0 : Nat} (h0 : xTo a0)   (a1 : Int32) (im : IM) : X g md_X5_stopThoseThatMeet eI 0 [(0, .ref (g.1 a0)), (1, .int a1)] [] im (f_X5_stopThoseThatMeet a0 a1 im) := by
  refine x_iconst (v := (0)) (by decide) dX5_stopThoseThatMeet_0 ?_
  refine x_istore_n (lv' := [(2, .int 0), (0, .ref (g.1 a0)), (1, .int a1)]) rfl dX5_stopThoseThatMeet_1 (by decide) rfl ?_
  refine x_iconst (v := (0)) (by decide) dX5_stopThoseThatMeet_2 ?_
  refine x_istore_n (lv' := [(3, .int 0), (2, .int 0), (0, .ref (g.1 a0)), (1, .int a1)]) rfl dX5_stopThoseThatMeet_3 (by decide) rfl ?_
  refine x_sub [2, 3, 1, 0] rfl ?_
  exact s_X5_stopThoseThatMeet_l1 h0 a1 xF 0 0 im
theorem m_X5_stopThoseThatMeet {g : GX} {a0 : Nat} (h0 : xTo a0)   (a1 : Int32) (im : IM) (r : Int32 × IM) (hr : f_X5_stopThoseThatMeet a0 a1 im = some r) : xMet g 2 yX5_stopThoseThatMeet cX5_stopThoseThatMeet 6 (some .int) [.ref (g.1 a0), .int a1] im (eI r) := x_met (by decide) (Nat.le_of_ble_eq_true rfl) rfl (s_X5_stopThoseThatMeet h0 a1 im) r hr
abbrev md_X5_passMinute : xM := (3, 4, RX5, cX5_passMinute, (some .int))
def f_X5_passMinute_j1 (a0 : Nat)  (x2 : Int32) (im : IM) : Option (Int32 × IM) :=
  bnd (up im a0 7 ((im a0 7) + 1)) fun m2 =>
  some ((x2, m2))
set_option maxRecDepth 20000 in
set_option maxHeartbeats 4000000 in
theorem s_X5_passMinute_j1 {g : GX} {a0 : Nat} (h0 : xTo a0)    (x2 : Int32)  (im : IM) : X g md_X5_passMinute eI 56 [(0, .ref (g.1 a0)), (2, .int x2)] [] im (f_X5_passMinute_j1 a0 x2 im) := by
  refine x_aload_n (q := 0) rfl rfl dX5_passMinute_56 ?_
  refine x_dup rfl dX5_passMinute_57 ?_
  refine x_get (C := RX5) (T := TX5) (xTo_o h0) (by decide) rfl in_X5 7 (by decide) fl_X5_37 xf_5_7 dX5_passMinute_58 ?_
  refine x_iconst (v := (1)) (by decide) dX5_passMinute_61 ?_
  refine x_iadd dX5_passMinute_62 ?_
  refine x_put (C := RX5) (T := TX5) (ty := .int) tyX5 tyX5_ok nmX5 (xTo_o h0) (by decide) rfl in_X5 7 (by decide) (by decide) fl_X5_37 rfl (by decide +kernel) rfl rfl dX5_passMinute_63 ?_
  refine x_bm (fun m2 => ?_)
  refine x_iload_n (q := 1) rfl rfl dX5_passMinute_66 ?_
  exact x_iret rfl rfl dX5_passMinute_67
def f_X5_passMinute_j3 (a0 : Nat) (k14 : Int32 → Int32 → IM → Option (Int32 × IM)) (x1 : Int32) (x3 : Int32) (im : IM) : Option (Int32 × IM) :=
  bnd (x3 + 1) fun v4 =>
  k14 x1 v4 im
set_option maxRecDepth 20000 in
set_option maxHeartbeats 4000000 in
theorem s_X5_passMinute_j3 {g : GX} {a0 : Nat} (h0 : xTo a0)  (k14 : Int32 → Int32 → IM → Option (Int32 × IM)) (hk14 : ∀ (x1 : Int32) (x3 : Int32) (im : IM), X g md_X5_passMinute eI 14 [(0, .ref (g.1 a0)), (1, .int x1), (3, .int x3)] [] im (k14 x1 x3 im)) (x1 : Int32) (x3 : Int32)  (im : IM) : X g md_X5_passMinute eI 44 [(0, .ref (g.1 a0)), (1, .int x1), (3, .int x3)] [] im (f_X5_passMinute_j3 a0 k14 x1 x3 im) := by
  refine x_iinc (q := 2) (a := 1) (lv' := fun v4 => [(3, .int v4), (0, .ref (g.1 a0)), (1, .int x1)]) dX5_passMinute_44 rfl (by decide) (by decide) (fun _ => rfl) (fun v4 => ?_)
  refine x_goto (tgt := 14) dX5_passMinute_47 (by decide) ?_
  refine x_sub [1, 2, 0] rfl ?_
  exact hk14 x1 v4 im
def f_X5_passMinute_l2b (a0 : Nat)   (k14 : Int32 → Int32 → IM → Option (Int32 × IM)) (x1 : Int32) (x3 : Int32) (im : IM) : Option (Int32 × IM) :=
  if (im a0 4) ≤ x3 then
    (f_X5_stopThoseThatMeet a0 x1 im).bind fun r3 =>
    f_X5_passMinute_j1 a0 r3.1 r3.2
  else
    if (f_X6_has x1 x3) = 0 then
      f_X5_passMinute_j3 a0 k14 x1 x3 im
    else
      if inb x3 10 = true then
        (f_X5_rollOn a0 (a0 + 5 + ix x3) (im a0 7) im).bind fun r6 =>
        f_X5_passMinute_j3 a0 k14 x1 x3 r6
      else none
def f_X5_passMinute_l2 (a0 : Nat)   : Nat → Int32 → Int32 → IM → Option (Int32 × IM)
  | 0, _, _, _ => none
  | n + 1, x1, x3, im => f_X5_passMinute_l2b a0 (f_X5_passMinute_l2 a0 n) x1 x3 im
set_option maxRecDepth 20000 in
set_option maxHeartbeats 4000000 in
theorem s_X5_passMinute_l2b {g : GX} {a0 : Nat} (h0 : xTo a0)    (k14 : Int32 → Int32 → IM → Option (Int32 × IM)) (hk14 : ∀ (x1 : Int32) (x3 : Int32) (im : IM), X g md_X5_passMinute eI 14 [(0, .ref (g.1 a0)), (1, .int x1), (3, .int x3)] [] im (k14 x1 x3 im)) (x1 : Int32) (x3 : Int32)  (im : IM) : X g md_X5_passMinute eI 14 [(0, .ref (g.1 a0)), (1, .int x1), (3, .int x3)] [] im (f_X5_passMinute_l2b a0 k14 x1 x3 im) := by
  refine x_iload_n (q := 2) rfl rfl dX5_passMinute_14 ?_
  refine x_aload_n (q := 0) rfl rfl dX5_passMinute_15 ?_
  refine x_get (C := RX5) (T := TX5) (xTo_o h0) (by decide) rfl in_X5 4 (by decide) fl_X5_27 xf_5_4 dX5_passMinute_16 ?_
  refine x_icmp_ge (tgt := 50) dX5_passMinute_19 (by decide) ?_ ?_
  · refine x_aload_n (q := 0) rfl rfl dX5_passMinute_50 ?_
    refine x_iload_n (q := 1) rfl rfl dX5_passMinute_51 ?_
    refine x_bind (fun r3 er3 => ?_)
    refine x_callVI (av := [.int x1]) (st := []) (m_X5_stopThoseThatMeet h0 x1 im r3 er3) (xTo_o h0) (by decide) rfl rfl (by decide) (by decide) lk_X5_81 cd_X5_stopThoseThatMeet xd_X5_stopThoseThatMeet rfl (Nat.le_of_ble_eq_true rfl) dX5_passMinute_52 ?_
    refine x_istore_n (lv' := [(2, .int r3.1), (0, .ref (g.1 a0)), (1, .int x1), (3, .int x3)]) rfl dX5_passMinute_55 (by decide) rfl ?_
    refine x_sub [1, 0] rfl ?_
    exact s_X5_passMinute_j1 h0 r3.1 r3.2
  · refine x_iload_n (q := 1) rfl rfl dX5_passMinute_22 ?_
    refine x_iload_n (q := 2) rfl rfl dX5_passMinute_23 ?_
    refine x_callSR (av := [.int x1, .int x3]) (st := []) (m_X6_has  x1 x3 im) rfl (by decide) (by decide) lk_X5_62 cd_X6_has xd_X6_has rfl (Nat.le_of_ble_eq_true rfl) dX5_passMinute_24 ?_
    refine x_if_eq (tgt := 44) dX5_passMinute_27 (by decide) ?_ ?_
    · refine x_sub [0, 1, 2] rfl ?_
      exact s_X5_passMinute_j3 h0 k14 hk14 x1 x3 im
    · refine x_aload_n (q := 0) rfl rfl dX5_passMinute_30 ?_
      refine x_aload_n (q := 0) rfl rfl dX5_passMinute_31 ?_
      refine x_get (C := RX5) (T := TX5) (xTo_o h0) (by decide) rfl in_X5 2 (by decide) fl_X5_20 xf_5_2 dX5_passMinute_32 ?_
      refine x_iload_n (q := 2) rfl rfl dX5_passMinute_35 ?_
      refine x_aldT (xTo_3 h0) dX5_passMinute_36 (fun hi5 => ?_)
      refine x_aload_n (q := 0) rfl rfl dX5_passMinute_37 ?_
      refine x_get (C := RX5) (T := TX5) (xTo_o h0) (by decide) rfl in_X5 7 (by decide) fl_X5_37 xf_5_7 dX5_passMinute_38 ?_
      refine x_bind (fun r6 er6 => ?_)
      refine x_callVV (av := [.ref (g.1 ((a0 + 5 + ix x3))), .int (im a0 7)]) (st := []) (m_X5_rollOn h0 (xTh h0 hi5) ((im a0 7)) im r6 er6) (xTo_o h0) (by decide) rfl rfl (by decide) (by decide) lk_X5_77 cd_X5_rollOn xd_X5_rollOn rfl (Nat.le_of_ble_eq_true rfl) dX5_passMinute_41 ?_
      refine x_sub [0, 1, 2] rfl ?_
      exact s_X5_passMinute_j3 h0 k14 hk14 x1 x3 r6
set_option maxRecDepth 20000 in
set_option maxHeartbeats 4000000 in
theorem s_X5_passMinute_l2 {g : GX} {a0 : Nat} (h0 : xTo a0)    (n : Nat) : ∀ (x1 : Int32) (x3 : Int32) (im : IM), X g md_X5_passMinute eI 14 [(0, .ref (g.1 a0)), (1, .int x1), (3, .int x3)] [] im (f_X5_passMinute_l2 a0 n x1 x3 im) := by
  induction n with
  | zero => intro x1 x3 im; exact x_none
  | succ n ih => intro x1 x3 im; exact s_X5_passMinute_l2b h0 (f_X5_passMinute_l2 a0 n) ih x1 x3 im
def f_X5_passMinute (a0 : Nat) (im : IM) : Option (Int32 × IM) :=
  (f_X5_allIn a0 1 im).bind fun r1 =>
  if r1 = 0 then
    f_X5_passMinute_j1 a0 0 im
  else
    f_X5_passMinute_l2 a0 xF r1 0 im
set_option maxRecDepth 20000 in
set_option maxHeartbeats 4000000 in
theorem s_X5_passMinute {g : GX} {a0 : Nat} (h0 : xTo a0)  (im : IM) : X g md_X5_passMinute eI 0 [(0, .ref (g.1 a0))] [] im (f_X5_passMinute a0 im) := by
  refine x_aload_n (q := 0) rfl rfl dX5_passMinute_0 ?_
  refine x_iconst (v := (1)) (by decide) dX5_passMinute_1 ?_
  refine x_bind (fun r1 er1 => ?_)
  refine x_callVR (av := [.int 1]) (st := []) (m_X5_allIn h0 1 im r1 er1) (xTo_o h0) (by decide) rfl rfl (by decide) (by decide) lk_X5_73 cd_X5_allIn xd_X5_allIn rfl (Nat.le_of_ble_eq_true rfl) dX5_passMinute_2 ?_
  refine x_istore_n (lv' := [(1, .int r1), (0, .ref (g.1 a0))]) rfl dX5_passMinute_5 (by decide) rfl ?_
  refine x_iconst (v := (0)) (by decide) dX5_passMinute_6 ?_
  refine x_istore_n (lv' := [(2, .int 0), (1, .int r1), (0, .ref (g.1 a0))]) rfl dX5_passMinute_7 (by decide) rfl ?_
  refine x_iload_n (q := 1) rfl rfl dX5_passMinute_8 ?_
  refine x_if_eq (tgt := 56) dX5_passMinute_9 (by decide) ?_ ?_
  · refine x_sub [2, 0] rfl ?_
    exact s_X5_passMinute_j1 h0 0 im
  · refine x_iconst (v := (0)) (by decide) dX5_passMinute_12 ?_
    refine x_istore_n (lv' := [(3, .int 0), (2, .int 0), (1, .int r1), (0, .ref (g.1 a0))]) rfl dX5_passMinute_13 (by decide) rfl ?_
    refine x_sub [3, 2, 0] rfl ?_
    exact s_X5_passMinute_l2 h0 xF r1 0 im
theorem m_X5_passMinute {g : GX} {a0 : Nat} (h0 : xTo a0)  (im : IM) (r : Int32 × IM) (hr : f_X5_passMinute a0 im = some r) : xMet g 3 yX5_passMinute cX5_passMinute 4 (some .int) [.ref (g.1 a0)] im (eI r) := x_met (by decide) (Nat.le_of_ble_eq_true rfl) rfl (s_X5_passMinute h0 im) r hr
abbrev md_X5_passMinutes : xM := (4, 4, RX5, cX5_passMinutes, (some .int))
def f_X5_passMinutes_l1b (a0 : Nat) (a1 : Int32)   (k4 : Int32 → Int32 → IM → Option (Int32 × IM)) (x2 : Int32) (x3 : Int32) (im : IM) : Option (Int32 × IM) :=
  if a1 ≤ x3 then
    some ((x2, im))
  else
    (f_X5_passMinute a0 im).bind fun r1 =>
    bnd (x2 + r1.1) fun v2 =>
    bnd (x3 + 1) fun v3 =>
    k4 v2 v3 r1.2
def f_X5_passMinutes_l1 (a0 : Nat) (a1 : Int32)   : Nat → Int32 → Int32 → IM → Option (Int32 × IM)
  | 0, _, _, _ => none
  | n + 1, x2, x3, im => f_X5_passMinutes_l1b a0 a1 (f_X5_passMinutes_l1 a0 a1 n) x2 x3 im
set_option maxRecDepth 20000 in
set_option maxHeartbeats 4000000 in
theorem s_X5_passMinutes_l1b {g : GX} {a0 : Nat} (h0 : xTo a0) (a1 : Int32)    (k4 : Int32 → Int32 → IM → Option (Int32 × IM)) (hk4 : ∀ (x2 : Int32) (x3 : Int32) (im : IM), X g md_X5_passMinutes eI 4 [(0, .ref (g.1 a0)), (1, .int a1), (2, .int x2), (3, .int x3)] [] im (k4 x2 x3 im)) (x2 : Int32) (x3 : Int32)  (im : IM) : X g md_X5_passMinutes eI 4 [(0, .ref (g.1 a0)), (1, .int a1), (2, .int x2), (3, .int x3)] [] im (f_X5_passMinutes_l1b a0 a1 k4 x2 x3 im) := by
  refine x_iload_n (q := 3) rfl rfl dX5_passMinutes_4 ?_
  refine x_iload_n (q := 1) rfl rfl dX5_passMinutes_5 ?_
  refine x_icmp_ge (tgt := 22) dX5_passMinutes_6 (by decide) ?_ ?_
  · refine x_iload_n (q := 2) rfl rfl dX5_passMinutes_22 ?_
    exact x_iret rfl rfl dX5_passMinutes_23
  · refine x_iload_n (q := 2) rfl rfl dX5_passMinutes_9 ?_
    refine x_aload_n (q := 0) rfl rfl dX5_passMinutes_10 ?_
    refine x_bind (fun r1 er1 => ?_)
    refine x_callVI (av := []) (st := [.int x2]) (m_X5_passMinute h0  im r1 er1) (xTo_o h0) (by decide) rfl rfl (by decide) (by decide) lk_X5_69 cd_X5_passMinute xd_X5_passMinute rfl (Nat.le_of_ble_eq_true rfl) dX5_passMinutes_11 ?_
    refine x_iadd dX5_passMinutes_14 ?_
    refine x_bi (fun v2 => ?_)
    refine x_istore_n (lv' := [(2, .int v2), (0, .ref (g.1 a0)), (1, .int a1), (3, .int x3)]) rfl dX5_passMinutes_15 (by decide) rfl ?_
    refine x_iinc (q := 3) (a := 1) (lv' := fun v3 => [(3, .int v3), (2, .int v2), (0, .ref (g.1 a0)), (1, .int a1)]) dX5_passMinutes_16 rfl (by decide) (by decide) (fun _ => rfl) (fun v3 => ?_)
    refine x_goto (tgt := 4) dX5_passMinutes_19 (by decide) ?_
    refine x_sub [2, 3, 1, 0] rfl ?_
    exact hk4 v2 v3 r1.2
set_option maxRecDepth 20000 in
set_option maxHeartbeats 4000000 in
theorem s_X5_passMinutes_l1 {g : GX} {a0 : Nat} (h0 : xTo a0) (a1 : Int32)    (n : Nat) : ∀ (x2 : Int32) (x3 : Int32) (im : IM), X g md_X5_passMinutes eI 4 [(0, .ref (g.1 a0)), (1, .int a1), (2, .int x2), (3, .int x3)] [] im (f_X5_passMinutes_l1 a0 a1 n x2 x3 im) := by
  induction n with
  | zero => intro x2 x3 im; exact x_none
  | succ n ih => intro x2 x3 im; exact s_X5_passMinutes_l1b h0 a1 (f_X5_passMinutes_l1 a0 a1 n) ih x2 x3 im
def f_X5_passMinutes (a0 : Nat) (a1 : Int32) (im : IM) : Option (Int32 × IM) :=
  f_X5_passMinutes_l1 a0 a1 xF 0 0 im
set_option maxRecDepth 20000 in
set_option maxHeartbeats 4000000 in
theorem s_X5_passMinutes {g : GX} {a0 : Nat} (h0 : xTo a0)   (a1 : Int32) (im : IM) : X g md_X5_passMinutes eI 0 [(0, .ref (g.1 a0)), (1, .int a1)] [] im (f_X5_passMinutes a0 a1 im) := by
  refine x_iconst (v := (0)) (by decide) dX5_passMinutes_0 ?_
  refine x_istore_n (lv' := [(2, .int 0), (0, .ref (g.1 a0)), (1, .int a1)]) rfl dX5_passMinutes_1 (by decide) rfl ?_
  refine x_iconst (v := (0)) (by decide) dX5_passMinutes_2 ?_
  refine x_istore_n (lv' := [(3, .int 0), (2, .int 0), (0, .ref (g.1 a0)), (1, .int a1)]) rfl dX5_passMinutes_3 (by decide) rfl ?_
  refine x_sub [2, 3, 1, 0] rfl ?_
  exact s_X5_passMinutes_l1 h0 a1 xF 0 0 im
theorem m_X5_passMinutes {g : GX} {a0 : Nat} (h0 : xTo a0)   (a1 : Int32) (im : IM) (r : Int32 × IM) (hr : f_X5_passMinutes a0 a1 im = some r) : xMet g 4 yX5_passMinutes cX5_passMinutes 4 (some .int) [.ref (g.1 a0), .int a1] im (eI r) := x_met (by decide) (Nat.le_of_ble_eq_true rfl) rfl (s_X5_passMinutes h0 a1 im) r hr
abbrev md_X5_firstMeeting : xM := (4, 3, RX5, cX5_firstMeeting, (some .int))
def f_X5_firstMeeting_j2 (a0 : Nat) (a1 : Int32)   (im : IM) : Option (Int32 × IM) :=
  some ((0, im))
set_option maxRecDepth 20000 in
set_option maxHeartbeats 4000000 in
theorem s_X5_firstMeeting_j2 {g : GX} {a0 : Nat} (h0 : xTo a0) (a1 : Int32)      (im : IM) : X g md_X5_firstMeeting eI 30 [] [] im (f_X5_firstMeeting_j2 a0 a1 im) := by
  refine x_iconst (v := (0)) (by decide) dX5_firstMeeting_30 ?_
  exact x_iret rfl rfl dX5_firstMeeting_31
def f_X5_firstMeeting_l1b (a0 : Nat) (a1 : Int32)   (k2 : Int32 → IM → Option (Int32 × IM)) (x2 : Int32) (im : IM) : Option (Int32 × IM) :=
  if a1 < x2 then
    f_X5_firstMeeting_j2 a0 a1 im
  else
    (f_X5_allIn a0 1 im).bind fun r1 =>
    if r1 = 0 then
      f_X5_firstMeeting_j2 a0 a1 im
    else
      (f_X5_passMinute a0 im).bind fun r2 =>
      if r2.1 ≤ 0 then
        bnd (x2 + 1) fun v3 =>
        k2 v3 r2.2
      else
        some ((x2, r2.2))
def f_X5_firstMeeting_l1 (a0 : Nat) (a1 : Int32)   : Nat → Int32 → IM → Option (Int32 × IM)
  | 0, _, _ => none
  | n + 1, x2, im => f_X5_firstMeeting_l1b a0 a1 (f_X5_firstMeeting_l1 a0 a1 n) x2 im
set_option maxRecDepth 20000 in
set_option maxHeartbeats 4000000 in
theorem s_X5_firstMeeting_l1b {g : GX} {a0 : Nat} (h0 : xTo a0) (a1 : Int32)    (k2 : Int32 → IM → Option (Int32 × IM)) (hk2 : ∀ (x2 : Int32) (im : IM), X g md_X5_firstMeeting eI 2 [(0, .ref (g.1 a0)), (1, .int a1), (2, .int x2)] [] im (k2 x2 im)) (x2 : Int32)  (im : IM) : X g md_X5_firstMeeting eI 2 [(0, .ref (g.1 a0)), (1, .int a1), (2, .int x2)] [] im (f_X5_firstMeeting_l1b a0 a1 k2 x2 im) := by
  refine x_iload_n (q := 2) rfl rfl dX5_firstMeeting_2 ?_
  refine x_iload_n (q := 1) rfl rfl dX5_firstMeeting_3 ?_
  refine x_icmp_gt (tgt := 30) dX5_firstMeeting_4 (by decide) ?_ ?_
  · refine x_sub [] rfl ?_
    exact s_X5_firstMeeting_j2 h0 a1 im
  · refine x_aload_n (q := 0) rfl rfl dX5_firstMeeting_7 ?_
    refine x_iconst (v := (1)) (by decide) dX5_firstMeeting_8 ?_
    refine x_bind (fun r1 er1 => ?_)
    refine x_callVR (av := [.int 1]) (st := []) (m_X5_allIn h0 1 im r1 er1) (xTo_o h0) (by decide) rfl rfl (by decide) (by decide) lk_X5_73 cd_X5_allIn xd_X5_allIn rfl (Nat.le_of_ble_eq_true rfl) dX5_firstMeeting_9 ?_
    refine x_if_eq (tgt := 30) dX5_firstMeeting_12 (by decide) ?_ ?_
    · refine x_sub [] rfl ?_
      exact s_X5_firstMeeting_j2 h0 a1 im
    · refine x_aload_n (q := 0) rfl rfl dX5_firstMeeting_15 ?_
      refine x_bind (fun r2 er2 => ?_)
      refine x_callVI (av := []) (st := []) (m_X5_passMinute h0  im r2 er2) (xTo_o h0) (by decide) rfl rfl (by decide) (by decide) lk_X5_69 cd_X5_passMinute xd_X5_passMinute rfl (Nat.le_of_ble_eq_true rfl) dX5_firstMeeting_16 ?_
      refine x_if_le (tgt := 24) dX5_firstMeeting_19 (by decide) ?_ ?_
      · refine x_iinc (q := 2) (a := 1) (lv' := fun v3 => [(2, .int v3), (0, .ref (g.1 a0)), (1, .int a1)]) dX5_firstMeeting_24 rfl (by decide) (by decide) (fun _ => rfl) (fun v3 => ?_)
        refine x_goto (tgt := 2) dX5_firstMeeting_27 (by decide) ?_
        refine x_sub [1, 2, 0] rfl ?_
        exact hk2 v3 r2.2
      · refine x_iload_n (q := 2) rfl rfl dX5_firstMeeting_22 ?_
        exact x_iret rfl rfl dX5_firstMeeting_23
set_option maxRecDepth 20000 in
set_option maxHeartbeats 4000000 in
theorem s_X5_firstMeeting_l1 {g : GX} {a0 : Nat} (h0 : xTo a0) (a1 : Int32)    (n : Nat) : ∀ (x2 : Int32) (im : IM), X g md_X5_firstMeeting eI 2 [(0, .ref (g.1 a0)), (1, .int a1), (2, .int x2)] [] im (f_X5_firstMeeting_l1 a0 a1 n x2 im) := by
  induction n with
  | zero => intro x2 im; exact x_none
  | succ n ih => intro x2 im; exact s_X5_firstMeeting_l1b h0 a1 (f_X5_firstMeeting_l1 a0 a1 n) ih x2 im
def f_X5_firstMeeting (a0 : Nat) (a1 : Int32) (im : IM) : Option (Int32 × IM) :=
  f_X5_firstMeeting_l1 a0 a1 xF 1 im
set_option maxRecDepth 20000 in
set_option maxHeartbeats 4000000 in
theorem s_X5_firstMeeting {g : GX} {a0 : Nat} (h0 : xTo a0)   (a1 : Int32) (im : IM) : X g md_X5_firstMeeting eI 0 [(0, .ref (g.1 a0)), (1, .int a1)] [] im (f_X5_firstMeeting a0 a1 im) := by
  refine x_iconst (v := (1)) (by decide) dX5_firstMeeting_0 ?_
  refine x_istore_n (lv' := [(2, .int 1), (0, .ref (g.1 a0)), (1, .int a1)]) rfl dX5_firstMeeting_1 (by decide) rfl ?_
  refine x_sub [1, 2, 0] rfl ?_
  exact s_X5_firstMeeting_l1 h0 a1 xF 1 im
theorem m_X5_firstMeeting {g : GX} {a0 : Nat} (h0 : xTo a0)   (a1 : Int32) (im : IM) (r : Int32 × IM) (hr : f_X5_firstMeeting a0 a1 im = some r) : xMet g 4 yX5_firstMeeting cX5_firstMeeting 3 (some .int) [.ref (g.1 a0), .int a1] im (eI r) := x_met (by decide) (Nat.le_of_ble_eq_true rfl) rfl (s_X5_firstMeeting h0 a1 im) r hr
abbrev md_X5_restingOnFoot : xM := (2, 1, RX5, cX5_restingOnFoot, (some .int))
def f_X5_restingOnFoot (a0 : Nat) (im : IM) : Option (Int32) :=
  (f_X5_allIn a0 0 im).bind fun r1 =>
  (f_X5_allOn a0 30 im).bind fun r2 =>
  some (r1 &&& r2)
set_option maxRecDepth 20000 in
set_option maxHeartbeats 4000000 in
theorem s_X5_restingOnFoot {g : GX} {a0 : Nat} (h0 : xTo a0)  (im : IM) : X g md_X5_restingOnFoot (eR im) 0 [(0, .ref (g.1 a0))] [] im (f_X5_restingOnFoot a0 im) := by
  refine x_aload_n (q := 0) rfl rfl dX5_restingOnFoot_0 ?_
  refine x_iconst (v := (0)) (by decide) dX5_restingOnFoot_1 ?_
  refine x_bind (fun r1 er1 => ?_)
  refine x_callVR (av := [.int 0]) (st := []) (m_X5_allIn h0 0 im r1 er1) (xTo_o h0) (by decide) rfl rfl (by decide) (by decide) lk_X5_73 cd_X5_allIn xd_X5_allIn rfl (Nat.le_of_ble_eq_true rfl) dX5_restingOnFoot_2 ?_
  refine x_aload_n (q := 0) rfl rfl dX5_restingOnFoot_5 ?_
  refine x_bipush (v := (30)) (by decide) dX5_restingOnFoot_6 ?_
  refine x_bind (fun r2 er2 => ?_)
  refine x_callVR (av := [.int 30]) (st := [.int r1]) (m_X5_allOn h0 30 im r2 er2) (xTo_o h0) (by decide) rfl rfl (by decide) (by decide) lk_X5_122 cd_X5_allOn xd_X5_allOn rfl (Nat.le_of_ble_eq_true rfl) dX5_restingOnFoot_8 ?_
  refine x_iand dX5_restingOnFoot_11 ?_
  exact x_iret rfl rfl dX5_restingOnFoot_12
theorem m_X5_restingOnFoot {g : GX} {a0 : Nat} (h0 : xTo a0)  (im : IM) (r : Int32) (hr : f_X5_restingOnFoot a0 im = some r) : xMet g 2 yX5_restingOnFoot cX5_restingOnFoot 1 (some .int) [.ref (g.1 a0)] im ((eR im) r) := x_met (by decide) (Nat.le_of_ble_eq_true rfl) rfl (s_X5_restingOnFoot h0 im) r hr
abbrev md_X5_damageOfAll : xM := (0, 3, RX5, cX5_damageOfAll, (some .int))
def f_X5_damageOfAll_l1b (a0 : Nat)  (im : IM) (k4 : Int32 → Int32 → Option (Int32)) (x1 : Int32) (x2 : Int32)  : Option (Int32) :=
  if (im a0 4) ≤ x2 then
    some x1
  else
    if inb x2 10 = true then
      bnd (x1 + (im (a0 + 5 + ix x2) 7)) fun v2 =>
      bnd (x2 + 1) fun v3 =>
      k4 v2 v3
    else none
def f_X5_damageOfAll_l1 (a0 : Nat)  (im : IM) : Nat → Int32 → Int32 → Option (Int32)
  | 0, _, _ => none
  | n + 1, x1, x2 => f_X5_damageOfAll_l1b a0 im (f_X5_damageOfAll_l1 a0 im n) x1 x2
set_option maxRecDepth 20000 in
set_option maxHeartbeats 4000000 in
theorem s_X5_damageOfAll_l1b {g : GX} {a0 : Nat} (h0 : xTo a0)   (im : IM)  (k4 : Int32 → Int32 → Option (Int32)) (hk4 : ∀ (x1 : Int32) (x2 : Int32), X g md_X5_damageOfAll (eR im) 4 [(0, .ref (g.1 a0)), (1, .int x1), (2, .int x2)] [] im (k4 x1 x2)) (x1 : Int32) (x2 : Int32)  : X g md_X5_damageOfAll (eR im) 4 [(0, .ref (g.1 a0)), (1, .int x1), (2, .int x2)] [] im (f_X5_damageOfAll_l1b a0 im k4 x1 x2) := by
  refine x_iload_n (q := 2) rfl rfl dX5_damageOfAll_4 ?_
  refine x_aload_n (q := 0) rfl rfl dX5_damageOfAll_5 ?_
  refine x_get (C := RX5) (T := TX5) (xTo_o h0) (by decide) rfl in_X5 4 (by decide) fl_X5_27 xf_5_4 dX5_damageOfAll_6 ?_
  refine x_icmp_ge (tgt := 30) dX5_damageOfAll_9 (by decide) ?_ ?_
  · refine x_iload_n (q := 1) rfl rfl dX5_damageOfAll_30 ?_
    exact x_iret rfl rfl dX5_damageOfAll_31
  · refine x_iload_n (q := 1) rfl rfl dX5_damageOfAll_12 ?_
    refine x_aload_n (q := 0) rfl rfl dX5_damageOfAll_13 ?_
    refine x_get (C := RX5) (T := TX5) (xTo_o h0) (by decide) rfl in_X5 2 (by decide) fl_X5_20 xf_5_2 dX5_damageOfAll_14 ?_
    refine x_iload_n (q := 2) rfl rfl dX5_damageOfAll_17 ?_
    refine x_aldT (xTo_3 h0) dX5_damageOfAll_18 (fun hi1 => ?_)
    refine x_get (C := RX4) (T := TX4) (xTh h0 hi1) (by decide) rfl in_X4 7 (by decide) fl_X5_134 xf_4_7 dX5_damageOfAll_19 ?_
    refine x_iadd dX5_damageOfAll_22 ?_
    refine x_bi (fun v2 => ?_)
    refine x_istore_n (lv' := [(1, .int v2), (0, .ref (g.1 a0)), (2, .int x2)]) rfl dX5_damageOfAll_23 (by decide) rfl ?_
    refine x_iinc (q := 2) (a := 1) (lv' := fun v3 => [(2, .int v3), (1, .int v2), (0, .ref (g.1 a0))]) dX5_damageOfAll_24 rfl (by decide) (by decide) (fun _ => rfl) (fun v3 => ?_)
    refine x_goto (tgt := 4) dX5_damageOfAll_27 (by decide) ?_
    refine x_sub [2, 1, 0] rfl ?_
    exact hk4 v2 v3
set_option maxRecDepth 20000 in
set_option maxHeartbeats 4000000 in
theorem s_X5_damageOfAll_l1 {g : GX} {a0 : Nat} (h0 : xTo a0)   (im : IM)  (n : Nat) : ∀ (x1 : Int32) (x2 : Int32), X g md_X5_damageOfAll (eR im) 4 [(0, .ref (g.1 a0)), (1, .int x1), (2, .int x2)] [] im (f_X5_damageOfAll_l1 a0 im n x1 x2) := by
  induction n with
  | zero => intro x1 x2; exact x_none
  | succ n ih => intro x1 x2; exact s_X5_damageOfAll_l1b h0 im (f_X5_damageOfAll_l1 a0 im n) ih x1 x2
def f_X5_damageOfAll (a0 : Nat) (im : IM) : Option (Int32) :=
  f_X5_damageOfAll_l1 a0 im xF 0 0
set_option maxRecDepth 20000 in
set_option maxHeartbeats 4000000 in
theorem s_X5_damageOfAll {g : GX} {a0 : Nat} (h0 : xTo a0)  (im : IM) : X g md_X5_damageOfAll (eR im) 0 [(0, .ref (g.1 a0))] [] im (f_X5_damageOfAll a0 im) := by
  refine x_iconst (v := (0)) (by decide) dX5_damageOfAll_0 ?_
  refine x_istore_n (lv' := [(1, .int 0), (0, .ref (g.1 a0))]) rfl dX5_damageOfAll_1 (by decide) rfl ?_
  refine x_iconst (v := (0)) (by decide) dX5_damageOfAll_2 ?_
  refine x_istore_n (lv' := [(2, .int 0), (1, .int 0), (0, .ref (g.1 a0))]) rfl dX5_damageOfAll_3 (by decide) rfl ?_
  refine x_sub [2, 1, 0] rfl ?_
  exact s_X5_damageOfAll_l1 h0 im xF 0 0
theorem m_X5_damageOfAll {g : GX} {a0 : Nat} (h0 : xTo a0)  (im : IM) (r : Int32) (hr : f_X5_damageOfAll a0 im = some r) : xMet g 0 yX5_damageOfAll cX5_damageOfAll 3 (some .int) [.ref (g.1 a0)] im ((eR im) r) := x_met (by decide) (Nat.le_of_ble_eq_true rfl) rfl (s_X5_damageOfAll h0 im) r hr
abbrev md_X5_weightOfAll : xM := (0, 3, RX5, cX5_weightOfAll, (some .int))
def f_X5_weightOfAll_l1b (a0 : Nat)  (im : IM) (k4 : Int32 → Int32 → Option (Int32)) (x1 : Int32) (x2 : Int32)  : Option (Int32) :=
  if (im a0 4) ≤ x2 then
    some x1
  else
    if inb x2 10 = true then
      bnd (x1 + (im (a0 + 5 + ix x2) 1)) fun v2 =>
      bnd (x2 + 1) fun v3 =>
      k4 v2 v3
    else none
def f_X5_weightOfAll_l1 (a0 : Nat)  (im : IM) : Nat → Int32 → Int32 → Option (Int32)
  | 0, _, _ => none
  | n + 1, x1, x2 => f_X5_weightOfAll_l1b a0 im (f_X5_weightOfAll_l1 a0 im n) x1 x2
set_option maxRecDepth 20000 in
set_option maxHeartbeats 4000000 in
theorem s_X5_weightOfAll_l1b {g : GX} {a0 : Nat} (h0 : xTo a0)   (im : IM)  (k4 : Int32 → Int32 → Option (Int32)) (hk4 : ∀ (x1 : Int32) (x2 : Int32), X g md_X5_weightOfAll (eR im) 4 [(0, .ref (g.1 a0)), (1, .int x1), (2, .int x2)] [] im (k4 x1 x2)) (x1 : Int32) (x2 : Int32)  : X g md_X5_weightOfAll (eR im) 4 [(0, .ref (g.1 a0)), (1, .int x1), (2, .int x2)] [] im (f_X5_weightOfAll_l1b a0 im k4 x1 x2) := by
  refine x_iload_n (q := 2) rfl rfl dX5_weightOfAll_4 ?_
  refine x_aload_n (q := 0) rfl rfl dX5_weightOfAll_5 ?_
  refine x_get (C := RX5) (T := TX5) (xTo_o h0) (by decide) rfl in_X5 4 (by decide) fl_X5_27 xf_5_4 dX5_weightOfAll_6 ?_
  refine x_icmp_ge (tgt := 30) dX5_weightOfAll_9 (by decide) ?_ ?_
  · refine x_iload_n (q := 1) rfl rfl dX5_weightOfAll_30 ?_
    exact x_iret rfl rfl dX5_weightOfAll_31
  · refine x_iload_n (q := 1) rfl rfl dX5_weightOfAll_12 ?_
    refine x_aload_n (q := 0) rfl rfl dX5_weightOfAll_13 ?_
    refine x_get (C := RX5) (T := TX5) (xTo_o h0) (by decide) rfl in_X5 2 (by decide) fl_X5_20 xf_5_2 dX5_weightOfAll_14 ?_
    refine x_iload_n (q := 2) rfl rfl dX5_weightOfAll_17 ?_
    refine x_aldT (xTo_3 h0) dX5_weightOfAll_18 (fun hi1 => ?_)
    refine x_get (C := RX4) (T := TX4) (xTh h0 hi1) (by decide) rfl in_X4 1 (by decide) fl_X5_137 xf_4_1 dX5_weightOfAll_19 ?_
    refine x_iadd dX5_weightOfAll_22 ?_
    refine x_bi (fun v2 => ?_)
    refine x_istore_n (lv' := [(1, .int v2), (0, .ref (g.1 a0)), (2, .int x2)]) rfl dX5_weightOfAll_23 (by decide) rfl ?_
    refine x_iinc (q := 2) (a := 1) (lv' := fun v3 => [(2, .int v3), (1, .int v2), (0, .ref (g.1 a0))]) dX5_weightOfAll_24 rfl (by decide) (by decide) (fun _ => rfl) (fun v3 => ?_)
    refine x_goto (tgt := 4) dX5_weightOfAll_27 (by decide) ?_
    refine x_sub [2, 1, 0] rfl ?_
    exact hk4 v2 v3
set_option maxRecDepth 20000 in
set_option maxHeartbeats 4000000 in
theorem s_X5_weightOfAll_l1 {g : GX} {a0 : Nat} (h0 : xTo a0)   (im : IM)  (n : Nat) : ∀ (x1 : Int32) (x2 : Int32), X g md_X5_weightOfAll (eR im) 4 [(0, .ref (g.1 a0)), (1, .int x1), (2, .int x2)] [] im (f_X5_weightOfAll_l1 a0 im n x1 x2) := by
  induction n with
  | zero => intro x1 x2; exact x_none
  | succ n ih => intro x1 x2; exact s_X5_weightOfAll_l1b h0 im (f_X5_weightOfAll_l1 a0 im n) ih x1 x2
def f_X5_weightOfAll (a0 : Nat) (im : IM) : Option (Int32) :=
  f_X5_weightOfAll_l1 a0 im xF 0 0
set_option maxRecDepth 20000 in
set_option maxHeartbeats 4000000 in
theorem s_X5_weightOfAll {g : GX} {a0 : Nat} (h0 : xTo a0)  (im : IM) : X g md_X5_weightOfAll (eR im) 0 [(0, .ref (g.1 a0))] [] im (f_X5_weightOfAll a0 im) := by
  refine x_iconst (v := (0)) (by decide) dX5_weightOfAll_0 ?_
  refine x_istore_n (lv' := [(1, .int 0), (0, .ref (g.1 a0))]) rfl dX5_weightOfAll_1 (by decide) rfl ?_
  refine x_iconst (v := (0)) (by decide) dX5_weightOfAll_2 ?_
  refine x_istore_n (lv' := [(2, .int 0), (1, .int 0), (0, .ref (g.1 a0))]) rfl dX5_weightOfAll_3 (by decide) rfl ?_
  refine x_sub [2, 1, 0] rfl ?_
  exact s_X5_weightOfAll_l1 h0 im xF 0 0
theorem m_X5_weightOfAll {g : GX} {a0 : Nat} (h0 : xTo a0)  (im : IM) (r : Int32) (hr : f_X5_weightOfAll a0 im = some r) : xMet g 0 yX5_weightOfAll cX5_weightOfAll 3 (some .int) [.ref (g.1 a0)] im ((eR im) r) := x_met (by decide) (Nat.le_of_ble_eq_true rfl) rfl (s_X5_weightOfAll h0 im) r hr
abbrev md_X5_heaviest : xM := (1, 4, RX5, cX5_heaviest, (some .int))
def f_X5_heaviest_j2 (a0 : Nat) (a1 : Int32) (k4 : Int32 → Int32 → Option (Int32)) (x2 : Int32) (x3 : Int32) (im : IM) : Option (Int32) :=
  bnd (x3 + 1) fun v1 =>
  k4 x2 v1
set_option maxRecDepth 20000 in
set_option maxHeartbeats 4000000 in
theorem s_X5_heaviest_j2 {g : GX} {a0 : Nat} (h0 : xTo a0) (a1 : Int32)  (k4 : Int32 → Int32 → Option (Int32)) (im : IM) (hk4 : ∀ (x2 : Int32) (x3 : Int32), X g md_X5_heaviest (eR im) 4 [(0, .ref (g.1 a0)), (1, .int a1), (2, .int x2), (3, .int x3)] [] im (k4 x2 x3)) (x2 : Int32) (x3 : Int32)  : X g md_X5_heaviest (eR im) 34 [(0, .ref (g.1 a0)), (1, .int a1), (2, .int x2), (3, .int x3)] [] im (f_X5_heaviest_j2 a0 a1 k4 x2 x3 im) := by
  refine x_iinc (q := 3) (a := 1) (lv' := fun v1 => [(3, .int v1), (0, .ref (g.1 a0)), (1, .int a1), (2, .int x2)]) dX5_heaviest_34 rfl (by decide) (by decide) (fun _ => rfl) (fun v1 => ?_)
  refine x_goto (tgt := 4) dX5_heaviest_37 (by decide) ?_
  refine x_sub [1, 2, 3, 0] rfl ?_
  exact hk4 x2 v1
def f_X5_heaviest_l1b (a0 : Nat) (a1 : Int32)  (im : IM) (k4 : Int32 → Int32 → Option (Int32)) (x2 : Int32) (x3 : Int32)  : Option (Int32) :=
  if (im a0 4) ≤ x3 then
    some x2
  else
    if (f_X6_has a1 x3) = 0 then
      f_X5_heaviest_j2 a0 a1 k4 x2 x3 im
    else
      if inb x3 10 = true then
        bnd (jmax x2 (im (a0 + 5 + ix x3) 1)) fun v3 =>
        f_X5_heaviest_j2 a0 a1 k4 v3 x3 im
      else none
def f_X5_heaviest_l1 (a0 : Nat) (a1 : Int32)  (im : IM) : Nat → Int32 → Int32 → Option (Int32)
  | 0, _, _ => none
  | n + 1, x2, x3 => f_X5_heaviest_l1b a0 a1 im (f_X5_heaviest_l1 a0 a1 im n) x2 x3
set_option maxRecDepth 20000 in
set_option maxHeartbeats 4000000 in
theorem s_X5_heaviest_l1b {g : GX} {a0 : Nat} (h0 : xTo a0) (a1 : Int32)   (im : IM)  (k4 : Int32 → Int32 → Option (Int32)) (hk4 : ∀ (x2 : Int32) (x3 : Int32), X g md_X5_heaviest (eR im) 4 [(0, .ref (g.1 a0)), (1, .int a1), (2, .int x2), (3, .int x3)] [] im (k4 x2 x3)) (x2 : Int32) (x3 : Int32)  : X g md_X5_heaviest (eR im) 4 [(0, .ref (g.1 a0)), (1, .int a1), (2, .int x2), (3, .int x3)] [] im (f_X5_heaviest_l1b a0 a1 im k4 x2 x3) := by
  refine x_iload_n (q := 3) rfl rfl dX5_heaviest_4 ?_
  refine x_aload_n (q := 0) rfl rfl dX5_heaviest_5 ?_
  refine x_get (C := RX5) (T := TX5) (xTo_o h0) (by decide) rfl in_X5 4 (by decide) fl_X5_27 xf_5_4 dX5_heaviest_6 ?_
  refine x_icmp_ge (tgt := 40) dX5_heaviest_9 (by decide) ?_ ?_
  · refine x_iload_n (q := 2) rfl rfl dX5_heaviest_40 ?_
    exact x_iret rfl rfl dX5_heaviest_41
  · refine x_iload_n (q := 1) rfl rfl dX5_heaviest_12 ?_
    refine x_iload_n (q := 3) rfl rfl dX5_heaviest_13 ?_
    refine x_callSR (av := [.int a1, .int x3]) (st := []) (m_X6_has  a1 x3 im) rfl (by decide) (by decide) lk_X5_62 cd_X6_has xd_X6_has rfl (Nat.le_of_ble_eq_true rfl) dX5_heaviest_14 ?_
    refine x_if_eq (tgt := 34) dX5_heaviest_17 (by decide) ?_ ?_
    · refine x_sub [0, 1, 2, 3] rfl ?_
      exact s_X5_heaviest_j2 h0 a1 k4 im hk4 x2 x3
    · refine x_iload_n (q := 2) rfl rfl dX5_heaviest_20 ?_
      refine x_aload_n (q := 0) rfl rfl dX5_heaviest_21 ?_
      refine x_get (C := RX5) (T := TX5) (xTo_o h0) (by decide) rfl in_X5 2 (by decide) fl_X5_20 xf_5_2 dX5_heaviest_22 ?_
      refine x_iload_n (q := 3) rfl rfl dX5_heaviest_25 ?_
      refine x_aldT (xTo_3 h0) dX5_heaviest_26 (fun hi2 => ?_)
      refine x_get (C := RX4) (T := TX4) (xTh h0 hi2) (by decide) rfl in_X4 1 (by decide) fl_X5_137 xf_4_1 dX5_heaviest_27 ?_
      refine x_mmax lk_X5_102 (by decide) (Nat.le_of_ble_eq_true rfl) dX5_heaviest_30 ?_
      refine x_bi (fun v3 => ?_)
      refine x_istore_n (lv' := [(2, .int v3), (0, .ref (g.1 a0)), (1, .int a1), (3, .int x3)]) rfl dX5_heaviest_33 (by decide) rfl ?_
      refine x_sub [1, 2, 0, 3] rfl ?_
      exact s_X5_heaviest_j2 h0 a1 k4 im hk4 v3 x3
set_option maxRecDepth 20000 in
set_option maxHeartbeats 4000000 in
theorem s_X5_heaviest_l1 {g : GX} {a0 : Nat} (h0 : xTo a0) (a1 : Int32)   (im : IM)  (n : Nat) : ∀ (x2 : Int32) (x3 : Int32), X g md_X5_heaviest (eR im) 4 [(0, .ref (g.1 a0)), (1, .int a1), (2, .int x2), (3, .int x3)] [] im (f_X5_heaviest_l1 a0 a1 im n x2 x3) := by
  induction n with
  | zero => intro x2 x3; exact x_none
  | succ n ih => intro x2 x3; exact s_X5_heaviest_l1b h0 a1 im (f_X5_heaviest_l1 a0 a1 im n) ih x2 x3
def f_X5_heaviest (a0 : Nat) (a1 : Int32) (im : IM) : Option (Int32) :=
  f_X5_heaviest_l1 a0 a1 im xF 0 0
set_option maxRecDepth 20000 in
set_option maxHeartbeats 4000000 in
theorem s_X5_heaviest {g : GX} {a0 : Nat} (h0 : xTo a0)   (a1 : Int32) (im : IM) : X g md_X5_heaviest (eR im) 0 [(0, .ref (g.1 a0)), (1, .int a1)] [] im (f_X5_heaviest a0 a1 im) := by
  refine x_iconst (v := (0)) (by decide) dX5_heaviest_0 ?_
  refine x_istore_n (lv' := [(2, .int 0), (0, .ref (g.1 a0)), (1, .int a1)]) rfl dX5_heaviest_1 (by decide) rfl ?_
  refine x_iconst (v := (0)) (by decide) dX5_heaviest_2 ?_
  refine x_istore_n (lv' := [(3, .int 0), (2, .int 0), (0, .ref (g.1 a0)), (1, .int a1)]) rfl dX5_heaviest_3 (by decide) rfl ?_
  refine x_sub [2, 3, 1, 0] rfl ?_
  exact s_X5_heaviest_l1 h0 a1 im xF 0 0
theorem m_X5_heaviest {g : GX} {a0 : Nat} (h0 : xTo a0)   (a1 : Int32) (im : IM) (r : Int32) (hr : f_X5_heaviest a0 a1 im = some r) : xMet g 1 yX5_heaviest cX5_heaviest 4 (some .int) [.ref (g.1 a0), .int a1] im ((eR im) r) := x_met (by decide) (Nat.le_of_ble_eq_true rfl) rfl (s_X5_heaviest h0 a1 im) r hr
abbrev md_X5_cellsOfStone : xM := (0, 3, RX5, cX5_cellsOfStone, (some .int))
def f_X5_cellsOfStone_j2 (a0 : Nat) (k4 : Int32 → Int32 → Option (Int32)) (x2 : Int32) (s0 : Int32) (s1 : Int32) (im : IM) : Option (Int32) :=
  bnd (s1 + s0) fun v1 =>
  bnd (x2 + 1) fun v2 =>
  k4 v1 v2
set_option maxRecDepth 20000 in
set_option maxHeartbeats 4000000 in
theorem s_X5_cellsOfStone_j2 {g : GX} {a0 : Nat} (h0 : xTo a0)  (k4 : Int32 → Int32 → Option (Int32)) (im : IM) (hk4 : ∀ (x1 : Int32) (x2 : Int32), X g md_X5_cellsOfStone (eR im) 4 [(0, .ref (g.1 a0)), (1, .int x1), (2, .int x2)] [] im (k4 x1 x2)) (x2 : Int32) (s0 : Int32) (s1 : Int32)  : X g md_X5_cellsOfStone (eR im) 25 [(0, .ref (g.1 a0)), (2, .int x2)] [.int s0, .int s1] im (f_X5_cellsOfStone_j2 a0 k4 x2 s0 s1 im) := by
  refine x_iadd dX5_cellsOfStone_25 ?_
  refine x_bi (fun v1 => ?_)
  refine x_istore_n (lv' := [(1, .int v1), (0, .ref (g.1 a0)), (2, .int x2)]) rfl dX5_cellsOfStone_26 (by decide) rfl ?_
  refine x_iinc (q := 2) (a := 1) (lv' := fun v2 => [(2, .int v2), (1, .int v1), (0, .ref (g.1 a0))]) dX5_cellsOfStone_27 rfl (by decide) (by decide) (fun _ => rfl) (fun v2 => ?_)
  refine x_goto (tgt := 4) dX5_cellsOfStone_30 (by decide) ?_
  refine x_sub [2, 1, 0] rfl ?_
  exact hk4 v1 v2
def f_X5_cellsOfStone_l1b (a0 : Nat)  (im : IM) (k4 : Int32 → Int32 → Option (Int32)) (x1 : Int32) (x2 : Int32)  : Option (Int32) :=
  if 31 ≤ x2 then
    some x1
  else
    if inb x2 31 = true then
      if (im (a0 + 2) (ix x2)) = 0 then
        f_X5_cellsOfStone_j2 a0 k4 x2 1 x1 im
      else
        f_X5_cellsOfStone_j2 a0 k4 x2 0 x1 im
    else none
def f_X5_cellsOfStone_l1 (a0 : Nat)  (im : IM) : Nat → Int32 → Int32 → Option (Int32)
  | 0, _, _ => none
  | n + 1, x1, x2 => f_X5_cellsOfStone_l1b a0 im (f_X5_cellsOfStone_l1 a0 im n) x1 x2
set_option maxRecDepth 20000 in
set_option maxHeartbeats 4000000 in
theorem s_X5_cellsOfStone_l1b {g : GX} {a0 : Nat} (h0 : xTo a0)   (im : IM)  (k4 : Int32 → Int32 → Option (Int32)) (hk4 : ∀ (x1 : Int32) (x2 : Int32), X g md_X5_cellsOfStone (eR im) 4 [(0, .ref (g.1 a0)), (1, .int x1), (2, .int x2)] [] im (k4 x1 x2)) (x1 : Int32) (x2 : Int32)  : X g md_X5_cellsOfStone (eR im) 4 [(0, .ref (g.1 a0)), (1, .int x1), (2, .int x2)] [] im (f_X5_cellsOfStone_l1b a0 im k4 x1 x2) := by
  refine x_iload_n (q := 2) rfl rfl dX5_cellsOfStone_4 ?_
  refine x_bipush (v := (31)) (by decide) dX5_cellsOfStone_5 ?_
  refine x_icmp_ge (tgt := 33) dX5_cellsOfStone_7 (by decide) ?_ ?_
  · refine x_iload_n (q := 1) rfl rfl dX5_cellsOfStone_33 ?_
    exact x_iret rfl rfl dX5_cellsOfStone_34
  · refine x_iload_n (q := 1) rfl rfl dX5_cellsOfStone_10 ?_
    refine x_aload_n (q := 0) rfl rfl dX5_cellsOfStone_11 ?_
    refine x_get (C := RX5) (T := TX5) (xTo_o h0) (by decide) rfl in_X5 1 (by decide) fl_X5_15 xf_5_1 dX5_cellsOfStone_12 ?_
    refine x_iload_n (q := 2) rfl rfl dX5_cellsOfStone_15 ?_
    refine x_iald (xTo_2 h0) dX5_cellsOfStone_16 ?_
    refine x_if_ne (tgt := 24) dX5_cellsOfStone_17 (by decide) ?_ ?_
    · refine x_iconst (v := (0)) (by decide) dX5_cellsOfStone_24 ?_
      refine x_sub [0, 2] rfl ?_
      exact s_X5_cellsOfStone_j2 h0 k4 im hk4 x2 0 x1
    · refine x_iconst (v := (1)) (by decide) dX5_cellsOfStone_20 ?_
      refine x_goto (tgt := 25) dX5_cellsOfStone_21 (by decide) ?_
      refine x_sub [0, 2] rfl ?_
      exact s_X5_cellsOfStone_j2 h0 k4 im hk4 x2 1 x1
set_option maxRecDepth 20000 in
set_option maxHeartbeats 4000000 in
theorem s_X5_cellsOfStone_l1 {g : GX} {a0 : Nat} (h0 : xTo a0)   (im : IM)  (n : Nat) : ∀ (x1 : Int32) (x2 : Int32), X g md_X5_cellsOfStone (eR im) 4 [(0, .ref (g.1 a0)), (1, .int x1), (2, .int x2)] [] im (f_X5_cellsOfStone_l1 a0 im n x1 x2) := by
  induction n with
  | zero => intro x1 x2; exact x_none
  | succ n ih => intro x1 x2; exact s_X5_cellsOfStone_l1b h0 im (f_X5_cellsOfStone_l1 a0 im n) ih x1 x2
def f_X5_cellsOfStone (a0 : Nat) (im : IM) : Option (Int32) :=
  f_X5_cellsOfStone_l1 a0 im xF 0 0
set_option maxRecDepth 20000 in
set_option maxHeartbeats 4000000 in
theorem s_X5_cellsOfStone {g : GX} {a0 : Nat} (h0 : xTo a0)  (im : IM) : X g md_X5_cellsOfStone (eR im) 0 [(0, .ref (g.1 a0))] [] im (f_X5_cellsOfStone a0 im) := by
  refine x_iconst (v := (0)) (by decide) dX5_cellsOfStone_0 ?_
  refine x_istore_n (lv' := [(1, .int 0), (0, .ref (g.1 a0))]) rfl dX5_cellsOfStone_1 (by decide) rfl ?_
  refine x_iconst (v := (0)) (by decide) dX5_cellsOfStone_2 ?_
  refine x_istore_n (lv' := [(2, .int 0), (1, .int 0), (0, .ref (g.1 a0))]) rfl dX5_cellsOfStone_3 (by decide) rfl ?_
  refine x_sub [2, 1, 0] rfl ?_
  exact s_X5_cellsOfStone_l1 h0 im xF 0 0
theorem m_X5_cellsOfStone {g : GX} {a0 : Nat} (h0 : xTo a0)  (im : IM) (r : Int32) (hr : f_X5_cellsOfStone a0 im = some r) : xMet g 0 yX5_cellsOfStone cX5_cellsOfStone 3 (some .int) [.ref (g.1 a0)] im ((eR im) r) := x_met (by decide) (Nat.le_of_ble_eq_true rfl) rfl (s_X5_cellsOfStone h0 im) r hr
abbrev md_X5_spotsInUse : xM := (0, 3, RX5, cX5_spotsInUse, (some .int))
def f_X5_spotsInUse_j2 (a0 : Nat) (k4 : Int32 → Int32 → Option (Int32)) (x2 : Int32) (s0 : Int32) (s1 : Int32) (im : IM) : Option (Int32) :=
  bnd (s1 + s0) fun v1 =>
  bnd (x2 + 1) fun v2 =>
  k4 v1 v2
set_option maxRecDepth 20000 in
set_option maxHeartbeats 4000000 in
theorem s_X5_spotsInUse_j2 {g : GX} {a0 : Nat} (h0 : xTo a0)  (k4 : Int32 → Int32 → Option (Int32)) (im : IM) (hk4 : ∀ (x1 : Int32) (x2 : Int32), X g md_X5_spotsInUse (eR im) 4 [(0, .ref (g.1 a0)), (1, .int x1), (2, .int x2)] [] im (k4 x1 x2)) (x2 : Int32) (s0 : Int32) (s1 : Int32)  : X g md_X5_spotsInUse (eR im) 25 [(0, .ref (g.1 a0)), (2, .int x2)] [.int s0, .int s1] im (f_X5_spotsInUse_j2 a0 k4 x2 s0 s1 im) := by
  refine x_iadd dX5_spotsInUse_25 ?_
  refine x_bi (fun v1 => ?_)
  refine x_istore_n (lv' := [(1, .int v1), (0, .ref (g.1 a0)), (2, .int x2)]) rfl dX5_spotsInUse_26 (by decide) rfl ?_
  refine x_iinc (q := 2) (a := 1) (lv' := fun v2 => [(2, .int v2), (1, .int v1), (0, .ref (g.1 a0))]) dX5_spotsInUse_27 rfl (by decide) (by decide) (fun _ => rfl) (fun v2 => ?_)
  refine x_goto (tgt := 4) dX5_spotsInUse_30 (by decide) ?_
  refine x_sub [2, 1, 0] rfl ?_
  exact hk4 v1 v2
def f_X5_spotsInUse_l1b (a0 : Nat)  (im : IM) (k4 : Int32 → Int32 → Option (Int32)) (x1 : Int32) (x2 : Int32)  : Option (Int32) :=
  if 10 ≤ x2 then
    some x1
  else
    if inb x2 10 = true then
      if (im (a0 + 4) (ix x2)) < 0 then
        f_X5_spotsInUse_j2 a0 k4 x2 0 x1 im
      else
        f_X5_spotsInUse_j2 a0 k4 x2 1 x1 im
    else none
def f_X5_spotsInUse_l1 (a0 : Nat)  (im : IM) : Nat → Int32 → Int32 → Option (Int32)
  | 0, _, _ => none
  | n + 1, x1, x2 => f_X5_spotsInUse_l1b a0 im (f_X5_spotsInUse_l1 a0 im n) x1 x2
set_option maxRecDepth 20000 in
set_option maxHeartbeats 4000000 in
theorem s_X5_spotsInUse_l1b {g : GX} {a0 : Nat} (h0 : xTo a0)   (im : IM)  (k4 : Int32 → Int32 → Option (Int32)) (hk4 : ∀ (x1 : Int32) (x2 : Int32), X g md_X5_spotsInUse (eR im) 4 [(0, .ref (g.1 a0)), (1, .int x1), (2, .int x2)] [] im (k4 x1 x2)) (x1 : Int32) (x2 : Int32)  : X g md_X5_spotsInUse (eR im) 4 [(0, .ref (g.1 a0)), (1, .int x1), (2, .int x2)] [] im (f_X5_spotsInUse_l1b a0 im k4 x1 x2) := by
  refine x_iload_n (q := 2) rfl rfl dX5_spotsInUse_4 ?_
  refine x_bipush (v := (10)) (by decide) dX5_spotsInUse_5 ?_
  refine x_icmp_ge (tgt := 33) dX5_spotsInUse_7 (by decide) ?_ ?_
  · refine x_iload_n (q := 1) rfl rfl dX5_spotsInUse_33 ?_
    exact x_iret rfl rfl dX5_spotsInUse_34
  · refine x_iload_n (q := 1) rfl rfl dX5_spotsInUse_10 ?_
    refine x_aload_n (q := 0) rfl rfl dX5_spotsInUse_11 ?_
    refine x_get (C := RX5) (T := TX5) (xTo_o h0) (by decide) rfl in_X5 3 (by decide) fl_X5_24 xf_5_3 dX5_spotsInUse_12 ?_
    refine x_iload_n (q := 2) rfl rfl dX5_spotsInUse_15 ?_
    refine x_iald (xTo_4 h0) dX5_spotsInUse_16 ?_
    refine x_if_lt (tgt := 24) dX5_spotsInUse_17 (by decide) ?_ ?_
    · refine x_iconst (v := (0)) (by decide) dX5_spotsInUse_24 ?_
      refine x_sub [0, 2] rfl ?_
      exact s_X5_spotsInUse_j2 h0 k4 im hk4 x2 0 x1
    · refine x_iconst (v := (1)) (by decide) dX5_spotsInUse_20 ?_
      refine x_goto (tgt := 25) dX5_spotsInUse_21 (by decide) ?_
      refine x_sub [0, 2] rfl ?_
      exact s_X5_spotsInUse_j2 h0 k4 im hk4 x2 1 x1
set_option maxRecDepth 20000 in
set_option maxHeartbeats 4000000 in
theorem s_X5_spotsInUse_l1 {g : GX} {a0 : Nat} (h0 : xTo a0)   (im : IM)  (n : Nat) : ∀ (x1 : Int32) (x2 : Int32), X g md_X5_spotsInUse (eR im) 4 [(0, .ref (g.1 a0)), (1, .int x1), (2, .int x2)] [] im (f_X5_spotsInUse_l1 a0 im n x1 x2) := by
  induction n with
  | zero => intro x1 x2; exact x_none
  | succ n ih => intro x1 x2; exact s_X5_spotsInUse_l1b h0 im (f_X5_spotsInUse_l1 a0 im n) ih x1 x2
def f_X5_spotsInUse (a0 : Nat) (im : IM) : Option (Int32) :=
  f_X5_spotsInUse_l1 a0 im xF 0 0
set_option maxRecDepth 20000 in
set_option maxHeartbeats 4000000 in
theorem s_X5_spotsInUse {g : GX} {a0 : Nat} (h0 : xTo a0)  (im : IM) : X g md_X5_spotsInUse (eR im) 0 [(0, .ref (g.1 a0))] [] im (f_X5_spotsInUse a0 im) := by
  refine x_iconst (v := (0)) (by decide) dX5_spotsInUse_0 ?_
  refine x_istore_n (lv' := [(1, .int 0), (0, .ref (g.1 a0))]) rfl dX5_spotsInUse_1 (by decide) rfl ?_
  refine x_iconst (v := (0)) (by decide) dX5_spotsInUse_2 ?_
  refine x_istore_n (lv' := [(2, .int 0), (1, .int 0), (0, .ref (g.1 a0))]) rfl dX5_spotsInUse_3 (by decide) rfl ?_
  refine x_sub [2, 1, 0] rfl ?_
  exact s_X5_spotsInUse_l1 h0 im xF 0 0
theorem m_X5_spotsInUse {g : GX} {a0 : Nat} (h0 : xTo a0)  (im : IM) (r : Int32) (hr : f_X5_spotsInUse a0 im = some r) : xMet g 0 yX5_spotsInUse cX5_spotsInUse 3 (some .int) [.ref (g.1 a0)] im ((eR im) r) := x_met (by decide) (Nat.le_of_ble_eq_true rfl) rfl (s_X5_spotsInUse h0 im) r hr
abbrev md_X5_draw : xM := (0, 1, RX5, cX5_draw, (some .int))
def f_X5_draw (a0 : Nat) (im : IM) : Int32 × IM :=
  bnd (up im a0 8 (((im a0 8) * 1103515245) + 12345)) fun m1 =>
  ((jush (m1 a0 8) 8, m1))
set_option maxRecDepth 20000 in
set_option maxHeartbeats 4000000 in
theorem s_X5_draw {g : GX} {a0 : Nat} (h0 : xTo a0)  (im : IM) : X g md_X5_draw eI 0 [(0, .ref (g.1 a0))] [] im (some (f_X5_draw a0 im)) := by
  refine x_aload_n (q := 0) rfl rfl dX5_draw_0 ?_
  refine x_aload_n (q := 0) rfl rfl dX5_draw_1 ?_
  refine x_get (C := RX5) (T := TX5) (xTo_o h0) (by decide) rfl in_X5 8 (by decide) fl_X5_40 xf_5_8 dX5_draw_2 ?_
  refine x_ldc co_X5_140 dX5_draw_5 ?_
  refine x_imul dX5_draw_7 ?_
  refine x_sipush (v := (12345)) (by decide) dX5_draw_8 ?_
  refine x_iadd dX5_draw_11 ?_
  refine x_put (C := RX5) (T := TX5) (ty := .int) tyX5 tyX5_ok nmX5 (xTo_o h0) (by decide) rfl in_X5 8 (by decide) (by decide) fl_X5_40 rfl (by decide +kernel) rfl rfl dX5_draw_12 ?_
  refine x_bs (x_bm (fun m1 => ?_))
  refine x_aload_n (q := 0) rfl rfl dX5_draw_15 ?_
  refine x_get (C := RX5) (T := TX5) (xTo_o h0) (by decide) rfl in_X5 8 (by decide) fl_X5_40 xf_5_8 dX5_draw_16 ?_
  refine x_bipush (v := (8)) (by decide) dX5_draw_19 ?_
  refine x_iushr dX5_draw_21 ?_
  exact x_iret rfl rfl dX5_draw_22
theorem m_X5_draw {g : GX} {a0 : Nat} (h0 : xTo a0)  (im : IM) : xMet g 0 yX5_draw cX5_draw 1 (some .int) [.ref (g.1 a0)] im (eI (f_X5_draw a0 im)) := x_met (by decide) (Nat.le_of_ble_eq_true rfl) rfl (s_X5_draw h0 im) _ rfl
