abbrev md_X1_addByte : xM := (0, 2, RX1, cX1_addByte, none)
def f_X1_addByte (a1 : Int32) (im : IM) : Option (IM) :=
  if 120 ≤ (im 66 1) then
    some im
  else
    if inb (im 66 1) 120 = true then
      bnd (up im 67 (ix (im 66 1)) a1) fun m1 =>
      bnd (up m1 66 1 ((m1 66 1) + 1)) fun m2 =>
      some m2
    else none
set_option maxRecDepth 20000 in
set_option maxHeartbeats 4000000 in
theorem s_X1_addByte {g : GX}  (a1 : Int32) (im : IM) : X g md_X1_addByte eV 0 [(0, .ref (g.1 66)), (1, .int a1)] [] im (f_X1_addByte a1 im) := by
  refine x_aload_n (q := 0) rfl rfl dX1_addByte_0 ?_
  refine x_get (C := RX1) (T := TX1) sh_66 (by decide) rfl in_X1 1 (by decide) fl_X1_15 xf_1_1 dX1_addByte_1 ?_
  refine x_bipush (v := (120)) (by decide) dX1_addByte_4 ?_
  refine x_icmp_ge (tgt := 29) dX1_addByte_6 (by decide) ?_ ?_
  · exact x_vret rfl rfl dX1_addByte_29
  · refine x_aload_n (q := 0) rfl rfl dX1_addByte_9 ?_
    refine x_get (C := RX1) (T := TX1) sh_66 (by decide) rfl in_X1 0 (by decide) fl_X1_9 xf_1_0 dX1_addByte_10 ?_
    refine x_aload_n (q := 0) rfl rfl dX1_addByte_13 ?_
    refine x_get (C := RX1) (T := TX1) sh_66 (by decide) rfl in_X1 1 (by decide) fl_X1_15 xf_1_1 dX1_addByte_14 ?_
    refine x_iload_n (q := 1) rfl rfl dX1_addByte_17 ?_
    refine x_iast sh_67 dX1_addByte_18 ?_
    refine x_bm (fun m1 => ?_)
    refine x_aload_n (q := 0) rfl rfl dX1_addByte_19 ?_
    refine x_dup rfl dX1_addByte_20 ?_
    refine x_get (C := RX1) (T := TX1) sh_66 (by decide) rfl in_X1 1 (by decide) fl_X1_15 xf_1_1 dX1_addByte_21 ?_
    refine x_iconst (v := (1)) (by decide) dX1_addByte_24 ?_
    refine x_iadd dX1_addByte_25 ?_
    refine x_put (C := RX1) (T := TX1) (ty := .int) tyX1 tyX1_ok nmX1 sh_66 (by decide) rfl in_X1 1 (by decide) (by decide) fl_X1_15 rfl (by decide +kernel) rfl rfl dX1_addByte_26 ?_
    refine x_bm (fun m2 => ?_)
    exact x_vret rfl rfl dX1_addByte_29
theorem m_X1_addByte {g : GX}  (a1 : Int32) (im : IM) (r : IM) (hr : f_X1_addByte a1 im = some r) : xMet g 0 yX1_addByte cX1_addByte 2 none [.ref (g.1 66), .int a1] im (eV r) := x_met (by decide) (Nat.le_of_ble_eq_true rfl) rfl (s_X1_addByte a1 im) r hr
abbrev md_X1_typeOf : xM := (1, 1, RX1, cX1_typeOf, (some .int))
def f_X1_typeOf_j1 (a0 : Int32)    : Int32 :=
  3
set_option maxRecDepth 20000 in
set_option maxHeartbeats 4000000 in
theorem s_X1_typeOf_j1 {g : GX} (a0 : Int32)   (im : IM)    : X g md_X1_typeOf (eR im) 46 [] [] im (some (f_X1_typeOf_j1 a0)) := by
  refine x_iconst (v := (3)) (by decide) dX1_typeOf_46 ?_
  refine x_goto (tgt := 51) dX1_typeOf_47 (by decide) ?_
  exact x_iret rfl rfl dX1_typeOf_51
def f_X1_typeOf (a0 : Int32)  : Int32 :=
  if (f_X6_within a0 97 122) = 0 then
    if (f_X6_within a0 48 57) = 0 then
      if a0 = 32 then
        5
      else
        if a0 = 59 then
          f_X1_typeOf_j1 a0
        else
          if a0 = 45 then
            f_X1_typeOf_j1 a0
          else
            4
    else
      2
  else
    1
set_option maxRecDepth 20000 in
set_option maxHeartbeats 4000000 in
theorem s_X1_typeOf {g : GX}  (a0 : Int32) (im : IM) : X g md_X1_typeOf (eR im) 0 [(0, .int a0)] [] im (some (f_X1_typeOf a0)) := by
  refine x_iload_n (q := 0) rfl rfl dX1_typeOf_0 ?_
  refine x_bipush (v := (97)) (by decide) dX1_typeOf_1 ?_
  refine x_bipush (v := (122)) (by decide) dX1_typeOf_3 ?_
  refine x_callSR (av := [.int a0, .int 97, .int 122]) (st := []) (m_X6_within  a0 97 122 im) rfl (by decide) (by decide) lk_X1_74 cd_X6_within xd_X6_within rfl (Nat.le_of_ble_eq_true rfl) dX1_typeOf_5 ?_
  refine x_cs ?_
  refine x_if_eq (tgt := 13) dX1_typeOf_8 (by decide) ?_ ?_
  · refine x_iload_n (q := 0) rfl rfl dX1_typeOf_13 ?_
    refine x_bipush (v := (48)) (by decide) dX1_typeOf_14 ?_
    refine x_bipush (v := (57)) (by decide) dX1_typeOf_16 ?_
    refine x_callSR (av := [.int a0, .int 48, .int 57]) (st := []) (m_X6_within  a0 48 57 im) rfl (by decide) (by decide) lk_X1_74 cd_X6_within xd_X6_within rfl (Nat.le_of_ble_eq_true rfl) dX1_typeOf_18 ?_
    refine x_cs ?_
    refine x_if_eq (tgt := 26) dX1_typeOf_21 (by decide) ?_ ?_
    · refine x_iload_n (q := 0) rfl rfl dX1_typeOf_26 ?_
      refine x_bipush (v := (32)) (by decide) dX1_typeOf_27 ?_
      refine x_cs ?_
      refine x_icmp_ne (tgt := 34) dX1_typeOf_29 (by decide) ?_ ?_
      · refine x_iload_n (q := 0) rfl rfl dX1_typeOf_34 ?_
        refine x_bipush (v := (59)) (by decide) dX1_typeOf_35 ?_
        refine x_cs ?_
        refine x_icmp_eq (tgt := 46) dX1_typeOf_37 (by decide) ?_ ?_
        · refine x_sub [] rfl ?_
          exact s_X1_typeOf_j1 a0 im
        · refine x_iload_n (q := 0) rfl rfl dX1_typeOf_40 ?_
          refine x_bipush (v := (45)) (by decide) dX1_typeOf_41 ?_
          refine x_cs ?_
          refine x_icmp_ne (tgt := 50) dX1_typeOf_43 (by decide) ?_ ?_
          · refine x_iconst (v := (4)) (by decide) dX1_typeOf_50 ?_
            exact x_iret rfl rfl dX1_typeOf_51
          · refine x_sub [] rfl ?_
            exact s_X1_typeOf_j1 a0 im
      · refine x_iconst (v := (5)) (by decide) dX1_typeOf_32 ?_
        exact x_iret rfl rfl dX1_typeOf_33
    · refine x_iconst (v := (2)) (by decide) dX1_typeOf_24 ?_
      exact x_iret rfl rfl dX1_typeOf_25
  · refine x_iconst (v := (1)) (by decide) dX1_typeOf_11 ?_
    exact x_iret rfl rfl dX1_typeOf_12
theorem m_X1_typeOf {g : GX}  (a0 : Int32) (im : IM) : xMet g 1 yX1_typeOf cX1_typeOf 1 (some .int) [.int a0] im ((eR im) (f_X1_typeOf a0)) := x_met (by decide) (Nat.le_of_ble_eq_true rfl) rfl (s_X1_typeOf a0 im) _ rfl
abbrev md_X1_beginToken : xM := (0, 3, RX1, cX1_beginToken, none)
def f_X1_beginToken (a1 : Int32) (a2 : Int32) (im : IM) : Option (IM) :=
  if 120 < (im 66 6) then
    some im
  else
    if inb (im 66 6) 121 = true then
      bnd (up im 68 (ix (im 66 6)) a1) fun m1 =>
      if inb (m1 66 6) 121 = true then
        bnd (up m1 69 (ix (m1 66 6)) a1) fun m2 =>
        if inb (m2 66 6) 121 = true then
          bnd (up m2 70 (ix (m2 66 6)) a2) fun m3 =>
          if inb (m3 66 6) 121 = true then
            bnd (up m3 71 (ix (m3 66 6)) 0) fun m4 =>
            bnd (up m4 66 6 ((m4 66 6) + 1)) fun m5 =>
            some m5
          else none
        else none
      else none
    else none
set_option maxRecDepth 20000 in
set_option maxHeartbeats 4000000 in
theorem s_X1_beginToken {g : GX}   (a1 : Int32) (a2 : Int32) (im : IM) : X g md_X1_beginToken eV 0 [(0, .ref (g.1 66)), (1, .int a1), (2, .int a2)] [] im (f_X1_beginToken a1 a2 im) := by
  refine x_aload_n (q := 0) rfl rfl dX1_beginToken_0 ?_
  refine x_get (C := RX1) (T := TX1) sh_66 (by decide) rfl in_X1 6 (by decide) fl_X1_31 xf_1_6 dX1_beginToken_1 ?_
  refine x_bipush (v := (120)) (by decide) dX1_beginToken_4 ?_
  refine x_icmp_gt (tgt := 59) dX1_beginToken_6 (by decide) ?_ ?_
  · exact x_vret rfl rfl dX1_beginToken_59
  · refine x_aload_n (q := 0) rfl rfl dX1_beginToken_9 ?_
    refine x_get (C := RX1) (T := TX1) sh_66 (by decide) rfl in_X1 2 (by decide) fl_X1_19 xf_1_2 dX1_beginToken_10 ?_
    refine x_aload_n (q := 0) rfl rfl dX1_beginToken_13 ?_
    refine x_get (C := RX1) (T := TX1) sh_66 (by decide) rfl in_X1 6 (by decide) fl_X1_31 xf_1_6 dX1_beginToken_14 ?_
    refine x_iload_n (q := 1) rfl rfl dX1_beginToken_17 ?_
    refine x_iast sh_68 dX1_beginToken_18 ?_
    refine x_bm (fun m1 => ?_)
    refine x_aload_n (q := 0) rfl rfl dX1_beginToken_19 ?_
    refine x_get (C := RX1) (T := TX1) sh_66 (by decide) rfl in_X1 3 (by decide) fl_X1_22 xf_1_3 dX1_beginToken_20 ?_
    refine x_aload_n (q := 0) rfl rfl dX1_beginToken_23 ?_
    refine x_get (C := RX1) (T := TX1) sh_66 (by decide) rfl in_X1 6 (by decide) fl_X1_31 xf_1_6 dX1_beginToken_24 ?_
    refine x_iload_n (q := 1) rfl rfl dX1_beginToken_27 ?_
    refine x_iast sh_69 dX1_beginToken_28 ?_
    refine x_bm (fun m2 => ?_)
    refine x_aload_n (q := 0) rfl rfl dX1_beginToken_29 ?_
    refine x_get (C := RX1) (T := TX1) sh_66 (by decide) rfl in_X1 4 (by decide) fl_X1_25 xf_1_4 dX1_beginToken_30 ?_
    refine x_aload_n (q := 0) rfl rfl dX1_beginToken_33 ?_
    refine x_get (C := RX1) (T := TX1) sh_66 (by decide) rfl in_X1 6 (by decide) fl_X1_31 xf_1_6 dX1_beginToken_34 ?_
    refine x_iload_n (q := 2) rfl rfl dX1_beginToken_37 ?_
    refine x_iast sh_70 dX1_beginToken_38 ?_
    refine x_bm (fun m3 => ?_)
    refine x_aload_n (q := 0) rfl rfl dX1_beginToken_39 ?_
    refine x_get (C := RX1) (T := TX1) sh_66 (by decide) rfl in_X1 5 (by decide) fl_X1_28 xf_1_5 dX1_beginToken_40 ?_
    refine x_aload_n (q := 0) rfl rfl dX1_beginToken_43 ?_
    refine x_get (C := RX1) (T := TX1) sh_66 (by decide) rfl in_X1 6 (by decide) fl_X1_31 xf_1_6 dX1_beginToken_44 ?_
    refine x_iconst (v := (0)) (by decide) dX1_beginToken_47 ?_
    refine x_iast sh_71 dX1_beginToken_48 ?_
    refine x_bm (fun m4 => ?_)
    refine x_aload_n (q := 0) rfl rfl dX1_beginToken_49 ?_
    refine x_dup rfl dX1_beginToken_50 ?_
    refine x_get (C := RX1) (T := TX1) sh_66 (by decide) rfl in_X1 6 (by decide) fl_X1_31 xf_1_6 dX1_beginToken_51 ?_
    refine x_iconst (v := (1)) (by decide) dX1_beginToken_54 ?_
    refine x_iadd dX1_beginToken_55 ?_
    refine x_put (C := RX1) (T := TX1) (ty := .int) tyX1 tyX1_ok nmX1 sh_66 (by decide) rfl in_X1 6 (by decide) (by decide) fl_X1_31 rfl (by decide +kernel) rfl rfl dX1_beginToken_56 ?_
    refine x_bm (fun m5 => ?_)
    exact x_vret rfl rfl dX1_beginToken_59
theorem m_X1_beginToken {g : GX}   (a1 : Int32) (a2 : Int32) (im : IM) (r : IM) (hr : f_X1_beginToken a1 a2 im = some r) : xMet g 0 yX1_beginToken cX1_beginToken 3 none [.ref (g.1 66), .int a1, .int a2] im (eV r) := x_met (by decide) (Nat.le_of_ble_eq_true rfl) rfl (s_X1_beginToken a1 a2 im) r hr
abbrev md_X1_growToken : xM := (1, 3, RX1, cX1_growToken, none)
def f_X1_growToken (a1 : Int32) (a2 : Int32) (im : IM) : Option (IM) :=
  if inb a1 121 = true then
    bnd (up im 69 (ix a1) (a2 + 1)) fun m1 =>
    if inb a1 121 = true then
      if (m1 70 (ix a1)) = 2 then
        if inb a1 121 = true then
          if inb a2 120 = true then
            if inb a1 121 = true then
              bnd (up m1 71 (ix a1) (jmin 1000 ((((m1 71 (ix a1)) * 10) + (m1 67 (ix a2))) - 48))) fun m2 =>
              some m2
            else none
          else none
        else none
      else
        some m1
    else none
  else none
set_option maxRecDepth 20000 in
set_option maxHeartbeats 4000000 in
theorem s_X1_growToken {g : GX}   (a1 : Int32) (a2 : Int32) (im : IM) : X g md_X1_growToken eV 0 [(0, .ref (g.1 66)), (1, .int a1), (2, .int a2)] [] im (f_X1_growToken a1 a2 im) := by
  refine x_aload_n (q := 0) rfl rfl dX1_growToken_0 ?_
  refine x_get (C := RX1) (T := TX1) sh_66 (by decide) rfl in_X1 3 (by decide) fl_X1_22 xf_1_3 dX1_growToken_1 ?_
  refine x_iload_n (q := 1) rfl rfl dX1_growToken_4 ?_
  refine x_iload_n (q := 2) rfl rfl dX1_growToken_5 ?_
  refine x_iconst (v := (1)) (by decide) dX1_growToken_6 ?_
  refine x_iadd dX1_growToken_7 ?_
  refine x_iast sh_69 dX1_growToken_8 ?_
  refine x_bm (fun m1 => ?_)
  refine x_aload_n (q := 0) rfl rfl dX1_growToken_9 ?_
  refine x_get (C := RX1) (T := TX1) sh_66 (by decide) rfl in_X1 4 (by decide) fl_X1_25 xf_1_4 dX1_growToken_10 ?_
  refine x_iload_n (q := 1) rfl rfl dX1_growToken_13 ?_
  refine x_iald sh_70 dX1_growToken_14 ?_
  refine x_iconst (v := (2)) (by decide) dX1_growToken_15 ?_
  refine x_icmp_ne (tgt := 50) dX1_growToken_16 (by decide) ?_ ?_
  · exact x_vret rfl rfl dX1_growToken_50
  · refine x_aload_n (q := 0) rfl rfl dX1_growToken_19 ?_
    refine x_get (C := RX1) (T := TX1) sh_66 (by decide) rfl in_X1 5 (by decide) fl_X1_28 xf_1_5 dX1_growToken_20 ?_
    refine x_iload_n (q := 1) rfl rfl dX1_growToken_23 ?_
    refine x_sipush (v := (1000)) (by decide) dX1_growToken_24 ?_
    refine x_aload_n (q := 0) rfl rfl dX1_growToken_27 ?_
    refine x_get (C := RX1) (T := TX1) sh_66 (by decide) rfl in_X1 5 (by decide) fl_X1_28 xf_1_5 dX1_growToken_28 ?_
    refine x_iload_n (q := 1) rfl rfl dX1_growToken_31 ?_
    refine x_iald sh_71 dX1_growToken_32 ?_
    refine x_bipush (v := (10)) (by decide) dX1_growToken_33 ?_
    refine x_imul dX1_growToken_35 ?_
    refine x_aload_n (q := 0) rfl rfl dX1_growToken_36 ?_
    refine x_get (C := RX1) (T := TX1) sh_66 (by decide) rfl in_X1 0 (by decide) fl_X1_9 xf_1_0 dX1_growToken_37 ?_
    refine x_iload_n (q := 2) rfl rfl dX1_growToken_40 ?_
    refine x_iald sh_67 dX1_growToken_41 ?_
    refine x_iadd dX1_growToken_42 ?_
    refine x_bipush (v := (48)) (by decide) dX1_growToken_43 ?_
    refine x_isub dX1_growToken_45 ?_
    refine x_mmin lk_X1_68 (by decide) (Nat.le_of_ble_eq_true rfl) dX1_growToken_46 ?_
    refine x_iast sh_71 dX1_growToken_49 ?_
    refine x_bm (fun m2 => ?_)
    exact x_vret rfl rfl dX1_growToken_50
theorem m_X1_growToken {g : GX}   (a1 : Int32) (a2 : Int32) (im : IM) (r : IM) (hr : f_X1_growToken a1 a2 im = some r) : xMet g 1 yX1_growToken cX1_growToken 3 none [.ref (g.1 66), .int a1, .int a2] im (eV r) := x_met (by decide) (Nat.le_of_ble_eq_true rfl) rfl (s_X1_growToken a1 a2 im) r hr
abbrev md_X1_splitTape : xM := (2, 5, RX1, cX1_splitTape, none)
def f_X1_splitTape_j5  (k9 : Int32 → Int32 → IM → Option (IM)) (x2 : Int32) (x3 : Int32) (im : IM) : Option (IM) :=
  bnd (x2 + 1) fun v4 =>
  k9 x3 v4 im
set_option maxRecDepth 20000 in
set_option maxHeartbeats 4000000 in
theorem s_X1_splitTape_j5 {g : GX}  (k9 : Int32 → Int32 → IM → Option (IM)) (hk9 : ∀ (x1 : Int32) (x2 : Int32) (im : IM), X g md_X1_splitTape eV 9 [(0, .ref (g.1 66)), (1, .int x1), (2, .int x2)] [] im (k9 x1 x2 im)) (x2 : Int32) (x3 : Int32)  (im : IM) : X g md_X1_splitTape eV 88 [(0, .ref (g.1 66)), (2, .int x2), (3, .int x3)] [] im (f_X1_splitTape_j5 k9 x2 x3 im) := by
  refine x_iload_n (q := 2) rfl rfl dX1_splitTape_88 ?_
  refine x_istore_n (lv' := [(1, .int x3), (0, .ref (g.1 66)), (2, .int x2), (3, .int x3)]) rfl dX1_splitTape_89 (by decide) rfl ?_
  refine x_iinc (q := 2) (a := 1) (lv' := fun v4 => [(2, .int v4), (1, .int x3), (0, .ref (g.1 66)), (3, .int x3)]) dX1_splitTape_90 rfl (by decide) (by decide) (fun _ => rfl) (fun v4 => ?_)
  refine x_goto (tgt := 9) dX1_splitTape_93 (by decide) ?_
  refine x_sub [2, 1, 0] rfl ?_
  exact hk9 x3 v4 im
def f_X1_splitTape_j4  (k9 : Int32 → Int32 → IM → Option (IM)) (x2 : Int32) (x3 : Int32) (im : IM) : Option (IM) :=
  if x3 = 5 then
    f_X1_splitTape_j5 k9 x2 x3 im
  else
    if (im 66 6) ≤ 0 then
      f_X1_splitTape_j5 k9 x2 x3 im
    else
      (f_X1_growToken ((im 66 6) - 1) x2 im).bind fun r5 =>
      f_X1_splitTape_j5 k9 x2 x3 r5
set_option maxRecDepth 20000 in
set_option maxHeartbeats 4000000 in
theorem s_X1_splitTape_j4 {g : GX}  (k9 : Int32 → Int32 → IM → Option (IM)) (hk9 : ∀ (x1 : Int32) (x2 : Int32) (im : IM), X g md_X1_splitTape eV 9 [(0, .ref (g.1 66)), (1, .int x1), (2, .int x2)] [] im (k9 x1 x2 im)) (x2 : Int32) (x3 : Int32)  (im : IM) : X g md_X1_splitTape eV 65 [(0, .ref (g.1 66)), (2, .int x2), (3, .int x3)] [] im (f_X1_splitTape_j4 k9 x2 x3 im) := by
  refine x_iload_n (q := 2) rfl rfl dX1_splitTape_65 ?_
  refine x_iconst (v := (5)) (by decide) dX1_splitTape_66 ?_
  refine x_icmp_eq (tgt := 88) dX1_splitTape_67 (by decide) ?_ ?_
  · refine x_sub [0, 1, 2] rfl ?_
    exact s_X1_splitTape_j5 k9 hk9 x2 x3 im
  · refine x_aload_n (q := 0) rfl rfl dX1_splitTape_70 ?_
    refine x_get (C := RX1) (T := TX1) sh_66 (by decide) rfl in_X1 6 (by decide) fl_X1_31 xf_1_6 dX1_splitTape_71 ?_
    refine x_if_le (tgt := 88) dX1_splitTape_74 (by decide) ?_ ?_
    · refine x_sub [0, 1, 2] rfl ?_
      exact s_X1_splitTape_j5 k9 hk9 x2 x3 im
    · refine x_aload_n (q := 0) rfl rfl dX1_splitTape_77 ?_
      refine x_aload_n (q := 0) rfl rfl dX1_splitTape_78 ?_
      refine x_get (C := RX1) (T := TX1) sh_66 (by decide) rfl in_X1 6 (by decide) fl_X1_31 xf_1_6 dX1_splitTape_79 ?_
      refine x_iconst (v := (1)) (by decide) dX1_splitTape_82 ?_
      refine x_isub dX1_splitTape_83 ?_
      refine x_iload_n (q := 1) rfl rfl dX1_splitTape_84 ?_
      refine x_bind (fun r5 er5 => ?_)
      refine x_callVV (av := [.int ((im 66 6) - 1), .int x2]) (st := []) (m_X1_growToken  (((im 66 6) - 1)) x2 im r5 er5) sh_66 (by decide) rfl rfl (by decide) (by decide) lk_X1_65 cd_X1_growToken xd_X1_growToken rfl (Nat.le_of_ble_eq_true rfl) dX1_splitTape_85 ?_
      refine x_sub [0, 1, 2] rfl ?_
      exact s_X1_splitTape_j5 k9 hk9 x2 x3 r5
def f_X1_splitTape_j3  (k9 : Int32 → Int32 → IM → Option (IM)) (x2 : Int32) (x3 : Int32) (s0 : Int32) (im : IM) : Option (IM) :=
  if x3 = 5 then
    f_X1_splitTape_j4 k9 x2 x3 im
  else
    if s0 = 0 then
      (f_X1_beginToken x2 x3 im).bind fun r6 =>
      f_X1_splitTape_j4 k9 x2 x3 r6
    else
      f_X1_splitTape_j4 k9 x2 x3 im
set_option maxRecDepth 20000 in
set_option maxHeartbeats 4000000 in
theorem s_X1_splitTape_j3 {g : GX}  (k9 : Int32 → Int32 → IM → Option (IM)) (hk9 : ∀ (x1 : Int32) (x2 : Int32) (im : IM), X g md_X1_splitTape eV 9 [(0, .ref (g.1 66)), (1, .int x1), (2, .int x2)] [] im (k9 x1 x2 im)) (x2 : Int32) (x3 : Int32) (s0 : Int32)  (im : IM) : X g md_X1_splitTape eV 47 [(0, .ref (g.1 66)), (2, .int x2), (3, .int x3)] [.int s0] im (f_X1_splitTape_j3 k9 x2 x3 s0 im) := by
  refine x_istore (lv' := [(4, .int s0), (0, .ref (g.1 66)), (2, .int x2), (3, .int x3)]) dX1_splitTape_47 (by decide) rfl ?_
  refine x_iload_n (q := 3) rfl rfl dX1_splitTape_49 ?_
  refine x_iconst (v := (5)) (by decide) dX1_splitTape_50 ?_
  refine x_icmp_eq (tgt := 65) dX1_splitTape_51 (by decide) ?_ ?_
  · refine x_sub [1, 2, 3] rfl ?_
    exact s_X1_splitTape_j4 k9 hk9 x2 x3 im
  · refine x_iload (q := 0) rfl dX1_splitTape_54 ?_
    refine x_if_ne (tgt := 65) dX1_splitTape_56 (by decide) ?_ ?_
    · refine x_sub [1, 2, 3] rfl ?_
      exact s_X1_splitTape_j4 k9 hk9 x2 x3 im
    · refine x_aload_n (q := 1) rfl rfl dX1_splitTape_59 ?_
      refine x_iload_n (q := 2) rfl rfl dX1_splitTape_60 ?_
      refine x_iload_n (q := 3) rfl rfl dX1_splitTape_61 ?_
      refine x_bind (fun r6 er6 => ?_)
      refine x_callVV (av := [.int x2, .int x3]) (st := []) (m_X1_beginToken  x2 x3 im r6 er6) sh_66 (by decide) rfl rfl (by decide) (by decide) lk_X1_61 cd_X1_beginToken xd_X1_beginToken rfl (Nat.le_of_ble_eq_true rfl) dX1_splitTape_62 ?_
      refine x_sub [1, 2, 3] rfl ?_
      exact s_X1_splitTape_j4 k9 hk9 x2 x3 r6
def f_X1_splitTape_j2  (k9 : Int32 → Int32 → IM → Option (IM)) (x2 : Int32) (x3 : Int32) (im : IM) : Option (IM) :=
  f_X1_splitTape_j3 k9 x2 x3 0 im
set_option maxRecDepth 20000 in
set_option maxHeartbeats 4000000 in
theorem s_X1_splitTape_j2 {g : GX}  (k9 : Int32 → Int32 → IM → Option (IM)) (hk9 : ∀ (x1 : Int32) (x2 : Int32) (im : IM), X g md_X1_splitTape eV 9 [(0, .ref (g.1 66)), (1, .int x1), (2, .int x2)] [] im (k9 x1 x2 im)) (x2 : Int32) (x3 : Int32)  (im : IM) : X g md_X1_splitTape eV 46 [(0, .ref (g.1 66)), (2, .int x2), (3, .int x3)] [] im (f_X1_splitTape_j2 k9 x2 x3 im) := by
  refine x_iconst (v := (0)) (by decide) dX1_splitTape_46 ?_
  refine x_sub [0, 1, 2] rfl ?_
  exact s_X1_splitTape_j3 k9 hk9 x2 x3 0 im
def f_X1_splitTape_j6  (k9 : Int32 → Int32 → IM → Option (IM)) (x2 : Int32) (x3 : Int32) (im : IM) : Option (IM) :=
  f_X1_splitTape_j3 k9 x2 x3 1 im
set_option maxRecDepth 20000 in
set_option maxHeartbeats 4000000 in
theorem s_X1_splitTape_j6 {g : GX}  (k9 : Int32 → Int32 → IM → Option (IM)) (hk9 : ∀ (x1 : Int32) (x2 : Int32) (im : IM), X g md_X1_splitTape eV 9 [(0, .ref (g.1 66)), (1, .int x1), (2, .int x2)] [] im (k9 x1 x2 im)) (x2 : Int32) (x3 : Int32)  (im : IM) : X g md_X1_splitTape eV 42 [(0, .ref (g.1 66)), (2, .int x2), (3, .int x3)] [] im (f_X1_splitTape_j6 k9 x2 x3 im) := by
  refine x_iconst (v := (1)) (by decide) dX1_splitTape_42 ?_
  refine x_goto (tgt := 47) dX1_splitTape_43 (by decide) ?_
  refine x_sub [0, 1, 2] rfl ?_
  exact s_X1_splitTape_j3 k9 hk9 x2 x3 1 im
def f_X1_splitTape_l1b    (k9 : Int32 → Int32 → IM → Option (IM)) (x1 : Int32) (x2 : Int32) (im : IM) : Option (IM) :=
  if (im 66 1) ≤ x2 then
    (f_X1_beginToken (im 66 1) 0 im).bind fun r2 =>
    some r2
  else
    if inb x2 120 = true then
      bnd (f_X1_typeOf (im 67 (ix x2))) fun v3 =>
      if v3 = x1 then
        if v3 = 1 then
          f_X1_splitTape_j6 k9 x2 v3 im
        else
          if v3 = 2 then
            f_X1_splitTape_j6 k9 x2 v3 im
          else
            f_X1_splitTape_j2 k9 x2 v3 im
      else
        f_X1_splitTape_j2 k9 x2 v3 im
    else none
def f_X1_splitTape_l1    : Nat → Int32 → Int32 → IM → Option (IM)
  | 0, _, _, _ => none
  | n + 1, x1, x2, im => f_X1_splitTape_l1b (f_X1_splitTape_l1 n) x1 x2 im
set_option maxRecDepth 20000 in
set_option maxHeartbeats 4000000 in
theorem s_X1_splitTape_l1b {g : GX}    (k9 : Int32 → Int32 → IM → Option (IM)) (hk9 : ∀ (x1 : Int32) (x2 : Int32) (im : IM), X g md_X1_splitTape eV 9 [(0, .ref (g.1 66)), (1, .int x1), (2, .int x2)] [] im (k9 x1 x2 im)) (x1 : Int32) (x2 : Int32)  (im : IM) : X g md_X1_splitTape eV 9 [(0, .ref (g.1 66)), (1, .int x1), (2, .int x2)] [] im (f_X1_splitTape_l1b k9 x1 x2 im) := by
  refine x_iload_n (q := 2) rfl rfl dX1_splitTape_9 ?_
  refine x_aload_n (q := 0) rfl rfl dX1_splitTape_10 ?_
  refine x_get (C := RX1) (T := TX1) sh_66 (by decide) rfl in_X1 1 (by decide) fl_X1_15 xf_1_1 dX1_splitTape_11 ?_
  refine x_icmp_ge (tgt := 96) dX1_splitTape_14 (by decide) ?_ ?_
  · refine x_aload_n (q := 0) rfl rfl dX1_splitTape_96 ?_
    refine x_aload_n (q := 0) rfl rfl dX1_splitTape_97 ?_
    refine x_get (C := RX1) (T := TX1) sh_66 (by decide) rfl in_X1 1 (by decide) fl_X1_15 xf_1_1 dX1_splitTape_98 ?_
    refine x_iconst (v := (0)) (by decide) dX1_splitTape_101 ?_
    refine x_bind (fun r2 er2 => ?_)
    refine x_callVV (av := [.int (im 66 1), .int 0]) (st := []) (m_X1_beginToken  ((im 66 1)) 0 im r2 er2) sh_66 (by decide) rfl rfl (by decide) (by decide) lk_X1_61 cd_X1_beginToken xd_X1_beginToken rfl (Nat.le_of_ble_eq_true rfl) dX1_splitTape_102 ?_
    exact x_vret rfl rfl dX1_splitTape_105
  · refine x_aload_n (q := 0) rfl rfl dX1_splitTape_17 ?_
    refine x_get (C := RX1) (T := TX1) sh_66 (by decide) rfl in_X1 0 (by decide) fl_X1_9 xf_1_0 dX1_splitTape_18 ?_
    refine x_iload_n (q := 2) rfl rfl dX1_splitTape_21 ?_
    refine x_iald sh_67 dX1_splitTape_22 ?_
    refine x_callSR (av := [.int (im 67 (ix x2))]) (st := []) (m_X1_typeOf  ((im 67 (ix x2))) im) rfl (by decide) (by decide) lk_X1_57 cd_X1_typeOf xd_X1_typeOf rfl (Nat.le_of_ble_eq_true rfl) dX1_splitTape_23 ?_
    refine x_bi (fun v3 => ?_)
    refine x_istore_n (lv' := [(3, .int v3), (0, .ref (g.1 66)), (1, .int x1), (2, .int x2)]) rfl dX1_splitTape_26 (by decide) rfl ?_
    refine x_iload_n (q := 0) rfl rfl dX1_splitTape_27 ?_
    refine x_iload_n (q := 2) rfl rfl dX1_splitTape_28 ?_
    refine x_icmp_ne (tgt := 46) dX1_splitTape_29 (by decide) ?_ ?_
    · refine x_sub [1, 3, 0] rfl ?_
      exact s_X1_splitTape_j2 k9 hk9 x2 v3 im
    · refine x_iload_n (q := 0) rfl rfl dX1_splitTape_32 ?_
      refine x_iconst (v := (1)) (by decide) dX1_splitTape_33 ?_
      refine x_icmp_eq (tgt := 42) dX1_splitTape_34 (by decide) ?_ ?_
      · refine x_sub [1, 3, 0] rfl ?_
        exact s_X1_splitTape_j6 k9 hk9 x2 v3 im
      · refine x_iload_n (q := 0) rfl rfl dX1_splitTape_37 ?_
        refine x_iconst (v := (2)) (by decide) dX1_splitTape_38 ?_
        refine x_icmp_ne (tgt := 46) dX1_splitTape_39 (by decide) ?_ ?_
        · refine x_sub [1, 3, 0] rfl ?_
          exact s_X1_splitTape_j2 k9 hk9 x2 v3 im
        · refine x_sub [1, 3, 0] rfl ?_
          exact s_X1_splitTape_j6 k9 hk9 x2 v3 im
set_option maxRecDepth 20000 in
set_option maxHeartbeats 4000000 in
theorem s_X1_splitTape_l1 {g : GX}    (n : Nat) : ∀ (x1 : Int32) (x2 : Int32) (im : IM), X g md_X1_splitTape eV 9 [(0, .ref (g.1 66)), (1, .int x1), (2, .int x2)] [] im (f_X1_splitTape_l1 n x1 x2 im) := by
  induction n with
  | zero => intro x1 x2 im; exact x_none
  | succ n ih => intro x1 x2 im; exact s_X1_splitTape_l1b (f_X1_splitTape_l1 n) ih x1 x2 im
def f_X1_splitTape  (im : IM) : Option (IM) :=
  bnd (up im 66 6 0) fun m1 =>
  f_X1_splitTape_l1 xF 5 0 m1
set_option maxRecDepth 20000 in
set_option maxHeartbeats 4000000 in
theorem s_X1_splitTape {g : GX}   (im : IM) : X g md_X1_splitTape eV 0 [(0, .ref (g.1 66))] [] im (f_X1_splitTape im) := by
  refine x_aload_n (q := 0) rfl rfl dX1_splitTape_0 ?_
  refine x_iconst (v := (0)) (by decide) dX1_splitTape_1 ?_
  refine x_put (C := RX1) (T := TX1) (ty := .int) tyX1 tyX1_ok nmX1 sh_66 (by decide) rfl in_X1 6 (by decide) (by decide) fl_X1_31 rfl (by decide +kernel) rfl rfl dX1_splitTape_2 ?_
  refine x_bm (fun m1 => ?_)
  refine x_iconst (v := (5)) (by decide) dX1_splitTape_5 ?_
  refine x_istore_n (lv' := [(1, .int 5), (0, .ref (g.1 66))]) rfl dX1_splitTape_6 (by decide) rfl ?_
  refine x_iconst (v := (0)) (by decide) dX1_splitTape_7 ?_
  refine x_istore_n (lv' := [(2, .int 0), (1, .int 5), (0, .ref (g.1 66))]) rfl dX1_splitTape_8 (by decide) rfl ?_
  refine x_sub [2, 1, 0] rfl ?_
  exact s_X1_splitTape_l1 xF 5 0 m1
theorem m_X1_splitTape {g : GX}   (im : IM) (r : IM) (hr : f_X1_splitTape im = some r) : xMet g 2 yX1_splitTape cX1_splitTape 5 none [.ref (g.1 66)] im (eV r) := x_met (by decide) (Nat.le_of_ble_eq_true rfl) rfl (s_X1_splitTape im) r hr
abbrev md_X1_nameOfGround : xM := (0, 1, RX1, cX1_nameOfGround, (some (.object "java/lang/String")))
def f_X1_nameOfGround (a0 : Int32)  : Nat :=
  if a0 = 0 then
    7
  else if a0 = 1 then
    8
  else if a0 = 2 then
    9
  else if a0 = 3 then
    10
  else 
    11
set_option maxRecDepth 20000 in
set_option maxHeartbeats 4000000 in
theorem s_X1_nameOfGround {g : GX}  (a0 : Int32) (im : IM) : X g md_X1_nameOfGround (eA g im) 0 [(0, .int a0)] [] im (some (f_X1_nameOfGround a0)) := by
  refine x_iload_n (q := 0) rfl rfl dX1_nameOfGround_0 ?_
  refine x_cs (x_case (k := 0) (fun hx1_0 => ?_) (fun hx1_0 => ?_))
  · refine x_tsw (off := 31) (tgt := 32) dX1_nameOfGround_1 (by rw [hx1_0]; decide) (by rw [hx1_0]; decide) (by rw [hx1_0]; rfl) (by decide) ?_
    refine x_ldcS 7 (by decide) dX1_nameOfGround_32 ?_
    exact x_aret rfl rfl (Or.inl ⟨_, rfl⟩) dX1_nameOfGround_34
  refine x_cs (x_case (k := 1) (fun hx1_1 => ?_) (fun hx1_1 => ?_))
  · refine x_tsw (off := 34) (tgt := 35) dX1_nameOfGround_1 (by rw [hx1_1]; decide) (by rw [hx1_1]; decide) (by rw [hx1_1]; rfl) (by decide) ?_
    refine x_ldcS 8 (by decide) dX1_nameOfGround_35 ?_
    exact x_aret rfl rfl (Or.inl ⟨_, rfl⟩) dX1_nameOfGround_37
  refine x_cs (x_case (k := 2) (fun hx1_2 => ?_) (fun hx1_2 => ?_))
  · refine x_tsw (off := 37) (tgt := 38) dX1_nameOfGround_1 (by rw [hx1_2]; decide) (by rw [hx1_2]; decide) (by rw [hx1_2]; rfl) (by decide) ?_
    refine x_ldcS 9 (by decide) dX1_nameOfGround_38 ?_
    exact x_aret rfl rfl (Or.inl ⟨_, rfl⟩) dX1_nameOfGround_40
  refine x_cs (x_case (k := 3) (fun hx1_3 => ?_) (fun hx1_3 => ?_))
  · refine x_tsw (off := 40) (tgt := 41) dX1_nameOfGround_1 (by rw [hx1_3]; decide) (by rw [hx1_3]; decide) (by rw [hx1_3]; rfl) (by decide) ?_
    refine x_ldcS 10 (by decide) dX1_nameOfGround_41 ?_
    exact x_aret rfl rfl (Or.inl ⟨_, rfl⟩) dX1_nameOfGround_43
  have ho1 : (a0).toInt < 0 ∨ 3 < (a0).toInt := by
    refine x_out (fun k h1 h2 => ?_)
    have hk : k = 0 ∨ k = 1 ∨ k = 2 ∨ k = 3 := by omega
    rcases hk with rfl | rfl | rfl | rfl
    · exact hx1_0
    · exact hx1_1
    · exact hx1_2
    · exact hx1_3
  refine x_tsd (tgt := 44) dX1_nameOfGround_1 ho1 (by decide) ?_
  refine x_ldcS 11 (by decide) dX1_nameOfGround_44 ?_
  exact x_aret rfl rfl (Or.inl ⟨_, rfl⟩) dX1_nameOfGround_46
theorem m_X1_nameOfGround {g : GX}  (a0 : Int32) (im : IM) : xMet g 0 yX1_nameOfGround cX1_nameOfGround 1 (some (.object "java/lang/String")) [.int a0] im ((eA g im) (f_X1_nameOfGround a0)) := x_met (by decide) (Nat.le_of_ble_eq_true rfl) rfl (s_X1_nameOfGround a0 im) _ rfl
theorem l_X1_nameOfGround (a0 : Int32) : f_X1_nameOfGround a0 < 19 := by
  unfold f_X1_nameOfGround
  repeat' split
  all_goals decide
abbrev md_X1_isWord : xM := (4, 3, RX1, cX1_isWord, (some .boolean))
def f_X1_isWord_j1 (a1 : Nat)   (im : IM) : Option (Int32) :=
  some 0
set_option maxRecDepth 20000 in
set_option maxHeartbeats 4000000 in
theorem s_X1_isWord_j1 {g : GX} {a1 : Nat} (h1 : a1 < 19)   (im : IM)    : X g md_X1_isWord (eR im) 39 [] [] im (f_X1_isWord_j1 a1 im) := by
  refine x_iconst (v := (0)) (by decide) dX1_isWord_39 ?_
  exact x_nret (y := 0) rfl rfl (by decide) dX1_isWord_40
def f_X1_isWord_l2b (a1 : Nat)  (im : IM) (k43 : Int32 → Option (Int32)) (x2 : Int32)  : Option (Int32) :=
  if (f_J0_length_8abf5 a1 im) ≤ x2 then
    some 1
  else
    if inb (im 66 7) 121 = true then
      if inb ((im 68 (ix (im 66 7))) + x2) 120 = true then
        (f_J0_charAt_5068e a1 x2 im).bind fun r1 =>
        if (im 67 (ix ((im 68 (ix (im 66 7))) + x2))) = r1 then
          bnd (x2 + 1) fun v2 =>
          k43 v2
        else
          some 0
      else none
    else none
def f_X1_isWord_l2 (a1 : Nat)  (im : IM) : Nat → Int32 → Option (Int32)
  | 0, _ => none
  | n + 1, x2 => f_X1_isWord_l2b a1 im (f_X1_isWord_l2 a1 im n) x2
set_option maxRecDepth 20000 in
set_option maxHeartbeats 4000000 in
theorem s_X1_isWord_l2b {g : GX} {a1 : Nat} (h1 : a1 < 19)   (im : IM)  (k43 : Int32 → Option (Int32)) (hk43 : ∀ (x2 : Int32), X g md_X1_isWord (eR im) 43 [(0, .ref (g.1 66)), (1, .ref (g.2.2.2.1.1 a1)), (2, .int x2)] [] im (k43 x2)) (x2 : Int32)  : X g md_X1_isWord (eR im) 43 [(0, .ref (g.1 66)), (1, .ref (g.2.2.2.1.1 a1)), (2, .int x2)] [] im (f_X1_isWord_l2b a1 im k43 x2) := by
  refine x_iload_n (q := 2) rfl rfl dX1_isWord_43 ?_
  refine x_aload_n (q := 1) rfl rfl dX1_isWord_44 ?_
  refine x_callTR (av := []) (st := [.int x2]) (m_J0_length_8abf5 h1  im) h1 rfl rfl (by decide) (by decide) lk_X1_162 cd_J0_length_8abf5 xd_J0_length_8abf5 rfl (Nat.le_of_ble_eq_true rfl) dX1_isWord_45 ?_
  refine x_icmp_ge (tgt := 83) dX1_isWord_48 (by decide) ?_ ?_
  · refine x_iconst (v := (1)) (by decide) dX1_isWord_83 ?_
    exact x_nret (y := 1) rfl rfl (by decide) dX1_isWord_84
  · refine x_aload_n (q := 0) rfl rfl dX1_isWord_51 ?_
    refine x_get (C := RX1) (T := TX1) sh_66 (by decide) rfl in_X1 0 (by decide) fl_X1_9 xf_1_0 dX1_isWord_52 ?_
    refine x_aload_n (q := 0) rfl rfl dX1_isWord_55 ?_
    refine x_get (C := RX1) (T := TX1) sh_66 (by decide) rfl in_X1 2 (by decide) fl_X1_19 xf_1_2 dX1_isWord_56 ?_
    refine x_aload_n (q := 0) rfl rfl dX1_isWord_59 ?_
    refine x_get (C := RX1) (T := TX1) sh_66 (by decide) rfl in_X1 7 (by decide) fl_X1_34 xf_1_7 dX1_isWord_60 ?_
    refine x_iald sh_68 dX1_isWord_63 ?_
    refine x_iload_n (q := 2) rfl rfl dX1_isWord_64 ?_
    refine x_iadd dX1_isWord_65 ?_
    refine x_iald sh_67 dX1_isWord_66 ?_
    refine x_aload_n (q := 1) rfl rfl dX1_isWord_67 ?_
    refine x_iload_n (q := 2) rfl rfl dX1_isWord_68 ?_
    refine x_bind (fun r1 er1 => ?_)
    refine x_callTR (av := [.int x2]) (st := [.int (im 67 (ix ((im 68 (ix (im 66 7))) + x2)))]) (m_J0_charAt_5068e h1 x2 im r1 er1) h1 rfl rfl (by decide) (by decide) lk_X1_168 cd_J0_charAt_5068e xd_J0_charAt_5068e rfl (Nat.le_of_ble_eq_true rfl) dX1_isWord_69 ?_
    refine x_icmp_eq (tgt := 77) dX1_isWord_72 (by decide) ?_ ?_
    · refine x_iinc (q := 2) (a := 1) (lv' := fun v2 => [(2, .int v2), (0, .ref (g.1 66)), (1, .ref (g.2.2.2.1.1 a1))]) dX1_isWord_77 rfl (by decide) (by decide) (fun _ => rfl) (fun v2 => ?_)
      refine x_goto (tgt := 43) dX1_isWord_80 (by decide) ?_
      refine x_sub [1, 2, 0] rfl ?_
      exact hk43 v2
    · refine x_iconst (v := (0)) (by decide) dX1_isWord_75 ?_
      exact x_nret (y := 0) rfl rfl (by decide) dX1_isWord_76
set_option maxRecDepth 20000 in
set_option maxHeartbeats 4000000 in
theorem s_X1_isWord_l2 {g : GX} {a1 : Nat} (h1 : a1 < 19)   (im : IM)  (n : Nat) : ∀ (x2 : Int32), X g md_X1_isWord (eR im) 43 [(0, .ref (g.1 66)), (1, .ref (g.2.2.2.1.1 a1)), (2, .int x2)] [] im (f_X1_isWord_l2 a1 im n x2) := by
  induction n with
  | zero => intro x2; exact x_none
  | succ n ih => intro x2; exact s_X1_isWord_l2b h1 im (f_X1_isWord_l2 a1 im n) ih x2
def f_X1_isWord (a1 : Nat) (im : IM) : Option (Int32) :=
  if inb (im 66 7) 121 = true then
    if (im 70 (ix (im 66 7))) = 1 then
      if inb (im 66 7) 121 = true then
        if inb (im 66 7) 121 = true then
          if ((im 69 (ix (im 66 7))) - (im 68 (ix (im 66 7)))) = (f_J0_length_8abf5 a1 im) then
            f_X1_isWord_l2 a1 im xF 0
          else
            f_X1_isWord_j1 a1 im
        else none
      else none
    else
      f_X1_isWord_j1 a1 im
  else none
set_option maxRecDepth 20000 in
set_option maxHeartbeats 4000000 in
theorem s_X1_isWord {g : GX} {a1 : Nat} (h1 : a1 < 19)  (im : IM) : X g md_X1_isWord (eR im) 0 [(0, .ref (g.1 66)), (1, .ref (g.2.2.2.1.1 a1))] [] im (f_X1_isWord a1 im) := by
  refine x_aload_n (q := 0) rfl rfl dX1_isWord_0 ?_
  refine x_get (C := RX1) (T := TX1) sh_66 (by decide) rfl in_X1 4 (by decide) fl_X1_25 xf_1_4 dX1_isWord_1 ?_
  refine x_aload_n (q := 0) rfl rfl dX1_isWord_4 ?_
  refine x_get (C := RX1) (T := TX1) sh_66 (by decide) rfl in_X1 7 (by decide) fl_X1_34 xf_1_7 dX1_isWord_5 ?_
  refine x_iald sh_70 dX1_isWord_8 ?_
  refine x_iconst (v := (1)) (by decide) dX1_isWord_9 ?_
  refine x_icmp_ne (tgt := 39) dX1_isWord_10 (by decide) ?_ ?_
  · refine x_sub [] rfl ?_
    exact s_X1_isWord_j1 h1 im
  · refine x_aload_n (q := 0) rfl rfl dX1_isWord_13 ?_
    refine x_get (C := RX1) (T := TX1) sh_66 (by decide) rfl in_X1 3 (by decide) fl_X1_22 xf_1_3 dX1_isWord_14 ?_
    refine x_aload_n (q := 0) rfl rfl dX1_isWord_17 ?_
    refine x_get (C := RX1) (T := TX1) sh_66 (by decide) rfl in_X1 7 (by decide) fl_X1_34 xf_1_7 dX1_isWord_18 ?_
    refine x_iald sh_69 dX1_isWord_21 ?_
    refine x_aload_n (q := 0) rfl rfl dX1_isWord_22 ?_
    refine x_get (C := RX1) (T := TX1) sh_66 (by decide) rfl in_X1 2 (by decide) fl_X1_19 xf_1_2 dX1_isWord_23 ?_
    refine x_aload_n (q := 0) rfl rfl dX1_isWord_26 ?_
    refine x_get (C := RX1) (T := TX1) sh_66 (by decide) rfl in_X1 7 (by decide) fl_X1_34 xf_1_7 dX1_isWord_27 ?_
    refine x_iald sh_68 dX1_isWord_30 ?_
    refine x_isub dX1_isWord_31 ?_
    refine x_aload_n (q := 1) rfl rfl dX1_isWord_32 ?_
    refine x_callTR (av := []) (st := [.int ((im 69 (ix (im 66 7))) - (im 68 (ix (im 66 7))))]) (m_J0_length_8abf5 h1  im) h1 rfl rfl (by decide) (by decide) lk_X1_162 cd_J0_length_8abf5 xd_J0_length_8abf5 rfl (Nat.le_of_ble_eq_true rfl) dX1_isWord_33 ?_
    refine x_icmp_eq (tgt := 41) dX1_isWord_36 (by decide) ?_ ?_
    · refine x_iconst (v := (0)) (by decide) dX1_isWord_41 ?_
      refine x_istore_n (lv' := [(2, .int 0), (0, .ref (g.1 66)), (1, .ref (g.2.2.2.1.1 a1))]) rfl dX1_isWord_42 (by decide) rfl ?_
      refine x_sub [1, 2, 0] rfl ?_
      exact s_X1_isWord_l2 h1 im xF 0
    · refine x_sub [] rfl ?_
      exact s_X1_isWord_j1 h1 im
theorem m_X1_isWord {g : GX} {a1 : Nat} (h1 : a1 < 19)  (im : IM) (r : Int32) (hr : f_X1_isWord a1 im = some r) : xMet g 4 yX1_isWord cX1_isWord 3 (some .boolean) [.ref (g.1 66), .ref (g.2.2.2.1.1 a1)] im ((eR im) r) := x_met (by decide) (Nat.le_of_ble_eq_true rfl) rfl (s_X1_isWord h1 im) r hr
abbrev md_X1_goOn : xM := (0, 1, RX1, cX1_goOn, none)
def f_X1_goOn  (im : IM) : IM :=
  if ((im 66 6) - 1) ≤ (im 66 7) then
    im
  else
    bnd (up im 66 7 ((im 66 7) + 1)) fun m1 =>
    m1
set_option maxRecDepth 20000 in
set_option maxHeartbeats 4000000 in
theorem s_X1_goOn {g : GX}   (im : IM) : X g md_X1_goOn eV 0 [(0, .ref (g.1 66))] [] im (some (f_X1_goOn im)) := by
  refine x_aload_n (q := 0) rfl rfl dX1_goOn_0 ?_
  refine x_get (C := RX1) (T := TX1) sh_66 (by decide) rfl in_X1 7 (by decide) fl_X1_34 xf_1_7 dX1_goOn_1 ?_
  refine x_aload_n (q := 0) rfl rfl dX1_goOn_4 ?_
  refine x_get (C := RX1) (T := TX1) sh_66 (by decide) rfl in_X1 6 (by decide) fl_X1_31 xf_1_6 dX1_goOn_5 ?_
  refine x_iconst (v := (1)) (by decide) dX1_goOn_8 ?_
  refine x_isub dX1_goOn_9 ?_
  refine x_cs ?_
  refine x_icmp_ge (tgt := 23) dX1_goOn_10 (by decide) ?_ ?_
  · exact x_vret rfl rfl dX1_goOn_23
  · refine x_aload_n (q := 0) rfl rfl dX1_goOn_13 ?_
    refine x_dup rfl dX1_goOn_14 ?_
    refine x_get (C := RX1) (T := TX1) sh_66 (by decide) rfl in_X1 7 (by decide) fl_X1_34 xf_1_7 dX1_goOn_15 ?_
    refine x_iconst (v := (1)) (by decide) dX1_goOn_18 ?_
    refine x_iadd dX1_goOn_19 ?_
    refine x_put (C := RX1) (T := TX1) (ty := .int) tyX1 tyX1_ok nmX1 sh_66 (by decide) rfl in_X1 7 (by decide) (by decide) fl_X1_34 rfl (by decide +kernel) rfl rfl dX1_goOn_20 ?_
    refine x_bs (x_bm (fun m1 => ?_))
    exact x_vret rfl rfl dX1_goOn_23
theorem m_X1_goOn {g : GX}   (im : IM) : xMet g 0 yX1_goOn cX1_goOn 1 none [.ref (g.1 66)] im (eV (f_X1_goOn im)) := x_met (by decide) (Nat.le_of_ble_eq_true rfl) rfl (s_X1_goOn im) _ rfl
abbrev md_X1_takeWord : xM := (5, 3, RX1, cX1_takeWord, (some .boolean))
def f_X1_takeWord_j1 (a1 : Nat)  (x2 : Int32) (im : IM) : Option (Int32 × IM) :=
  some ((zb x2, im))
set_option maxRecDepth 20000 in
set_option maxHeartbeats 4000000 in
theorem s_X1_takeWord_j1 {g : GX} {a1 : Nat} (h1 : a1 < 19)    (x2 : Int32)  (im : IM) : X g md_X1_takeWord eI 14 [(2, .int x2)] [] im (f_X1_takeWord_j1 a1 x2 im) := by
  refine x_iload_n (q := 0) rfl rfl dX1_takeWord_14 ?_
  exact x_nret (y := zb x2) rfl rfl rfl dX1_takeWord_15
def f_X1_takeWord (a1 : Nat) (im : IM) : Option (Int32 × IM) :=
  (f_X1_isWord a1 im).bind fun r1 =>
  if r1 = 0 then
    f_X1_takeWord_j1 a1 r1 im
  else
    bnd (f_X1_goOn im) fun m2 =>
    f_X1_takeWord_j1 a1 r1 m2
set_option maxRecDepth 20000 in
set_option maxHeartbeats 4000000 in
theorem s_X1_takeWord {g : GX} {a1 : Nat} (h1 : a1 < 19)  (im : IM) : X g md_X1_takeWord eI 0 [(0, .ref (g.1 66)), (1, .ref (g.2.2.2.1.1 a1))] [] im (f_X1_takeWord a1 im) := by
  refine x_aload_n (q := 0) rfl rfl dX1_takeWord_0 ?_
  refine x_aload_n (q := 1) rfl rfl dX1_takeWord_1 ?_
  refine x_bind (fun r1 er1 => ?_)
  refine x_callVR (av := [.ref (g.2.2.2.1.1 a1)]) (st := []) (m_X1_isWord h1  im r1 er1) sh_66 (by decide) rfl rfl (by decide) (by decide) lk_X1_93 cd_X1_isWord xd_X1_isWord rfl (Nat.le_of_ble_eq_true rfl) dX1_takeWord_2 ?_
  refine x_istore_n (lv' := [(2, .int r1), (0, .ref (g.1 66)), (1, .ref (g.2.2.2.1.1 a1))]) rfl dX1_takeWord_5 (by decide) rfl ?_
  refine x_iload_n (q := 0) rfl rfl dX1_takeWord_6 ?_
  refine x_if_eq (tgt := 14) dX1_takeWord_7 (by decide) ?_ ?_
  · refine x_sub [0] rfl ?_
    exact s_X1_takeWord_j1 h1 r1 im
  · refine x_aload_n (q := 1) rfl rfl dX1_takeWord_10 ?_
    refine x_callVV (av := []) (st := []) (m_X1_goOn   im) sh_66 (by decide) rfl rfl (by decide) (by decide) lk_X1_137 cd_X1_goOn xd_X1_goOn rfl (Nat.le_of_ble_eq_true rfl) dX1_takeWord_11 ?_
    refine x_bm (fun m2 => ?_)
    refine x_sub [0] rfl ?_
    exact s_X1_takeWord_j1 h1 r1 m2
theorem m_X1_takeWord {g : GX} {a1 : Nat} (h1 : a1 < 19)  (im : IM) (r : Int32 × IM) (hr : f_X1_takeWord a1 im = some r) : xMet g 5 yX1_takeWord cX1_takeWord 3 (some .boolean) [.ref (g.1 66), .ref (g.2.2.2.1.1 a1)] im (eI r) := x_met (by decide) (Nat.le_of_ble_eq_true rfl) rfl (s_X1_takeWord h1 im) r hr
abbrev md_X1_takeNumber : xM := (1, 3, RX1, cX1_takeNumber, (some .boolean))
def f_X1_takeNumber_j1 (a1 : Int32) (a2 : Int32)   (im : IM) : Option (Int32 × IM) :=
  some ((0, im))
set_option maxRecDepth 20000 in
set_option maxHeartbeats 4000000 in
theorem s_X1_takeNumber_j1 {g : GX} (a1 : Int32) (a2 : Int32)      (im : IM) : X g md_X1_takeNumber eI 30 [] [] im (f_X1_takeNumber_j1 a1 a2 im) := by
  refine x_iconst (v := (0)) (by decide) dX1_takeNumber_30 ?_
  exact x_nret (y := 0) rfl rfl (by decide) dX1_takeNumber_31
def f_X1_takeNumber (a1 : Int32) (a2 : Int32) (im : IM) : Option (Int32 × IM) :=
  if inb (im 66 7) 121 = true then
    if (im 70 (ix (im 66 7))) = 2 then
      if inb (im 66 7) 121 = true then
        if (f_X6_within (im 71 (ix (im 66 7))) a1 a2) = 0 then
          f_X1_takeNumber_j1 a1 a2 im
        else
          if inb (im 66 7) 121 = true then
            bnd (up im 66 8 (im 71 (ix (im 66 7)))) fun m1 =>
            bnd (f_X1_goOn m1) fun m2 =>
            some ((1, m2))
          else none
      else none
    else
      f_X1_takeNumber_j1 a1 a2 im
  else none
set_option maxRecDepth 20000 in
set_option maxHeartbeats 4000000 in
theorem s_X1_takeNumber {g : GX}   (a1 : Int32) (a2 : Int32) (im : IM) : X g md_X1_takeNumber eI 0 [(0, .ref (g.1 66)), (1, .int a1), (2, .int a2)] [] im (f_X1_takeNumber a1 a2 im) := by
  refine x_aload_n (q := 0) rfl rfl dX1_takeNumber_0 ?_
  refine x_get (C := RX1) (T := TX1) sh_66 (by decide) rfl in_X1 4 (by decide) fl_X1_25 xf_1_4 dX1_takeNumber_1 ?_
  refine x_aload_n (q := 0) rfl rfl dX1_takeNumber_4 ?_
  refine x_get (C := RX1) (T := TX1) sh_66 (by decide) rfl in_X1 7 (by decide) fl_X1_34 xf_1_7 dX1_takeNumber_5 ?_
  refine x_iald sh_70 dX1_takeNumber_8 ?_
  refine x_iconst (v := (2)) (by decide) dX1_takeNumber_9 ?_
  refine x_icmp_ne (tgt := 30) dX1_takeNumber_10 (by decide) ?_ ?_
  · refine x_sub [] rfl ?_
    exact s_X1_takeNumber_j1 a1 a2 im
  · refine x_aload_n (q := 0) rfl rfl dX1_takeNumber_13 ?_
    refine x_get (C := RX1) (T := TX1) sh_66 (by decide) rfl in_X1 5 (by decide) fl_X1_28 xf_1_5 dX1_takeNumber_14 ?_
    refine x_aload_n (q := 0) rfl rfl dX1_takeNumber_17 ?_
    refine x_get (C := RX1) (T := TX1) sh_66 (by decide) rfl in_X1 7 (by decide) fl_X1_34 xf_1_7 dX1_takeNumber_18 ?_
    refine x_iald sh_71 dX1_takeNumber_21 ?_
    refine x_iload_n (q := 1) rfl rfl dX1_takeNumber_22 ?_
    refine x_iload_n (q := 2) rfl rfl dX1_takeNumber_23 ?_
    refine x_callSR (av := [.int (im 71 (ix (im 66 7))), .int a1, .int a2]) (st := []) (m_X6_within  ((im 71 (ix (im 66 7)))) a1 a2 im) rfl (by decide) (by decide) lk_X1_74 cd_X6_within xd_X6_within rfl (Nat.le_of_ble_eq_true rfl) dX1_takeNumber_24 ?_
    refine x_if_ne (tgt := 32) dX1_takeNumber_27 (by decide) ?_ ?_
    · refine x_aload_n (q := 0) rfl rfl dX1_takeNumber_32 ?_
      refine x_aload_n (q := 0) rfl rfl dX1_takeNumber_33 ?_
      refine x_get (C := RX1) (T := TX1) sh_66 (by decide) rfl in_X1 5 (by decide) fl_X1_28 xf_1_5 dX1_takeNumber_34 ?_
      refine x_aload_n (q := 0) rfl rfl dX1_takeNumber_37 ?_
      refine x_get (C := RX1) (T := TX1) sh_66 (by decide) rfl in_X1 7 (by decide) fl_X1_34 xf_1_7 dX1_takeNumber_38 ?_
      refine x_iald sh_71 dX1_takeNumber_41 ?_
      refine x_put (C := RX1) (T := TX1) (ty := .int) tyX1 tyX1_ok nmX1 sh_66 (by decide) rfl in_X1 8 (by decide) (by decide) fl_X1_37 rfl (by decide +kernel) rfl rfl dX1_takeNumber_42 ?_
      refine x_bm (fun m1 => ?_)
      refine x_aload_n (q := 0) rfl rfl dX1_takeNumber_45 ?_
      refine x_callVV (av := []) (st := []) (m_X1_goOn   m1) sh_66 (by decide) rfl rfl (by decide) (by decide) lk_X1_137 cd_X1_goOn xd_X1_goOn rfl (Nat.le_of_ble_eq_true rfl) dX1_takeNumber_46 ?_
      refine x_bm (fun m2 => ?_)
      refine x_iconst (v := (1)) (by decide) dX1_takeNumber_49 ?_
      exact x_nret (y := 1) rfl rfl (by decide) dX1_takeNumber_50
    · refine x_sub [] rfl ?_
      exact s_X1_takeNumber_j1 a1 a2 im
theorem m_X1_takeNumber {g : GX}   (a1 : Int32) (a2 : Int32) (im : IM) (r : Int32 × IM) (hr : f_X1_takeNumber a1 a2 im = some r) : xMet g 1 yX1_takeNumber cX1_takeNumber 3 (some .boolean) [.ref (g.1 66), .int a1, .int a2] im (eI r) := x_met (by decide) (Nat.le_of_ble_eq_true rfl) rfl (s_X1_takeNumber a1 a2 im) r hr
abbrev md_X1_takeCells : xM := (6, 1, RX1, cX1_takeCells, (some .boolean))
def f_X1_takeCells  (im : IM) : Option (Int32 × IM) :=
  (f_X1_takeNumber 0 30 im).bind fun r1 =>
  if r1.1 = 0 then
    some ((0, r1.2))
  else
    bnd (up r1.2 66 9 (r1.2 66 8)) fun m2 =>
    bnd (up m2 66 10 (m2 66 8)) fun m3 =>
    (f_X1_takeWord 3 m3).bind fun r4 =>
    if r4.1 = 0 then
      some ((1, r4.2))
    else
      (f_X1_takeNumber (r4.2 66 9) 30 r4.2).bind fun r5 =>
      if r5.1 = 0 then
        some ((0, r5.2))
      else
        bnd (up r5.2 66 10 (r5.2 66 8)) fun m6 =>
        some ((1, m6))
set_option maxRecDepth 20000 in
set_option maxHeartbeats 4000000 in
theorem s_X1_takeCells {g : GX}   (im : IM) : X g md_X1_takeCells eI 0 [(0, .ref (g.1 66))] [] im (f_X1_takeCells im) := by
  refine x_aload_n (q := 0) rfl rfl dX1_takeCells_0 ?_
  refine x_iconst (v := (0)) (by decide) dX1_takeCells_1 ?_
  refine x_bipush (v := (30)) (by decide) dX1_takeCells_2 ?_
  refine x_bind (fun r1 er1 => ?_)
  refine x_callVI (av := [.int 0, .int 30]) (st := []) (m_X1_takeNumber  0 30 im r1 er1) sh_66 (by decide) rfl rfl (by decide) (by decide) lk_X1_123 cd_X1_takeNumber xd_X1_takeNumber rfl (Nat.le_of_ble_eq_true rfl) dX1_takeCells_4 ?_
  refine x_if_ne (tgt := 12) dX1_takeCells_7 (by decide) ?_ ?_
  · refine x_aload_n (q := 0) rfl rfl dX1_takeCells_12 ?_
    refine x_aload_n (q := 0) rfl rfl dX1_takeCells_13 ?_
    refine x_get (C := RX1) (T := TX1) sh_66 (by decide) rfl in_X1 8 (by decide) fl_X1_37 xf_1_8 dX1_takeCells_14 ?_
    refine x_put (C := RX1) (T := TX1) (ty := .int) tyX1 tyX1_ok nmX1 sh_66 (by decide) rfl in_X1 9 (by decide) (by decide) fl_X1_40 rfl (by decide +kernel) rfl rfl dX1_takeCells_17 ?_
    refine x_bm (fun m2 => ?_)
    refine x_aload_n (q := 0) rfl rfl dX1_takeCells_20 ?_
    refine x_aload_n (q := 0) rfl rfl dX1_takeCells_21 ?_
    refine x_get (C := RX1) (T := TX1) sh_66 (by decide) rfl in_X1 8 (by decide) fl_X1_37 xf_1_8 dX1_takeCells_22 ?_
    refine x_put (C := RX1) (T := TX1) (ty := .int) tyX1 tyX1_ok nmX1 sh_66 (by decide) rfl in_X1 10 (by decide) (by decide) fl_X1_43 rfl (by decide +kernel) rfl rfl dX1_takeCells_25 ?_
    refine x_bm (fun m3 => ?_)
    refine x_aload_n (q := 0) rfl rfl dX1_takeCells_28 ?_
    refine x_ldcS 3 (by decide) dX1_takeCells_29 ?_
    refine x_bind (fun r4 er4 => ?_)
    refine x_callVI (av := [.ref (g.2.2.2.1.1 3)]) (st := []) (m_X1_takeWord (by decide)  m3 r4 er4) sh_66 (by decide) rfl rfl (by decide) (by decide) lk_X1_82 cd_X1_takeWord xd_X1_takeWord rfl (Nat.le_of_ble_eq_true rfl) dX1_takeCells_31 ?_
    refine x_if_ne (tgt := 39) dX1_takeCells_34 (by decide) ?_ ?_
    · refine x_aload_n (q := 0) rfl rfl dX1_takeCells_39 ?_
      refine x_aload_n (q := 0) rfl rfl dX1_takeCells_40 ?_
      refine x_get (C := RX1) (T := TX1) sh_66 (by decide) rfl in_X1 9 (by decide) fl_X1_40 xf_1_9 dX1_takeCells_41 ?_
      refine x_bipush (v := (30)) (by decide) dX1_takeCells_44 ?_
      refine x_bind (fun r5 er5 => ?_)
      refine x_callVI (av := [.int (r4.2 66 9), .int 30]) (st := []) (m_X1_takeNumber  ((r4.2 66 9)) 30 r4.2 r5 er5) sh_66 (by decide) rfl rfl (by decide) (by decide) lk_X1_123 cd_X1_takeNumber xd_X1_takeNumber rfl (Nat.le_of_ble_eq_true rfl) dX1_takeCells_46 ?_
      refine x_if_ne (tgt := 54) dX1_takeCells_49 (by decide) ?_ ?_
      · refine x_aload_n (q := 0) rfl rfl dX1_takeCells_54 ?_
        refine x_aload_n (q := 0) rfl rfl dX1_takeCells_55 ?_
        refine x_get (C := RX1) (T := TX1) sh_66 (by decide) rfl in_X1 8 (by decide) fl_X1_37 xf_1_8 dX1_takeCells_56 ?_
        refine x_put (C := RX1) (T := TX1) (ty := .int) tyX1 tyX1_ok nmX1 sh_66 (by decide) rfl in_X1 10 (by decide) (by decide) fl_X1_43 rfl (by decide +kernel) rfl rfl dX1_takeCells_59 ?_
        refine x_bm (fun m6 => ?_)
        refine x_iconst (v := (1)) (by decide) dX1_takeCells_62 ?_
        exact x_nret (y := 1) rfl rfl (by decide) dX1_takeCells_63
      · refine x_iconst (v := (0)) (by decide) dX1_takeCells_52 ?_
        exact x_nret (y := 0) rfl rfl (by decide) dX1_takeCells_53
    · refine x_iconst (v := (1)) (by decide) dX1_takeCells_37 ?_
      exact x_nret (y := 1) rfl rfl (by decide) dX1_takeCells_38
  · refine x_iconst (v := (0)) (by decide) dX1_takeCells_10 ?_
    exact x_nret (y := 0) rfl rfl (by decide) dX1_takeCells_11
theorem m_X1_takeCells {g : GX}   (im : IM) (r : Int32 × IM) (hr : f_X1_takeCells im = some r) : xMet g 6 yX1_takeCells cX1_takeCells 1 (some .boolean) [.ref (g.1 66)] im (eI r) := x_met (by decide) (Nat.le_of_ble_eq_true rfl) rfl (s_X1_takeCells im) r hr
abbrev md_X1_readGround : xM := (7, 4, RX1, cX1_readGround, (some .boolean))
def f_X1_readGround_l1b (a1 : Nat) (a2 : Int32)   (k14 : Int32 → IM → Option (Int32 × IM)) (x3 : Int32) (im : IM) : Option (Int32 × IM) :=
  if (im 66 10) < x3 then
    some ((1, im))
  else
    if inb x3 31 = true then
      bnd (up im (a1 + 2) (ix x3) a2) fun m3 =>
      bnd (x3 + 1) fun v4 =>
      k14 v4 m3
    else none
def f_X1_readGround_l1 (a1 : Nat) (a2 : Int32)   : Nat → Int32 → IM → Option (Int32 × IM)
  | 0, _, _ => none
  | n + 1, x3, im => f_X1_readGround_l1b a1 a2 (f_X1_readGround_l1 a1 a2 n) x3 im
set_option maxRecDepth 20000 in
set_option maxHeartbeats 4000000 in
theorem s_X1_readGround_l1b {g : GX} {a1 : Nat} (h1 : xTo a1) (a2 : Int32)    (k14 : Int32 → IM → Option (Int32 × IM)) (hk14 : ∀ (x3 : Int32) (im : IM), X g md_X1_readGround eI 14 [(0, .ref (g.1 66)), (1, .ref (g.1 a1)), (2, .int a2), (3, .int x3)] [] im (k14 x3 im)) (x3 : Int32)  (im : IM) : X g md_X1_readGround eI 14 [(0, .ref (g.1 66)), (1, .ref (g.1 a1)), (2, .int a2), (3, .int x3)] [] im (f_X1_readGround_l1b a1 a2 k14 x3 im) := by
  refine x_iload_n (q := 3) rfl rfl dX1_readGround_14 ?_
  refine x_aload_n (q := 0) rfl rfl dX1_readGround_15 ?_
  refine x_get (C := RX1) (T := TX1) sh_66 (by decide) rfl in_X1 10 (by decide) fl_X1_43 xf_1_10 dX1_readGround_16 ?_
  refine x_icmp_gt (tgt := 35) dX1_readGround_19 (by decide) ?_ ?_
  · refine x_iconst (v := (1)) (by decide) dX1_readGround_35 ?_
    exact x_nret (y := 1) rfl rfl (by decide) dX1_readGround_36
  · refine x_aload_n (q := 1) rfl rfl dX1_readGround_22 ?_
    refine x_get (C := RX5) (T := TX5) (xTo_o h1) (by decide) rfl in_X5 1 (by decide) fl_X1_118 xf_5_1 dX1_readGround_23 ?_
    refine x_iload_n (q := 3) rfl rfl dX1_readGround_26 ?_
    refine x_iload_n (q := 2) rfl rfl dX1_readGround_27 ?_
    refine x_iast (xTo_2 h1) dX1_readGround_28 ?_
    refine x_bm (fun m3 => ?_)
    refine x_iinc (q := 3) (a := 1) (lv' := fun v4 => [(3, .int v4), (0, .ref (g.1 66)), (1, .ref (g.1 a1)), (2, .int a2)]) dX1_readGround_29 rfl (by decide) (by decide) (fun _ => rfl) (fun v4 => ?_)
    refine x_goto (tgt := 14) dX1_readGround_32 (by decide) ?_
    refine x_sub [1, 2, 3, 0] rfl ?_
    exact hk14 v4 m3
set_option maxRecDepth 20000 in
set_option maxHeartbeats 4000000 in
theorem s_X1_readGround_l1 {g : GX} {a1 : Nat} (h1 : xTo a1) (a2 : Int32)    (n : Nat) : ∀ (x3 : Int32) (im : IM), X g md_X1_readGround eI 14 [(0, .ref (g.1 66)), (1, .ref (g.1 a1)), (2, .int a2), (3, .int x3)] [] im (f_X1_readGround_l1 a1 a2 n x3 im) := by
  induction n with
  | zero => intro x3 im; exact x_none
  | succ n ih => intro x3 im; exact s_X1_readGround_l1b h1 a2 (f_X1_readGround_l1 a1 a2 n) ih x3 im
def f_X1_readGround (a1 : Nat) (a2 : Int32) (im : IM) : Option (Int32 × IM) :=
  (f_X1_takeCells im).bind fun r1 =>
  if r1.1 = 0 then
    some ((0, r1.2))
  else
    bnd (r1.2 66 9) fun v2 =>
    f_X1_readGround_l1 a1 a2 xF v2 r1.2
set_option maxRecDepth 20000 in
set_option maxHeartbeats 4000000 in
theorem s_X1_readGround {g : GX} {a1 : Nat} (h1 : xTo a1)   (a2 : Int32) (im : IM) : X g md_X1_readGround eI 0 [(0, .ref (g.1 66)), (1, .ref (g.1 a1)), (2, .int a2)] [] im (f_X1_readGround a1 a2 im) := by
  refine x_aload_n (q := 0) rfl rfl dX1_readGround_0 ?_
  refine x_bind (fun r1 er1 => ?_)
  refine x_callVI (av := []) (st := []) (m_X1_takeCells   im r1 er1) sh_66 (by decide) rfl rfl (by decide) (by decide) lk_X1_115 cd_X1_takeCells xd_X1_takeCells rfl (Nat.le_of_ble_eq_true rfl) dX1_readGround_1 ?_
  refine x_if_ne (tgt := 9) dX1_readGround_4 (by decide) ?_ ?_
  · refine x_aload_n (q := 0) rfl rfl dX1_readGround_9 ?_
    refine x_get (C := RX1) (T := TX1) sh_66 (by decide) rfl in_X1 9 (by decide) fl_X1_40 xf_1_9 dX1_readGround_10 ?_
    refine x_bi (fun v2 => ?_)
    refine x_istore_n (lv' := [(3, .int v2), (0, .ref (g.1 66)), (1, .ref (g.1 a1)), (2, .int a2)]) rfl dX1_readGround_13 (by decide) rfl ?_
    refine x_sub [1, 2, 3, 0] rfl ?_
    exact s_X1_readGround_l1 h1 a2 xF v2 r1.2
  · refine x_iconst (v := (0)) (by decide) dX1_readGround_7 ?_
    exact x_nret (y := 0) rfl rfl (by decide) dX1_readGround_8
theorem m_X1_readGround {g : GX} {a1 : Nat} (h1 : xTo a1)   (a2 : Int32) (im : IM) (r : Int32 × IM) (hr : f_X1_readGround a1 a2 im = some r) : xMet g 7 yX1_readGround cX1_readGround 4 (some .boolean) [.ref (g.1 66), .ref (g.1 a1), .int a2] im (eI r) := x_met (by decide) (Nat.le_of_ble_eq_true rfl) rfl (s_X1_readGround h1 a2 im) r hr
abbrev md_X1_nameOfKind : xM := (0, 1, RX1, cX1_nameOfKind, (some (.object "java/lang/String")))
def f_X1_nameOfKind (a0 : Int32)  : Nat :=
  if a0 = 0 then
    12
  else if a0 = 1 then
    13
  else if a0 = 2 then
    14
  else if a0 = 3 then
    15
  else if a0 = 4 then
    16
  else if a0 = 5 then
    17
  else 
    18
set_option maxRecDepth 20000 in
set_option maxHeartbeats 4000000 in
theorem s_X1_nameOfKind {g : GX}  (a0 : Int32) (im : IM) : X g md_X1_nameOfKind (eA g im) 0 [(0, .int a0)] [] im (some (f_X1_nameOfKind a0)) := by
  refine x_iload_n (q := 0) rfl rfl dX1_nameOfKind_0 ?_
  refine x_cs (x_case (k := 0) (fun hx1_0 => ?_) (fun hx1_0 => ?_))
  · refine x_tsw (off := 39) (tgt := 40) dX1_nameOfKind_1 (by rw [hx1_0]; decide) (by rw [hx1_0]; decide) (by rw [hx1_0]; rfl) (by decide) ?_
    refine x_ldcS 12 (by decide) dX1_nameOfKind_40 ?_
    exact x_aret rfl rfl (Or.inl ⟨_, rfl⟩) dX1_nameOfKind_42
  refine x_cs (x_case (k := 1) (fun hx1_1 => ?_) (fun hx1_1 => ?_))
  · refine x_tsw (off := 42) (tgt := 43) dX1_nameOfKind_1 (by rw [hx1_1]; decide) (by rw [hx1_1]; decide) (by rw [hx1_1]; rfl) (by decide) ?_
    refine x_ldcS 13 (by decide) dX1_nameOfKind_43 ?_
    exact x_aret rfl rfl (Or.inl ⟨_, rfl⟩) dX1_nameOfKind_45
  refine x_cs (x_case (k := 2) (fun hx1_2 => ?_) (fun hx1_2 => ?_))
  · refine x_tsw (off := 45) (tgt := 46) dX1_nameOfKind_1 (by rw [hx1_2]; decide) (by rw [hx1_2]; decide) (by rw [hx1_2]; rfl) (by decide) ?_
    refine x_ldcS 14 (by decide) dX1_nameOfKind_46 ?_
    exact x_aret rfl rfl (Or.inl ⟨_, rfl⟩) dX1_nameOfKind_48
  refine x_cs (x_case (k := 3) (fun hx1_3 => ?_) (fun hx1_3 => ?_))
  · refine x_tsw (off := 48) (tgt := 49) dX1_nameOfKind_1 (by rw [hx1_3]; decide) (by rw [hx1_3]; decide) (by rw [hx1_3]; rfl) (by decide) ?_
    refine x_ldcS 15 (by decide) dX1_nameOfKind_49 ?_
    exact x_aret rfl rfl (Or.inl ⟨_, rfl⟩) dX1_nameOfKind_51
  refine x_cs (x_case (k := 4) (fun hx1_4 => ?_) (fun hx1_4 => ?_))
  · refine x_tsw (off := 51) (tgt := 52) dX1_nameOfKind_1 (by rw [hx1_4]; decide) (by rw [hx1_4]; decide) (by rw [hx1_4]; rfl) (by decide) ?_
    refine x_ldcS 16 (by decide) dX1_nameOfKind_52 ?_
    exact x_aret rfl rfl (Or.inl ⟨_, rfl⟩) dX1_nameOfKind_54
  refine x_cs (x_case (k := 5) (fun hx1_5 => ?_) (fun hx1_5 => ?_))
  · refine x_tsw (off := 54) (tgt := 55) dX1_nameOfKind_1 (by rw [hx1_5]; decide) (by rw [hx1_5]; decide) (by rw [hx1_5]; rfl) (by decide) ?_
    refine x_ldcS 17 (by decide) dX1_nameOfKind_55 ?_
    exact x_aret rfl rfl (Or.inl ⟨_, rfl⟩) dX1_nameOfKind_57
  have ho1 : (a0).toInt < 0 ∨ 5 < (a0).toInt := by
    refine x_out (fun k h1 h2 => ?_)
    have hk : k = 0 ∨ k = 1 ∨ k = 2 ∨ k = 3 ∨ k = 4 ∨ k = 5 := by omega
    rcases hk with rfl | rfl | rfl | rfl | rfl | rfl
    · exact hx1_0
    · exact hx1_1
    · exact hx1_2
    · exact hx1_3
    · exact hx1_4
    · exact hx1_5
  refine x_tsd (tgt := 58) dX1_nameOfKind_1 ho1 (by decide) ?_
  refine x_ldcS 18 (by decide) dX1_nameOfKind_58 ?_
  exact x_aret rfl rfl (Or.inl ⟨_, rfl⟩) dX1_nameOfKind_60
theorem m_X1_nameOfKind {g : GX}  (a0 : Int32) (im : IM) : xMet g 0 yX1_nameOfKind cX1_nameOfKind 1 (some (.object "java/lang/String")) [.int a0] im ((eA g im) (f_X1_nameOfKind a0)) := x_met (by decide) (Nat.le_of_ble_eq_true rfl) rfl (s_X1_nameOfKind a0 im) _ rfl
theorem l_X1_nameOfKind (a0 : Int32) : f_X1_nameOfKind a0 < 19 := by
  unfold f_X1_nameOfKind
  repeat' split
  all_goals decide
abbrev md_X1_readThing : xM := (6, 4, RX1, cX1_readThing, (some .boolean))
def f_X1_readThing_j3 (a1 : Nat) (a2 : Int32)   (im : IM) : Option (Int32 × IM) :=
  some ((1, im))
set_option maxRecDepth 20000 in
set_option maxHeartbeats 4000000 in
theorem s_X1_readThing_j3 {g : GX} {a1 : Nat} (h1 : xTo a1) (a2 : Int32)      (im : IM) : X g md_X1_readThing eI 110 [] [] im (f_X1_readThing_j3 a1 a2 im) := by
  refine x_iconst (v := (1)) (by decide) dX1_readThing_110 ?_
  exact x_nret (y := 1) rfl rfl (by decide) dX1_readThing_111
def f_X1_readThing_j2 (a1 : Nat) (a2 : Int32)  (x3 : Nat) (im : IM) : Option (Int32 × IM) :=
  (f_X1_takeWord 6 im).bind fun r7 =>
  if r7.1 = 0 then
    f_X1_readThing_j3 a1 a2 r7.2
  else
    (f_X1_takeNumber 0 9 r7.2).bind fun r8 =>
    if r8.1 = 0 then
      some ((0, r8.2))
    else
      bnd (up r8.2 x3 3 (r8.2 66 8)) fun m9 =>
      f_X1_readThing_j3 a1 a2 m9
set_option maxRecDepth 20000 in
set_option maxHeartbeats 4000000 in
theorem s_X1_readThing_j2 {g : GX} {a1 : Nat} (h1 : xTo a1) (a2 : Int32)    (x3 : Nat) (hx3 : xSH x3 = (4, 8)) (im : IM) : X g md_X1_readThing eI 81 [(0, .ref (g.1 66)), (3, .ref (g.1 x3))] [] im (f_X1_readThing_j2 a1 a2 x3 im) := by
  refine x_aload_n (q := 0) rfl rfl dX1_readThing_81 ?_
  refine x_ldcS 6 (by decide) dX1_readThing_82 ?_
  refine x_bind (fun r7 er7 => ?_)
  refine x_callVI (av := [.ref (g.2.2.2.1.1 6)]) (st := []) (m_X1_takeWord (by decide)  im r7 er7) sh_66 (by decide) rfl rfl (by decide) (by decide) lk_X1_82 cd_X1_takeWord xd_X1_takeWord rfl (Nat.le_of_ble_eq_true rfl) dX1_readThing_84 ?_
  refine x_if_eq (tgt := 110) dX1_readThing_87 (by decide) ?_ ?_
  · refine x_sub [] rfl ?_
    exact s_X1_readThing_j3 h1 a2 r7.2
  · refine x_aload_n (q := 0) rfl rfl dX1_readThing_90 ?_
    refine x_iconst (v := (0)) (by decide) dX1_readThing_91 ?_
    refine x_bipush (v := (9)) (by decide) dX1_readThing_92 ?_
    refine x_bind (fun r8 er8 => ?_)
    refine x_callVI (av := [.int 0, .int 9]) (st := []) (m_X1_takeNumber  0 9 r7.2 r8 er8) sh_66 (by decide) rfl rfl (by decide) (by decide) lk_X1_123 cd_X1_takeNumber xd_X1_takeNumber rfl (Nat.le_of_ble_eq_true rfl) dX1_readThing_94 ?_
    refine x_if_ne (tgt := 102) dX1_readThing_97 (by decide) ?_ ?_
    · refine x_aload_n (q := 1) rfl rfl dX1_readThing_102 ?_
      refine x_aload_n (q := 0) rfl rfl dX1_readThing_103 ?_
      refine x_get (C := RX1) (T := TX1) sh_66 (by decide) rfl in_X1 8 (by decide) fl_X1_37 xf_1_8 dX1_readThing_104 ?_
      refine x_put (C := RX4) (T := TX4) (ty := .int) tyX4 tyX4_ok nmX4 hx3 (by decide) rfl in_X4 3 (by decide) (by decide) fl_X1_160 rfl (by decide +kernel) rfl rfl dX1_readThing_107 ?_
      refine x_bm (fun m9 => ?_)
      refine x_sub [] rfl ?_
      exact s_X1_readThing_j3 h1 a2 m9
    · refine x_iconst (v := (0)) (by decide) dX1_readThing_100 ?_
      exact x_nret (y := 0) rfl rfl (by decide) dX1_readThing_101
def f_X1_readThing_j1 (a1 : Nat) (a2 : Int32)  (x3 : Nat) (im : IM) : Option (Int32 × IM) :=
  (f_X1_takeWord 5 im).bind fun r6 =>
  if r6.1 = 0 then
    f_X1_readThing_j2 a1 a2 x3 r6.2
  else
    (f_X1_takeNumber 1 9 r6.2).bind fun r10 =>
    if r10.1 = 0 then
      some ((0, r10.2))
    else
      bnd (up r10.2 x3 2 (r10.2 66 8)) fun m11 =>
      f_X1_readThing_j2 a1 a2 x3 m11
set_option maxRecDepth 20000 in
set_option maxHeartbeats 4000000 in
theorem s_X1_readThing_j1 {g : GX} {a1 : Nat} (h1 : xTo a1) (a2 : Int32)    (x3 : Nat) (hx3 : xSH x3 = (4, 8)) (im : IM) : X g md_X1_readThing eI 52 [(0, .ref (g.1 66)), (3, .ref (g.1 x3))] [] im (f_X1_readThing_j1 a1 a2 x3 im) := by
  refine x_aload_n (q := 0) rfl rfl dX1_readThing_52 ?_
  refine x_ldcS 5 (by decide) dX1_readThing_53 ?_
  refine x_bind (fun r6 er6 => ?_)
  refine x_callVI (av := [.ref (g.2.2.2.1.1 5)]) (st := []) (m_X1_takeWord (by decide)  im r6 er6) sh_66 (by decide) rfl rfl (by decide) (by decide) lk_X1_82 cd_X1_takeWord xd_X1_takeWord rfl (Nat.le_of_ble_eq_true rfl) dX1_readThing_55 ?_
  refine x_if_eq (tgt := 81) dX1_readThing_58 (by decide) ?_ ?_
  · refine x_sub [0, 1] rfl ?_
    exact s_X1_readThing_j2 h1 a2 x3 hx3 r6.2
  · refine x_aload_n (q := 0) rfl rfl dX1_readThing_61 ?_
    refine x_iconst (v := (1)) (by decide) dX1_readThing_62 ?_
    refine x_bipush (v := (9)) (by decide) dX1_readThing_63 ?_
    refine x_bind (fun r10 er10 => ?_)
    refine x_callVI (av := [.int 1, .int 9]) (st := []) (m_X1_takeNumber  1 9 r6.2 r10 er10) sh_66 (by decide) rfl rfl (by decide) (by decide) lk_X1_123 cd_X1_takeNumber xd_X1_takeNumber rfl (Nat.le_of_ble_eq_true rfl) dX1_readThing_65 ?_
    refine x_if_ne (tgt := 73) dX1_readThing_68 (by decide) ?_ ?_
    · refine x_aload_n (q := 1) rfl rfl dX1_readThing_73 ?_
      refine x_aload_n (q := 0) rfl rfl dX1_readThing_74 ?_
      refine x_get (C := RX1) (T := TX1) sh_66 (by decide) rfl in_X1 8 (by decide) fl_X1_37 xf_1_8 dX1_readThing_75 ?_
      refine x_put (C := RX4) (T := TX4) (ty := .int) tyX4 tyX4_ok nmX4 hx3 (by decide) rfl in_X4 2 (by decide) (by decide) fl_X1_156 rfl (by decide +kernel) rfl rfl dX1_readThing_78 ?_
      refine x_bm (fun m11 => ?_)
      refine x_sub [0, 1] rfl ?_
      exact s_X1_readThing_j2 h1 a2 x3 hx3 m11
    · refine x_iconst (v := (0)) (by decide) dX1_readThing_71 ?_
      exact x_nret (y := 0) rfl rfl (by decide) dX1_readThing_72
def f_X1_readThing (a1 : Nat) (a2 : Int32) (im : IM) : Option (Int32 × IM) :=
  bnd (f_X1_goOn im) fun m1 =>
  (f_X5_addThing a1 a2 10 m1).bind fun r2 =>
  bnd ((r2 a1 4) - 1) fun v4 =>
  if inb v4 10 = true then
    (f_X1_takeWord 4 r2).bind fun r5 =>
    if r5.1 = 0 then
      f_X1_readThing_j1 a1 a2 (a1 + 5 + ix v4) r5.2
    else
      (f_X1_takeNumber 1 99 r5.2).bind fun r12 =>
      if r12.1 = 0 then
        some ((0, r12.2))
      else
        bnd (up r12.2 (a1 + 5 + ix v4) 1 (r12.2 66 8)) fun m13 =>
        f_X1_readThing_j1 a1 a2 (a1 + 5 + ix v4) m13
  else none
set_option maxRecDepth 20000 in
set_option maxHeartbeats 4000000 in
theorem s_X1_readThing {g : GX} {a1 : Nat} (h1 : xTo a1)   (a2 : Int32) (im : IM) : X g md_X1_readThing eI 0 [(0, .ref (g.1 66)), (1, .ref (g.1 a1)), (2, .int a2)] [] im (f_X1_readThing a1 a2 im) := by
  refine x_aload_n (q := 0) rfl rfl dX1_readThing_0 ?_
  refine x_callVV (av := []) (st := []) (m_X1_goOn   im) sh_66 (by decide) rfl rfl (by decide) (by decide) lk_X1_137 cd_X1_goOn xd_X1_goOn rfl (Nat.le_of_ble_eq_true rfl) dX1_readThing_1 ?_
  refine x_bm (fun m1 => ?_)
  refine x_aload_n (q := 1) rfl rfl dX1_readThing_4 ?_
  refine x_iload_n (q := 2) rfl rfl dX1_readThing_5 ?_
  refine x_bipush (v := (10)) (by decide) dX1_readThing_6 ?_
  refine x_bind (fun r2 er2 => ?_)
  refine x_callVV (av := [.int a2, .int 10]) (st := []) (m_X5_addThing h1 a2 10 m1 r2 er2) (xTo_o h1) (by decide) rfl rfl (by decide) (by decide) lk_X1_140 cd_X5_addThing xd_X5_addThing rfl (Nat.le_of_ble_eq_true rfl) dX1_readThing_8 ?_
  refine x_aload_n (q := 1) rfl rfl dX1_readThing_11 ?_
  refine x_get (C := RX5) (T := TX5) (xTo_o h1) (by decide) rfl in_X5 2 (by decide) fl_X1_143 xf_5_2 dX1_readThing_12 ?_
  refine x_aload_n (q := 1) rfl rfl dX1_readThing_15 ?_
  refine x_get (C := RX5) (T := TX5) (xTo_o h1) (by decide) rfl in_X5 4 (by decide) fl_X1_147 xf_5_4 dX1_readThing_16 ?_
  refine x_iconst (v := (1)) (by decide) dX1_readThing_19 ?_
  refine x_isub dX1_readThing_20 ?_
  refine x_bi (fun v4 => ?_)
  refine x_aldT (xTo_3 h1) dX1_readThing_21 (fun hi3 => ?_)
  refine x_astore_n (lv' := [(3, .ref (g.1 ((a1 + 5 + ix v4)))), (0, .ref (g.1 66)), (1, .ref (g.1 a1)), (2, .int a2)]) rfl dX1_readThing_22 (by decide) rfl ?_
  refine x_aload_n (q := 1) rfl rfl dX1_readThing_23 ?_
  refine x_ldcS 4 (by decide) dX1_readThing_24 ?_
  refine x_bind (fun r5 er5 => ?_)
  refine x_callVI (av := [.ref (g.2.2.2.1.1 4)]) (st := []) (m_X1_takeWord (by decide)  r2 r5 er5) sh_66 (by decide) rfl rfl (by decide) (by decide) lk_X1_82 cd_X1_takeWord xd_X1_takeWord rfl (Nat.le_of_ble_eq_true rfl) dX1_readThing_26 ?_
  refine x_if_eq (tgt := 52) dX1_readThing_29 (by decide) ?_ ?_
  · refine x_sub [1, 0] rfl ?_
    exact s_X1_readThing_j1 h1 a2 (a1 + 5 + ix v4) (xTh h1 hi3) r5.2
  · refine x_aload_n (q := 1) rfl rfl dX1_readThing_32 ?_
    refine x_iconst (v := (1)) (by decide) dX1_readThing_33 ?_
    refine x_bipush (v := (99)) (by decide) dX1_readThing_34 ?_
    refine x_bind (fun r12 er12 => ?_)
    refine x_callVI (av := [.int 1, .int 99]) (st := []) (m_X1_takeNumber  1 99 r5.2 r12 er12) sh_66 (by decide) rfl rfl (by decide) (by decide) lk_X1_123 cd_X1_takeNumber xd_X1_takeNumber rfl (Nat.le_of_ble_eq_true rfl) dX1_readThing_36 ?_
    refine x_if_ne (tgt := 44) dX1_readThing_39 (by decide) ?_ ?_
    · refine x_aload_n (q := 0) rfl rfl dX1_readThing_44 ?_
      refine x_aload_n (q := 1) rfl rfl dX1_readThing_45 ?_
      refine x_get (C := RX1) (T := TX1) sh_66 (by decide) rfl in_X1 8 (by decide) fl_X1_37 xf_1_8 dX1_readThing_46 ?_
      refine x_put (C := RX4) (T := TX4) (ty := .int) tyX4 tyX4_ok nmX4 (xTh h1 hi3) (by decide) rfl in_X4 1 (by decide) (by decide) fl_X1_150 rfl (by decide +kernel) rfl rfl dX1_readThing_49 ?_
      refine x_bm (fun m13 => ?_)
      refine x_sub [1, 0] rfl ?_
      exact s_X1_readThing_j1 h1 a2 (a1 + 5 + ix v4) (xTh h1 hi3) m13
    · refine x_iconst (v := (0)) (by decide) dX1_readThing_42 ?_
      exact x_nret (y := 0) rfl rfl (by decide) dX1_readThing_43
theorem m_X1_readThing {g : GX} {a1 : Nat} (h1 : xTo a1)   (a2 : Int32) (im : IM) (r : Int32 × IM) (hr : f_X1_readThing a1 a2 im = some r) : xMet g 6 yX1_readThing cX1_readThing 4 (some .boolean) [.ref (g.1 66), .ref (g.1 a1), .int a2] im (eI r) := x_met (by decide) (Nat.le_of_ble_eq_true rfl) rfl (s_X1_readThing h1 a2 im) r hr
abbrev md_X1_takeSign : xM := (1, 3, RX1, cX1_takeSign, (some .boolean))
def f_X1_takeSign_j3 (a1 : Int32)  (x2 : Int32) (im : IM) : Option (Int32 × IM) :=
  some ((zb x2, im))
set_option maxRecDepth 20000 in
set_option maxHeartbeats 4000000 in
theorem s_X1_takeSign_j3 {g : GX} (a1 : Int32)    (x2 : Int32)  (im : IM) : X g md_X1_takeSign eI 45 [(2, .int x2)] [] im (f_X1_takeSign_j3 a1 x2 im) := by
  refine x_iload_n (q := 0) rfl rfl dX1_takeSign_45 ?_
  exact x_nret (y := zb x2) rfl rfl rfl dX1_takeSign_46
def f_X1_takeSign_j2 (a1 : Int32)  (s0 : Int32) (im : IM) : Option (Int32 × IM) :=
  if s0 = 0 then
    f_X1_takeSign_j3 a1 s0 im
  else
    bnd (f_X1_goOn im) fun m1 =>
    f_X1_takeSign_j3 a1 s0 m1
set_option maxRecDepth 20000 in
set_option maxHeartbeats 4000000 in
theorem s_X1_takeSign_j2 {g : GX} (a1 : Int32)    (s0 : Int32)  (im : IM) : X g md_X1_takeSign eI 36 [(0, .ref (g.1 66))] [.int s0] im (f_X1_takeSign_j2 a1 s0 im) := by
  refine x_istore_n (lv' := [(2, .int s0), (0, .ref (g.1 66))]) rfl dX1_takeSign_36 (by decide) rfl ?_
  refine x_iload_n (q := 0) rfl rfl dX1_takeSign_37 ?_
  refine x_if_eq (tgt := 45) dX1_takeSign_38 (by decide) ?_ ?_
  · refine x_sub [0] rfl ?_
    exact s_X1_takeSign_j3 a1 s0 im
  · refine x_aload_n (q := 1) rfl rfl dX1_takeSign_41 ?_
    refine x_callVV (av := []) (st := []) (m_X1_goOn   im) sh_66 (by decide) rfl rfl (by decide) (by decide) lk_X1_137 cd_X1_goOn xd_X1_goOn rfl (Nat.le_of_ble_eq_true rfl) dX1_takeSign_42 ?_
    refine x_bm (fun m1 => ?_)
    refine x_sub [0] rfl ?_
    exact s_X1_takeSign_j3 a1 s0 m1
def f_X1_takeSign_j1 (a1 : Int32)   (im : IM) : Option (Int32 × IM) :=
  f_X1_takeSign_j2 a1 0 im
set_option maxRecDepth 20000 in
set_option maxHeartbeats 4000000 in
theorem s_X1_takeSign_j1 {g : GX} (a1 : Int32)      (im : IM) : X g md_X1_takeSign eI 35 [(0, .ref (g.1 66))] [] im (f_X1_takeSign_j1 a1 im) := by
  refine x_iconst (v := (0)) (by decide) dX1_takeSign_35 ?_
  refine x_sub [0] rfl ?_
  exact s_X1_takeSign_j2 a1 0 im
def f_X1_takeSign (a1 : Int32) (im : IM) : Option (Int32 × IM) :=
  if inb (im 66 7) 121 = true then
    if (im 70 (ix (im 66 7))) = 3 then
      if inb (im 66 7) 121 = true then
        if inb (im 68 (ix (im 66 7))) 120 = true then
          if (im 67 (ix (im 68 (ix (im 66 7))))) = a1 then
            f_X1_takeSign_j2 a1 1 im
          else
            f_X1_takeSign_j1 a1 im
        else none
      else none
    else
      f_X1_takeSign_j1 a1 im
  else none
set_option maxRecDepth 20000 in
set_option maxHeartbeats 4000000 in
theorem s_X1_takeSign {g : GX}  (a1 : Int32) (im : IM) : X g md_X1_takeSign eI 0 [(0, .ref (g.1 66)), (1, .int a1)] [] im (f_X1_takeSign a1 im) := by
  refine x_aload_n (q := 0) rfl rfl dX1_takeSign_0 ?_
  refine x_get (C := RX1) (T := TX1) sh_66 (by decide) rfl in_X1 4 (by decide) fl_X1_25 xf_1_4 dX1_takeSign_1 ?_
  refine x_aload_n (q := 0) rfl rfl dX1_takeSign_4 ?_
  refine x_get (C := RX1) (T := TX1) sh_66 (by decide) rfl in_X1 7 (by decide) fl_X1_34 xf_1_7 dX1_takeSign_5 ?_
  refine x_iald sh_70 dX1_takeSign_8 ?_
  refine x_iconst (v := (3)) (by decide) dX1_takeSign_9 ?_
  refine x_icmp_ne (tgt := 35) dX1_takeSign_10 (by decide) ?_ ?_
  · refine x_sub [0] rfl ?_
    exact s_X1_takeSign_j1 a1 im
  · refine x_aload_n (q := 0) rfl rfl dX1_takeSign_13 ?_
    refine x_get (C := RX1) (T := TX1) sh_66 (by decide) rfl in_X1 0 (by decide) fl_X1_9 xf_1_0 dX1_takeSign_14 ?_
    refine x_aload_n (q := 0) rfl rfl dX1_takeSign_17 ?_
    refine x_get (C := RX1) (T := TX1) sh_66 (by decide) rfl in_X1 2 (by decide) fl_X1_19 xf_1_2 dX1_takeSign_18 ?_
    refine x_aload_n (q := 0) rfl rfl dX1_takeSign_21 ?_
    refine x_get (C := RX1) (T := TX1) sh_66 (by decide) rfl in_X1 7 (by decide) fl_X1_34 xf_1_7 dX1_takeSign_22 ?_
    refine x_iald sh_68 dX1_takeSign_25 ?_
    refine x_iald sh_67 dX1_takeSign_26 ?_
    refine x_iload_n (q := 1) rfl rfl dX1_takeSign_27 ?_
    refine x_icmp_ne (tgt := 35) dX1_takeSign_28 (by decide) ?_ ?_
    · refine x_sub [0] rfl ?_
      exact s_X1_takeSign_j1 a1 im
    · refine x_iconst (v := (1)) (by decide) dX1_takeSign_31 ?_
      refine x_goto (tgt := 36) dX1_takeSign_32 (by decide) ?_
      refine x_sub [0] rfl ?_
      exact s_X1_takeSign_j2 a1 1 im
theorem m_X1_takeSign {g : GX}  (a1 : Int32) (im : IM) (r : Int32 × IM) (hr : f_X1_takeSign a1 im = some r) : xMet g 1 yX1_takeSign cX1_takeSign 3 (some .boolean) [.ref (g.1 66), .int a1] im (eI r) := x_met (by decide) (Nat.le_of_ble_eq_true rfl) rfl (s_X1_takeSign a1 im) r hr
abbrev md_X1_readFall : xM := (7, 4, RX1, cX1_readFall, (some .boolean))
def f_X1_readFall_j1 (a1 : Nat)   (im : IM) : Option (Int32 × IM) :=
  some ((0, im))
set_option maxRecDepth 20000 in
set_option maxHeartbeats 4000000 in
theorem s_X1_readFall_j1 {g : GX} {a1 : Nat} (h1 : xTo a1)      (im : IM) : X g md_X1_readFall eI 16 [] [] im (f_X1_readFall_j1 a1 im) := by
  refine x_iconst (v := (0)) (by decide) dX1_readFall_16 ?_
  exact x_nret (y := 0) rfl rfl (by decide) dX1_readFall_17
def f_X1_readFall_j3 (a1 : Nat) (k42 : Int32 → Int32 → IM → Option (Int32 × IM)) (x2 : Int32) (x3 : Int32) (s0 : Int32) (s1 : Int32) (im : IM) : Option (Int32 × IM) :=
  if inb s1 31 = true then
    bnd (up im (a1 + 1) (ix s1) s0) fun m6 =>
    bnd (x3 + 1) fun v7 =>
    k42 x2 v7 m6
  else none
set_option maxRecDepth 20000 in
set_option maxHeartbeats 4000000 in
theorem s_X1_readFall_j3 {g : GX} {a1 : Nat} (h1 : xTo a1)  (k42 : Int32 → Int32 → IM → Option (Int32 × IM)) (hk42 : ∀ (x2 : Int32) (x3 : Int32) (im : IM), X g md_X1_readFall eI 42 [(0, .ref (g.1 66)), (1, .ref (g.1 a1)), (2, .int x2), (3, .int x3)] [] im (k42 x2 x3 im)) (x2 : Int32) (x3 : Int32) (s0 : Int32) (s1 : Int32)  (im : IM) : X g md_X1_readFall eI 71 [(0, .ref (g.1 66)), (1, .ref (g.1 a1)), (2, .int x2), (3, .int x3)] [.int s0, .int s1, .ref (g.1 ((a1 + 1)))] im (f_X1_readFall_j3 a1 k42 x2 x3 s0 s1 im) := by
  refine x_iast (xTo_1 h1) dX1_readFall_71 ?_
  refine x_bm (fun m6 => ?_)
  refine x_iinc (q := 3) (a := 1) (lv' := fun v7 => [(3, .int v7), (0, .ref (g.1 66)), (1, .ref (g.1 a1)), (2, .int x2)]) dX1_readFall_72 rfl (by decide) (by decide) (fun _ => rfl) (fun v7 => ?_)
  refine x_goto (tgt := 42) dX1_readFall_75 (by decide) ?_
  refine x_sub [1, 2, 3, 0] rfl ?_
  exact hk42 x2 v7 m6
def f_X1_readFall_l2b (a1 : Nat)   (k42 : Int32 → Int32 → IM → Option (Int32 × IM)) (x2 : Int32) (x3 : Int32) (im : IM) : Option (Int32 × IM) :=
  if (im 66 10) < x3 then
    some ((1, im))
  else
    if x2 = 0 then
      f_X1_readFall_j3 a1 k42 x2 x3 (im 66 8) x3 im
    else
      f_X1_readFall_j3 a1 k42 x2 x3 (-(im 66 8)) x3 im
def f_X1_readFall_l2 (a1 : Nat)   : Nat → Int32 → Int32 → IM → Option (Int32 × IM)
  | 0, _, _, _ => none
  | n + 1, x2, x3, im => f_X1_readFall_l2b a1 (f_X1_readFall_l2 a1 n) x2 x3 im
set_option maxRecDepth 20000 in
set_option maxHeartbeats 4000000 in
theorem s_X1_readFall_l2b {g : GX} {a1 : Nat} (h1 : xTo a1)    (k42 : Int32 → Int32 → IM → Option (Int32 × IM)) (hk42 : ∀ (x2 : Int32) (x3 : Int32) (im : IM), X g md_X1_readFall eI 42 [(0, .ref (g.1 66)), (1, .ref (g.1 a1)), (2, .int x2), (3, .int x3)] [] im (k42 x2 x3 im)) (x2 : Int32) (x3 : Int32)  (im : IM) : X g md_X1_readFall eI 42 [(0, .ref (g.1 66)), (1, .ref (g.1 a1)), (2, .int x2), (3, .int x3)] [] im (f_X1_readFall_l2b a1 k42 x2 x3 im) := by
  refine x_iload_n (q := 3) rfl rfl dX1_readFall_42 ?_
  refine x_aload_n (q := 0) rfl rfl dX1_readFall_43 ?_
  refine x_get (C := RX1) (T := TX1) sh_66 (by decide) rfl in_X1 10 (by decide) fl_X1_43 xf_1_10 dX1_readFall_44 ?_
  refine x_icmp_gt (tgt := 78) dX1_readFall_47 (by decide) ?_ ?_
  · refine x_iconst (v := (1)) (by decide) dX1_readFall_78 ?_
    exact x_nret (y := 1) rfl rfl (by decide) dX1_readFall_79
  · refine x_aload_n (q := 1) rfl rfl dX1_readFall_50 ?_
    refine x_get (C := RX5) (T := TX5) (xTo_o h1) (by decide) rfl in_X5 0 (by decide) fl_X1_127 xf_5_0 dX1_readFall_51 ?_
    refine x_iload_n (q := 3) rfl rfl dX1_readFall_54 ?_
    refine x_iload_n (q := 2) rfl rfl dX1_readFall_55 ?_
    refine x_if_eq (tgt := 67) dX1_readFall_56 (by decide) ?_ ?_
    · refine x_aload_n (q := 0) rfl rfl dX1_readFall_67 ?_
      refine x_get (C := RX1) (T := TX1) sh_66 (by decide) rfl in_X1 8 (by decide) fl_X1_37 xf_1_8 dX1_readFall_68 ?_
      refine x_sub [0, 1, 2, 3] rfl ?_
      exact s_X1_readFall_j3 h1 k42 hk42 x2 x3 (im 66 8) x3 im
    · refine x_aload_n (q := 0) rfl rfl dX1_readFall_59 ?_
      refine x_get (C := RX1) (T := TX1) sh_66 (by decide) rfl in_X1 8 (by decide) fl_X1_37 xf_1_8 dX1_readFall_60 ?_
      refine x_ineg dX1_readFall_63 ?_
      refine x_goto (tgt := 71) dX1_readFall_64 (by decide) ?_
      refine x_sub [0, 1, 2, 3] rfl ?_
      exact s_X1_readFall_j3 h1 k42 hk42 x2 x3 (-(im 66 8)) x3 im
set_option maxRecDepth 20000 in
set_option maxHeartbeats 4000000 in
theorem s_X1_readFall_l2 {g : GX} {a1 : Nat} (h1 : xTo a1)    (n : Nat) : ∀ (x2 : Int32) (x3 : Int32) (im : IM), X g md_X1_readFall eI 42 [(0, .ref (g.1 66)), (1, .ref (g.1 a1)), (2, .int x2), (3, .int x3)] [] im (f_X1_readFall_l2 a1 n x2 x3 im) := by
  induction n with
  | zero => intro x2 x3 im; exact x_none
  | succ n ih => intro x2 x3 im; exact s_X1_readFall_l2b h1 (f_X1_readFall_l2 a1 n) ih x2 x3 im
def f_X1_readFall (a1 : Nat) (im : IM) : Option (Int32 × IM) :=
  (f_X1_takeCells im).bind fun r1 =>
  if r1.1 = 0 then
    f_X1_readFall_j1 a1 r1.2
  else
    (f_X1_takeWord 2 r1.2).bind fun r2 =>
    if r2.1 = 0 then
      f_X1_readFall_j1 a1 r2.2
    else
      (f_X1_takeSign 45 r2.2).bind fun r3 =>
      (f_X1_takeNumber 0 9 r3.2).bind fun r4 =>
      if r4.1 = 0 then
        some ((0, r4.2))
      else
        bnd (r4.2 66 9) fun v5 =>
        f_X1_readFall_l2 a1 xF r3.1 v5 r4.2
set_option maxRecDepth 20000 in
set_option maxHeartbeats 4000000 in
theorem s_X1_readFall {g : GX} {a1 : Nat} (h1 : xTo a1)  (im : IM) : X g md_X1_readFall eI 0 [(0, .ref (g.1 66)), (1, .ref (g.1 a1))] [] im (f_X1_readFall a1 im) := by
  refine x_aload_n (q := 0) rfl rfl dX1_readFall_0 ?_
  refine x_bind (fun r1 er1 => ?_)
  refine x_callVI (av := []) (st := []) (m_X1_takeCells   im r1 er1) sh_66 (by decide) rfl rfl (by decide) (by decide) lk_X1_115 cd_X1_takeCells xd_X1_takeCells rfl (Nat.le_of_ble_eq_true rfl) dX1_readFall_1 ?_
  refine x_if_eq (tgt := 16) dX1_readFall_4 (by decide) ?_ ?_
  · refine x_sub [] rfl ?_
    exact s_X1_readFall_j1 h1 r1.2
  · refine x_aload_n (q := 0) rfl rfl dX1_readFall_7 ?_
    refine x_ldcS 2 (by decide) dX1_readFall_8 ?_
    refine x_bind (fun r2 er2 => ?_)
    refine x_callVI (av := [.ref (g.2.2.2.1.1 2)]) (st := []) (m_X1_takeWord (by decide)  r1.2 r2 er2) sh_66 (by decide) rfl rfl (by decide) (by decide) lk_X1_82 cd_X1_takeWord xd_X1_takeWord rfl (Nat.le_of_ble_eq_true rfl) dX1_readFall_10 ?_
    refine x_if_ne (tgt := 18) dX1_readFall_13 (by decide) ?_ ?_
    · refine x_aload_n (q := 0) rfl rfl dX1_readFall_18 ?_
      refine x_bipush (v := (45)) (by decide) dX1_readFall_19 ?_
      refine x_bind (fun r3 er3 => ?_)
      refine x_callVI (av := [.int 45]) (st := []) (m_X1_takeSign  45 r2.2 r3 er3) sh_66 (by decide) rfl rfl (by decide) (by decide) lk_X1_53 cd_X1_takeSign xd_X1_takeSign rfl (Nat.le_of_ble_eq_true rfl) dX1_readFall_21 ?_
      refine x_istore_n (lv' := [(2, .int r3.1), (0, .ref (g.1 66)), (1, .ref (g.1 a1))]) rfl dX1_readFall_24 (by decide) rfl ?_
      refine x_aload_n (q := 1) rfl rfl dX1_readFall_25 ?_
      refine x_iconst (v := (0)) (by decide) dX1_readFall_26 ?_
      refine x_bipush (v := (9)) (by decide) dX1_readFall_27 ?_
      refine x_bind (fun r4 er4 => ?_)
      refine x_callVI (av := [.int 0, .int 9]) (st := []) (m_X1_takeNumber  0 9 r3.2 r4 er4) sh_66 (by decide) rfl rfl (by decide) (by decide) lk_X1_123 cd_X1_takeNumber xd_X1_takeNumber rfl (Nat.le_of_ble_eq_true rfl) dX1_readFall_29 ?_
      refine x_if_ne (tgt := 37) dX1_readFall_32 (by decide) ?_ ?_
      · refine x_aload_n (q := 1) rfl rfl dX1_readFall_37 ?_
        refine x_get (C := RX1) (T := TX1) sh_66 (by decide) rfl in_X1 9 (by decide) fl_X1_40 xf_1_9 dX1_readFall_38 ?_
        refine x_bi (fun v5 => ?_)
        refine x_istore_n (lv' := [(3, .int v5), (2, .int r3.1), (0, .ref (g.1 66)), (1, .ref (g.1 a1))]) rfl dX1_readFall_41 (by decide) rfl ?_
        refine x_sub [2, 3, 1, 0] rfl ?_
        exact s_X1_readFall_l2 h1 xF r3.1 v5 r4.2
      · refine x_iconst (v := (0)) (by decide) dX1_readFall_35 ?_
        exact x_nret (y := 0) rfl rfl (by decide) dX1_readFall_36
    · refine x_sub [] rfl ?_
      exact s_X1_readFall_j1 h1 r2.2
theorem m_X1_readFall {g : GX} {a1 : Nat} (h1 : xTo a1)  (im : IM) (r : Int32 × IM) (hr : f_X1_readFall a1 im = some r) : xMet g 7 yX1_readFall cX1_readFall 4 (some .boolean) [.ref (g.1 66), .ref (g.1 a1)] im (eI r) := x_met (by decide) (Nat.le_of_ble_eq_true rfl) rfl (s_X1_readFall h1 im) r hr
abbrev md_X1_readShut : xM := (6, 2, RX1, cX1_readShut, (some .boolean))
def f_X1_readShut_j1 (a1 : Nat)   (im : IM) : Option (Int32 × IM) :=
  some ((0, im))
set_option maxRecDepth 20000 in
set_option maxHeartbeats 4000000 in
theorem s_X1_readShut_j1 {g : GX} {a1 : Nat} (h1 : xTo a1)      (im : IM) : X g md_X1_readShut eI 39 [] [] im (f_X1_readShut_j1 a1 im) := by
  refine x_iconst (v := (0)) (by decide) dX1_readShut_39 ?_
  exact x_nret (y := 0) rfl rfl (by decide) dX1_readShut_40
def f_X1_readShut (a1 : Nat) (im : IM) : Option (Int32 × IM) :=
  (f_X1_takeNumber 0 59 im).bind fun r1 =>
  if r1.1 = 0 then
    some ((0, r1.2))
  else
    bnd (up r1.2 66 9 (r1.2 66 8)) fun m2 =>
    (f_X1_takeWord 3 m2).bind fun r3 =>
    if r3.1 = 0 then
      f_X1_readShut_j1 a1 r3.2
    else
      (f_X1_takeNumber 0 59 r3.2).bind fun r4 =>
      if r4.1 = 0 then
        f_X1_readShut_j1 a1 r4.2
      else
        bnd (up r4.2 a1 5 (r4.2 66 9)) fun m5 =>
        bnd (up m5 a1 6 (m5 66 8)) fun m6 =>
        some ((1, m6))
set_option maxRecDepth 20000 in
set_option maxHeartbeats 4000000 in
theorem s_X1_readShut {g : GX} {a1 : Nat} (h1 : xTo a1)  (im : IM) : X g md_X1_readShut eI 0 [(0, .ref (g.1 66)), (1, .ref (g.1 a1))] [] im (f_X1_readShut a1 im) := by
  refine x_aload_n (q := 0) rfl rfl dX1_readShut_0 ?_
  refine x_iconst (v := (0)) (by decide) dX1_readShut_1 ?_
  refine x_bipush (v := (59)) (by decide) dX1_readShut_2 ?_
  refine x_bind (fun r1 er1 => ?_)
  refine x_callVI (av := [.int 0, .int 59]) (st := []) (m_X1_takeNumber  0 59 im r1 er1) sh_66 (by decide) rfl rfl (by decide) (by decide) lk_X1_123 cd_X1_takeNumber xd_X1_takeNumber rfl (Nat.le_of_ble_eq_true rfl) dX1_readShut_4 ?_
  refine x_if_ne (tgt := 12) dX1_readShut_7 (by decide) ?_ ?_
  · refine x_aload_n (q := 0) rfl rfl dX1_readShut_12 ?_
    refine x_aload_n (q := 0) rfl rfl dX1_readShut_13 ?_
    refine x_get (C := RX1) (T := TX1) sh_66 (by decide) rfl in_X1 8 (by decide) fl_X1_37 xf_1_8 dX1_readShut_14 ?_
    refine x_put (C := RX1) (T := TX1) (ty := .int) tyX1 tyX1_ok nmX1 sh_66 (by decide) rfl in_X1 9 (by decide) (by decide) fl_X1_40 rfl (by decide +kernel) rfl rfl dX1_readShut_17 ?_
    refine x_bm (fun m2 => ?_)
    refine x_aload_n (q := 0) rfl rfl dX1_readShut_20 ?_
    refine x_ldcS 3 (by decide) dX1_readShut_21 ?_
    refine x_bind (fun r3 er3 => ?_)
    refine x_callVI (av := [.ref (g.2.2.2.1.1 3)]) (st := []) (m_X1_takeWord (by decide)  m2 r3 er3) sh_66 (by decide) rfl rfl (by decide) (by decide) lk_X1_82 cd_X1_takeWord xd_X1_takeWord rfl (Nat.le_of_ble_eq_true rfl) dX1_readShut_23 ?_
    refine x_if_eq (tgt := 39) dX1_readShut_26 (by decide) ?_ ?_
    · refine x_sub [] rfl ?_
      exact s_X1_readShut_j1 h1 r3.2
    · refine x_aload_n (q := 0) rfl rfl dX1_readShut_29 ?_
      refine x_iconst (v := (0)) (by decide) dX1_readShut_30 ?_
      refine x_bipush (v := (59)) (by decide) dX1_readShut_31 ?_
      refine x_bind (fun r4 er4 => ?_)
      refine x_callVI (av := [.int 0, .int 59]) (st := []) (m_X1_takeNumber  0 59 r3.2 r4 er4) sh_66 (by decide) rfl rfl (by decide) (by decide) lk_X1_123 cd_X1_takeNumber xd_X1_takeNumber rfl (Nat.le_of_ble_eq_true rfl) dX1_readShut_33 ?_
      refine x_if_ne (tgt := 41) dX1_readShut_36 (by decide) ?_ ?_
      · refine x_aload_n (q := 1) rfl rfl dX1_readShut_41 ?_
        refine x_aload_n (q := 0) rfl rfl dX1_readShut_42 ?_
        refine x_get (C := RX1) (T := TX1) sh_66 (by decide) rfl in_X1 9 (by decide) fl_X1_40 xf_1_9 dX1_readShut_43 ?_
        refine x_put (C := RX5) (T := TX5) (ty := .int) tyX5 tyX5_ok nmX5 (xTo_o h1) (by decide) rfl in_X5 5 (by decide) (by decide) fl_X1_131 rfl (by decide +kernel) rfl rfl dX1_readShut_46 ?_
        refine x_bm (fun m5 => ?_)
        refine x_aload_n (q := 1) rfl rfl dX1_readShut_49 ?_
        refine x_aload_n (q := 0) rfl rfl dX1_readShut_50 ?_
        refine x_get (C := RX1) (T := TX1) sh_66 (by decide) rfl in_X1 8 (by decide) fl_X1_37 xf_1_8 dX1_readShut_51 ?_
        refine x_put (C := RX5) (T := TX5) (ty := .int) tyX5 tyX5_ok nmX5 (xTo_o h1) (by decide) rfl in_X5 6 (by decide) (by decide) fl_X1_134 rfl (by decide +kernel) rfl rfl dX1_readShut_54 ?_
        refine x_bm (fun m6 => ?_)
        refine x_iconst (v := (1)) (by decide) dX1_readShut_57 ?_
        exact x_nret (y := 1) rfl rfl (by decide) dX1_readShut_58
      · refine x_sub [] rfl ?_
        exact s_X1_readShut_j1 h1 r4.2
  · refine x_iconst (v := (0)) (by decide) dX1_readShut_10 ?_
    exact x_nret (y := 0) rfl rfl (by decide) dX1_readShut_11
theorem m_X1_readShut {g : GX} {a1 : Nat} (h1 : xTo a1)  (im : IM) (r : Int32 × IM) (hr : f_X1_readShut a1 im = some r) : xMet g 6 yX1_readShut cX1_readShut 2 (some .boolean) [.ref (g.1 66), .ref (g.1 a1)] im (eI r) := x_met (by decide) (Nat.le_of_ble_eq_true rfl) rfl (s_X1_readShut h1 im) r hr
abbrev md_X1_readItem : xM := (8, 3, RX1, cX1_readItem, (some .boolean))
def f_X1_readItem_j3 (a1 : Nat)   (im : IM) : Option (Int32 × IM) :=
  some ((0, im))
set_option maxRecDepth 20000 in
set_option maxHeartbeats 4000000 in
theorem s_X1_readItem_j3 {g : GX} {a1 : Nat} (h1 : xTo a1)      (im : IM) : X g md_X1_readItem eI 114 [] [] im (f_X1_readItem_j3 a1 im) := by
  refine x_iconst (v := (0)) (by decide) dX1_readItem_114 ?_
  exact x_nret (y := 0) rfl rfl (by decide) dX1_readItem_115
def f_X1_readItem_j4 (a1 : Nat)   (im : IM) : Option (Int32 × IM) :=
  some ((0, im))
set_option maxRecDepth 20000 in
set_option maxHeartbeats 4000000 in
theorem s_X1_readItem_j4 {g : GX} {a1 : Nat} (h1 : xTo a1)      (im : IM) : X g md_X1_readItem eI 70 [] [] im (f_X1_readItem_j4 a1 im) := by
  refine x_iconst (v := (0)) (by decide) dX1_readItem_70 ?_
  exact x_nret (y := 0) rfl rfl (by decide) dX1_readItem_71
def f_X1_readItem_l2b (a1 : Nat)   (k33 : Int32 → IM → Option (Int32 × IM)) (x2 : Int32) (im : IM) : Option (Int32 × IM) :=
  if 7 ≤ x2 then
    (f_X1_takeWord 0 im).bind fun r1 =>
    if r1.1 = 0 then
      (f_X1_takeWord 1 r1.2).bind fun r2 =>
      if r2.1 = 0 then
        f_X1_readItem_j3 a1 r2.2
      else
        (f_X1_readShut a1 r2.2).bind fun r3 =>
        if r3.1 = 0 then
          f_X1_readItem_j3 a1 r3.2
        else
          some ((1, r3.2))
    else
      (f_X1_readFall a1 r1.2).bind fun r4 =>
      some ((zb r4.1, r4.2))
  else
    (f_X1_isWord (f_X1_nameOfKind x2) im).bind fun r5 =>
    if r5 = 0 then
      bnd (x2 + 1) fun v6 =>
      k33 v6 im
    else
      if (f_X5_isFull a1 im) = 0 then
        (f_X1_readThing a1 x2 im).bind fun r7 =>
        if r7.1 = 0 then
          f_X1_readItem_j4 a1 r7.2
        else
          some ((1, r7.2))
      else
        f_X1_readItem_j4 a1 im
def f_X1_readItem_l2 (a1 : Nat)   : Nat → Int32 → IM → Option (Int32 × IM)
  | 0, _, _ => none
  | n + 1, x2, im => f_X1_readItem_l2b a1 (f_X1_readItem_l2 a1 n) x2 im
set_option maxRecDepth 20000 in
set_option maxHeartbeats 4000000 in
theorem s_X1_readItem_l2b {g : GX} {a1 : Nat} (h1 : xTo a1)    (k33 : Int32 → IM → Option (Int32 × IM)) (hk33 : ∀ (x2 : Int32) (im : IM), X g md_X1_readItem eI 33 [(0, .ref (g.1 66)), (1, .ref (g.1 a1)), (2, .int x2)] [] im (k33 x2 im)) (x2 : Int32)  (im : IM) : X g md_X1_readItem eI 33 [(0, .ref (g.1 66)), (1, .ref (g.1 a1)), (2, .int x2)] [] im (f_X1_readItem_l2b a1 k33 x2 im) := by
  refine x_iload_n (q := 2) rfl rfl dX1_readItem_33 ?_
  refine x_bipush (v := (7)) (by decide) dX1_readItem_34 ?_
  refine x_icmp_ge (tgt := 78) dX1_readItem_36 (by decide) ?_ ?_
  · refine x_aload_n (q := 0) rfl rfl dX1_readItem_78 ?_
    refine x_ldcS 0 (by decide) dX1_readItem_79 ?_
    refine x_bind (fun r1 er1 => ?_)
    refine x_callVI (av := [.ref (g.2.2.2.1.1 0)]) (st := []) (m_X1_takeWord (by decide)  im r1 er1) sh_66 (by decide) rfl rfl (by decide) (by decide) lk_X1_82 cd_X1_takeWord xd_X1_takeWord rfl (Nat.le_of_ble_eq_true rfl) dX1_readItem_81 ?_
    refine x_if_eq (tgt := 93) dX1_readItem_84 (by decide) ?_ ?_
    · refine x_aload_n (q := 0) rfl rfl dX1_readItem_93 ?_
      refine x_ldcS 1 (by decide) dX1_readItem_94 ?_
      refine x_bind (fun r2 er2 => ?_)
      refine x_callVI (av := [.ref (g.2.2.2.1.1 1)]) (st := []) (m_X1_takeWord (by decide)  r1.2 r2 er2) sh_66 (by decide) rfl rfl (by decide) (by decide) lk_X1_82 cd_X1_takeWord xd_X1_takeWord rfl (Nat.le_of_ble_eq_true rfl) dX1_readItem_96 ?_
      refine x_if_eq (tgt := 114) dX1_readItem_99 (by decide) ?_ ?_
      · refine x_sub [] rfl ?_
        exact s_X1_readItem_j3 h1 r2.2
      · refine x_aload_n (q := 0) rfl rfl dX1_readItem_102 ?_
        refine x_aload_n (q := 1) rfl rfl dX1_readItem_103 ?_
        refine x_bind (fun r3 er3 => ?_)
        refine x_callVI (av := [.ref (g.1 a1)]) (st := []) (m_X1_readShut h1  r2.2 r3 er3) sh_66 (by decide) rfl rfl (by decide) (by decide) lk_X1_112 cd_X1_readShut xd_X1_readShut rfl (Nat.le_of_ble_eq_true rfl) dX1_readItem_104 ?_
        refine x_if_eq (tgt := 114) dX1_readItem_107 (by decide) ?_ ?_
        · refine x_sub [] rfl ?_
          exact s_X1_readItem_j3 h1 r3.2
        · refine x_iconst (v := (1)) (by decide) dX1_readItem_110 ?_
          refine x_goto (tgt := 115) dX1_readItem_111 (by decide) ?_
          exact x_nret (y := 1) rfl rfl (by decide) dX1_readItem_115
    · refine x_aload_n (q := 0) rfl rfl dX1_readItem_87 ?_
      refine x_aload_n (q := 1) rfl rfl dX1_readItem_88 ?_
      refine x_bind (fun r4 er4 => ?_)
      refine x_callVI (av := [.ref (g.1 a1)]) (st := []) (m_X1_readFall h1  r1.2 r4 er4) sh_66 (by decide) rfl rfl (by decide) (by decide) lk_X1_107 cd_X1_readFall xd_X1_readFall rfl (Nat.le_of_ble_eq_true rfl) dX1_readItem_89 ?_
      exact x_nret (y := zb r4.1) rfl rfl rfl dX1_readItem_92
  · refine x_aload_n (q := 0) rfl rfl dX1_readItem_39 ?_
    refine x_iload_n (q := 2) rfl rfl dX1_readItem_40 ?_
    refine x_callSA (av := [.int x2]) (st := [.ref (g.1 66)]) (m_X1_nameOfKind  x2 im) rfl (by decide) (by decide) lk_X1_90 cd_X1_nameOfKind xd_X1_nameOfKind rfl (Nat.le_of_ble_eq_true rfl) dX1_readItem_41 ?_
    refine x_bind (fun r5 er5 => ?_)
    refine x_callVR (av := [.ref (g.2.2.2.1.1 (f_X1_nameOfKind x2))]) (st := []) (m_X1_isWord (l_X1_nameOfKind x2)  im r5 er5) sh_66 (by decide) rfl rfl (by decide) (by decide) lk_X1_93 cd_X1_isWord xd_X1_isWord rfl (Nat.le_of_ble_eq_true rfl) dX1_readItem_44 ?_
    refine x_if_eq (tgt := 72) dX1_readItem_47 (by decide) ?_ ?_
    · refine x_iinc (q := 2) (a := 1) (lv' := fun v6 => [(2, .int v6), (0, .ref (g.1 66)), (1, .ref (g.1 a1))]) dX1_readItem_72 rfl (by decide) (by decide) (fun _ => rfl) (fun v6 => ?_)
      refine x_goto (tgt := 33) dX1_readItem_75 (by decide) ?_
      refine x_sub [1, 2, 0] rfl ?_
      exact hk33 v6 im
    · refine x_aload_n (q := 1) rfl rfl dX1_readItem_50 ?_
      refine x_callVR (av := []) (st := []) (m_X5_isFull h1  im) (xTo_o h1) (by decide) rfl rfl (by decide) (by decide) lk_X1_96 cd_X5_isFull xd_X5_isFull rfl (Nat.le_of_ble_eq_true rfl) dX1_readItem_51 ?_
      refine x_if_ne (tgt := 70) dX1_readItem_54 (by decide) ?_ ?_
      · refine x_sub [] rfl ?_
        exact s_X1_readItem_j4 h1 im
      · refine x_aload_n (q := 0) rfl rfl dX1_readItem_57 ?_
        refine x_aload_n (q := 1) rfl rfl dX1_readItem_58 ?_
        refine x_iload_n (q := 2) rfl rfl dX1_readItem_59 ?_
        refine x_bind (fun r7 er7 => ?_)
        refine x_callVI (av := [.ref (g.1 a1), .int x2]) (st := []) (m_X1_readThing h1 x2 im r7 er7) sh_66 (by decide) rfl rfl (by decide) (by decide) lk_X1_102 cd_X1_readThing xd_X1_readThing rfl (Nat.le_of_ble_eq_true rfl) dX1_readItem_60 ?_
        refine x_if_eq (tgt := 70) dX1_readItem_63 (by decide) ?_ ?_
        · refine x_sub [] rfl ?_
          exact s_X1_readItem_j4 h1 r7.2
        · refine x_iconst (v := (1)) (by decide) dX1_readItem_66 ?_
          refine x_goto (tgt := 71) dX1_readItem_67 (by decide) ?_
          exact x_nret (y := 1) rfl rfl (by decide) dX1_readItem_71
set_option maxRecDepth 20000 in
set_option maxHeartbeats 4000000 in
theorem s_X1_readItem_l2 {g : GX} {a1 : Nat} (h1 : xTo a1)    (n : Nat) : ∀ (x2 : Int32) (im : IM), X g md_X1_readItem eI 33 [(0, .ref (g.1 66)), (1, .ref (g.1 a1)), (2, .int x2)] [] im (f_X1_readItem_l2 a1 n x2 im) := by
  induction n with
  | zero => intro x2 im; exact x_none
  | succ n ih => intro x2 im; exact s_X1_readItem_l2b h1 (f_X1_readItem_l2 a1 n) ih x2 im
def f_X1_readItem_l1b (a1 : Nat)   (k2 : Int32 → IM → Option (Int32 × IM)) (x2 : Int32) (im : IM) : Option (Int32 × IM) :=
  if 5 ≤ x2 then
    f_X1_readItem_l2 a1 xF 0 im
  else
    (f_X1_takeWord (f_X1_nameOfGround x2) im).bind fun r8 =>
    if r8.1 = 0 then
      bnd (x2 + 1) fun v9 =>
      k2 v9 r8.2
    else
      (f_X1_readGround a1 x2 r8.2).bind fun r10 =>
      some ((zb r10.1, r10.2))
def f_X1_readItem_l1 (a1 : Nat)   : Nat → Int32 → IM → Option (Int32 × IM)
  | 0, _, _ => none
  | n + 1, x2, im => f_X1_readItem_l1b a1 (f_X1_readItem_l1 a1 n) x2 im
set_option maxRecDepth 20000 in
set_option maxHeartbeats 4000000 in
theorem s_X1_readItem_l1b {g : GX} {a1 : Nat} (h1 : xTo a1)    (k2 : Int32 → IM → Option (Int32 × IM)) (hk2 : ∀ (x2 : Int32) (im : IM), X g md_X1_readItem eI 2 [(0, .ref (g.1 66)), (1, .ref (g.1 a1)), (2, .int x2)] [] im (k2 x2 im)) (x2 : Int32)  (im : IM) : X g md_X1_readItem eI 2 [(0, .ref (g.1 66)), (1, .ref (g.1 a1)), (2, .int x2)] [] im (f_X1_readItem_l1b a1 k2 x2 im) := by
  refine x_iload_n (q := 2) rfl rfl dX1_readItem_2 ?_
  refine x_iconst (v := (5)) (by decide) dX1_readItem_3 ?_
  refine x_icmp_ge (tgt := 31) dX1_readItem_4 (by decide) ?_ ?_
  · refine x_iconst (v := (0)) (by decide) dX1_readItem_31 ?_
    refine x_istore_n (lv' := [(2, .int 0), (0, .ref (g.1 66)), (1, .ref (g.1 a1))]) rfl dX1_readItem_32 (by decide) rfl ?_
    refine x_sub [1, 2, 0] rfl ?_
    exact s_X1_readItem_l2 h1 xF 0 im
  · refine x_aload_n (q := 0) rfl rfl dX1_readItem_7 ?_
    refine x_iload_n (q := 2) rfl rfl dX1_readItem_8 ?_
    refine x_callSA (av := [.int x2]) (st := [.ref (g.1 66)]) (m_X1_nameOfGround  x2 im) rfl (by decide) (by decide) lk_X1_78 cd_X1_nameOfGround xd_X1_nameOfGround rfl (Nat.le_of_ble_eq_true rfl) dX1_readItem_9 ?_
    refine x_bind (fun r8 er8 => ?_)
    refine x_callVI (av := [.ref (g.2.2.2.1.1 (f_X1_nameOfGround x2))]) (st := []) (m_X1_takeWord (l_X1_nameOfGround x2)  im r8 er8) sh_66 (by decide) rfl rfl (by decide) (by decide) lk_X1_82 cd_X1_takeWord xd_X1_takeWord rfl (Nat.le_of_ble_eq_true rfl) dX1_readItem_12 ?_
    refine x_if_eq (tgt := 25) dX1_readItem_15 (by decide) ?_ ?_
    · refine x_iinc (q := 2) (a := 1) (lv' := fun v9 => [(2, .int v9), (0, .ref (g.1 66)), (1, .ref (g.1 a1))]) dX1_readItem_25 rfl (by decide) (by decide) (fun _ => rfl) (fun v9 => ?_)
      refine x_goto (tgt := 2) dX1_readItem_28 (by decide) ?_
      refine x_sub [1, 2, 0] rfl ?_
      exact hk2 v9 r8.2
    · refine x_aload_n (q := 0) rfl rfl dX1_readItem_18 ?_
      refine x_aload_n (q := 1) rfl rfl dX1_readItem_19 ?_
      refine x_iload_n (q := 2) rfl rfl dX1_readItem_20 ?_
      refine x_bind (fun r10 er10 => ?_)
      refine x_callVI (av := [.ref (g.1 a1), .int x2]) (st := []) (m_X1_readGround h1 x2 r8.2 r10 er10) sh_66 (by decide) rfl rfl (by decide) (by decide) lk_X1_86 cd_X1_readGround xd_X1_readGround rfl (Nat.le_of_ble_eq_true rfl) dX1_readItem_21 ?_
      exact x_nret (y := zb r10.1) rfl rfl rfl dX1_readItem_24
set_option maxRecDepth 20000 in
set_option maxHeartbeats 4000000 in
theorem s_X1_readItem_l1 {g : GX} {a1 : Nat} (h1 : xTo a1)    (n : Nat) : ∀ (x2 : Int32) (im : IM), X g md_X1_readItem eI 2 [(0, .ref (g.1 66)), (1, .ref (g.1 a1)), (2, .int x2)] [] im (f_X1_readItem_l1 a1 n x2 im) := by
  induction n with
  | zero => intro x2 im; exact x_none
  | succ n ih => intro x2 im; exact s_X1_readItem_l1b h1 (f_X1_readItem_l1 a1 n) ih x2 im
def f_X1_readItem (a1 : Nat) (im : IM) : Option (Int32 × IM) :=
  f_X1_readItem_l1 a1 xF 0 im
set_option maxRecDepth 20000 in
set_option maxHeartbeats 4000000 in
theorem s_X1_readItem {g : GX} {a1 : Nat} (h1 : xTo a1)  (im : IM) : X g md_X1_readItem eI 0 [(0, .ref (g.1 66)), (1, .ref (g.1 a1))] [] im (f_X1_readItem a1 im) := by
  refine x_iconst (v := (0)) (by decide) dX1_readItem_0 ?_
  refine x_istore_n (lv' := [(2, .int 0), (0, .ref (g.1 66)), (1, .ref (g.1 a1))]) rfl dX1_readItem_1 (by decide) rfl ?_
  refine x_sub [1, 2, 0] rfl ?_
  exact s_X1_readItem_l1 h1 xF 0 im
theorem m_X1_readItem {g : GX} {a1 : Nat} (h1 : xTo a1)  (im : IM) (r : Int32 × IM) (hr : f_X1_readItem a1 im = some r) : xMet g 8 yX1_readItem cX1_readItem 3 (some .boolean) [.ref (g.1 66), .ref (g.1 a1)] im (eI r) := x_met (by decide) (Nat.le_of_ble_eq_true rfl) rfl (s_X1_readItem h1 im) r hr
abbrev md_X1_readText : xM := (9, 3, RX1, cX1_readText, (some .int))
def f_X1_readText_l1b (a1 : Nat)   (k11 : Int32 → IM → Option (Int32 × IM)) (x2 : Int32) (im : IM) : Option (Int32 × IM) :=
  if 120 < x2 then
    if inb (im 66 7) 121 = true then
      some ((((-1)) - (im 68 (ix (im 66 7))), im))
    else none
  else
    (f_X1_readItem a1 im).bind fun r3 =>
    if r3.1 = 0 then
      if inb (r3.2 66 7) 121 = true then
        some ((((-1)) - (r3.2 68 (ix (r3.2 66 7))), r3.2))
      else none
    else
      if inb (r3.2 66 7) 121 = true then
        if (r3.2 70 (ix (r3.2 66 7))) = 0 then
          some ((x2, r3.2))
        else
          (f_X1_takeSign 59 r3.2).bind fun r4 =>
          if r4.1 = 0 then
            if inb (r4.2 66 7) 121 = true then
              some ((((-1)) - (r4.2 68 (ix (r4.2 66 7))), r4.2))
            else none
          else
            bnd (x2 + 1) fun v5 =>
            k11 v5 r4.2
      else none
def f_X1_readText_l1 (a1 : Nat)   : Nat → Int32 → IM → Option (Int32 × IM)
  | 0, _, _ => none
  | n + 1, x2, im => f_X1_readText_l1b a1 (f_X1_readText_l1 a1 n) x2 im
set_option maxRecDepth 20000 in
set_option maxHeartbeats 4000000 in
theorem s_X1_readText_l1b {g : GX} {a1 : Nat} (h1 : xTo a1)    (k11 : Int32 → IM → Option (Int32 × IM)) (hk11 : ∀ (x2 : Int32) (im : IM), X g md_X1_readText eI 11 [(0, .ref (g.1 66)), (1, .ref (g.1 a1)), (2, .int x2)] [] im (k11 x2 im)) (x2 : Int32)  (im : IM) : X g md_X1_readText eI 11 [(0, .ref (g.1 66)), (1, .ref (g.1 a1)), (2, .int x2)] [] im (f_X1_readText_l1b a1 k11 x2 im) := by
  refine x_iload_n (q := 2) rfl rfl dX1_readText_11 ?_
  refine x_bipush (v := (120)) (by decide) dX1_readText_12 ?_
  refine x_icmp_gt (tgt := 78) dX1_readText_14 (by decide) ?_ ?_
  · refine x_iconst (v := (-1)) (by decide) dX1_readText_78 ?_
    refine x_aload_n (q := 0) rfl rfl dX1_readText_79 ?_
    refine x_get (C := RX1) (T := TX1) sh_66 (by decide) rfl in_X1 2 (by decide) fl_X1_19 xf_1_2 dX1_readText_80 ?_
    refine x_aload_n (q := 0) rfl rfl dX1_readText_83 ?_
    refine x_get (C := RX1) (T := TX1) sh_66 (by decide) rfl in_X1 7 (by decide) fl_X1_34 xf_1_7 dX1_readText_84 ?_
    refine x_iald sh_68 dX1_readText_87 ?_
    refine x_isub dX1_readText_88 ?_
    exact x_iret rfl rfl dX1_readText_89
  · refine x_aload_n (q := 0) rfl rfl dX1_readText_17 ?_
    refine x_aload_n (q := 1) rfl rfl dX1_readText_18 ?_
    refine x_bind (fun r3 er3 => ?_)
    refine x_callVI (av := [.ref (g.1 a1)]) (st := []) (m_X1_readItem h1  im r3 er3) sh_66 (by decide) rfl rfl (by decide) (by decide) lk_X1_49 cd_X1_readItem xd_X1_readItem rfl (Nat.le_of_ble_eq_true rfl) dX1_readText_19 ?_
    refine x_if_ne (tgt := 37) dX1_readText_22 (by decide) ?_ ?_
    · refine x_aload_n (q := 0) rfl rfl dX1_readText_37 ?_
      refine x_get (C := RX1) (T := TX1) sh_66 (by decide) rfl in_X1 4 (by decide) fl_X1_25 xf_1_4 dX1_readText_38 ?_
      refine x_aload_n (q := 0) rfl rfl dX1_readText_41 ?_
      refine x_get (C := RX1) (T := TX1) sh_66 (by decide) rfl in_X1 7 (by decide) fl_X1_34 xf_1_7 dX1_readText_42 ?_
      refine x_iald sh_70 dX1_readText_45 ?_
      refine x_if_ne (tgt := 51) dX1_readText_46 (by decide) ?_ ?_
      · refine x_aload_n (q := 0) rfl rfl dX1_readText_51 ?_
        refine x_bipush (v := (59)) (by decide) dX1_readText_52 ?_
        refine x_bind (fun r4 er4 => ?_)
        refine x_callVI (av := [.int 59]) (st := []) (m_X1_takeSign  59 r3.2 r4 er4) sh_66 (by decide) rfl rfl (by decide) (by decide) lk_X1_53 cd_X1_takeSign xd_X1_takeSign rfl (Nat.le_of_ble_eq_true rfl) dX1_readText_54 ?_
        refine x_if_ne (tgt := 72) dX1_readText_57 (by decide) ?_ ?_
        · refine x_iinc (q := 2) (a := 1) (lv' := fun v5 => [(2, .int v5), (0, .ref (g.1 66)), (1, .ref (g.1 a1))]) dX1_readText_72 rfl (by decide) (by decide) (fun _ => rfl) (fun v5 => ?_)
          refine x_goto (tgt := 11) dX1_readText_75 (by decide) ?_
          refine x_sub [1, 2, 0] rfl ?_
          exact hk11 v5 r4.2
        · refine x_iconst (v := (-1)) (by decide) dX1_readText_60 ?_
          refine x_aload_n (q := 0) rfl rfl dX1_readText_61 ?_
          refine x_get (C := RX1) (T := TX1) sh_66 (by decide) rfl in_X1 2 (by decide) fl_X1_19 xf_1_2 dX1_readText_62 ?_
          refine x_aload_n (q := 0) rfl rfl dX1_readText_65 ?_
          refine x_get (C := RX1) (T := TX1) sh_66 (by decide) rfl in_X1 7 (by decide) fl_X1_34 xf_1_7 dX1_readText_66 ?_
          refine x_iald sh_68 dX1_readText_69 ?_
          refine x_isub dX1_readText_70 ?_
          exact x_iret rfl rfl dX1_readText_71
      · refine x_iload_n (q := 2) rfl rfl dX1_readText_49 ?_
        exact x_iret rfl rfl dX1_readText_50
    · refine x_iconst (v := (-1)) (by decide) dX1_readText_25 ?_
      refine x_aload_n (q := 0) rfl rfl dX1_readText_26 ?_
      refine x_get (C := RX1) (T := TX1) sh_66 (by decide) rfl in_X1 2 (by decide) fl_X1_19 xf_1_2 dX1_readText_27 ?_
      refine x_aload_n (q := 0) rfl rfl dX1_readText_30 ?_
      refine x_get (C := RX1) (T := TX1) sh_66 (by decide) rfl in_X1 7 (by decide) fl_X1_34 xf_1_7 dX1_readText_31 ?_
      refine x_iald sh_68 dX1_readText_34 ?_
      refine x_isub dX1_readText_35 ?_
      exact x_iret rfl rfl dX1_readText_36
set_option maxRecDepth 20000 in
set_option maxHeartbeats 4000000 in
theorem s_X1_readText_l1 {g : GX} {a1 : Nat} (h1 : xTo a1)    (n : Nat) : ∀ (x2 : Int32) (im : IM), X g md_X1_readText eI 11 [(0, .ref (g.1 66)), (1, .ref (g.1 a1)), (2, .int x2)] [] im (f_X1_readText_l1 a1 n x2 im) := by
  induction n with
  | zero => intro x2 im; exact x_none
  | succ n ih => intro x2 im; exact s_X1_readText_l1b h1 (f_X1_readText_l1 a1 n) ih x2 im
def f_X1_readText (a1 : Nat) (im : IM) : Option (Int32 × IM) :=
  (f_X1_splitTape im).bind fun r1 =>
  bnd (up r1 66 7 0) fun m2 =>
  f_X1_readText_l1 a1 xF 1 m2
set_option maxRecDepth 20000 in
set_option maxHeartbeats 4000000 in
theorem s_X1_readText {g : GX} {a1 : Nat} (h1 : xTo a1)  (im : IM) : X g md_X1_readText eI 0 [(0, .ref (g.1 66)), (1, .ref (g.1 a1))] [] im (f_X1_readText a1 im) := by
  refine x_aload_n (q := 0) rfl rfl dX1_readText_0 ?_
  refine x_bind (fun r1 er1 => ?_)
  refine x_callVV (av := []) (st := []) (m_X1_splitTape   im r1 er1) sh_66 (by decide) rfl rfl (by decide) (by decide) lk_X1_46 cd_X1_splitTape xd_X1_splitTape rfl (Nat.le_of_ble_eq_true rfl) dX1_readText_1 ?_
  refine x_aload_n (q := 0) rfl rfl dX1_readText_4 ?_
  refine x_iconst (v := (0)) (by decide) dX1_readText_5 ?_
  refine x_put (C := RX1) (T := TX1) (ty := .int) tyX1 tyX1_ok nmX1 sh_66 (by decide) rfl in_X1 7 (by decide) (by decide) fl_X1_34 rfl (by decide +kernel) rfl rfl dX1_readText_6 ?_
  refine x_bm (fun m2 => ?_)
  refine x_iconst (v := (1)) (by decide) dX1_readText_9 ?_
  refine x_istore_n (lv' := [(2, .int 1), (0, .ref (g.1 66)), (1, .ref (g.1 a1))]) rfl dX1_readText_10 (by decide) rfl ?_
  refine x_sub [1, 2, 0] rfl ?_
  exact s_X1_readText_l1 h1 xF 1 m2
theorem m_X1_readText {g : GX} {a1 : Nat} (h1 : xTo a1)  (im : IM) (r : Int32 × IM) (hr : f_X1_readText a1 im = some r) : xMet g 9 yX1_readText cX1_readText 3 (some .int) [.ref (g.1 66), .ref (g.1 a1)] im (eI r) := x_met (by decide) (Nat.le_of_ble_eq_true rfl) rfl (s_X1_readText h1 im) r hr
