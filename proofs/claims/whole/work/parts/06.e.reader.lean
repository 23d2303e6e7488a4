abbrev md_X1_addByte : xM := (0, 2, RX1, cX1_addByte, none)
def f_X1_addByte (a1 : Int32) (im : IM) : Option (IM) :=
  if 120 ≤ (im 66 1) then
    some im
  else
    if inb (im 66 1) 120 = true then
      bnd (up im 67 (ix (im 66 1)) a1) fun m1 =>
      bnd (up m1 66 1 ((m1 66 1) + 1)) fun m2 =>
      some m2
    else none
set_option maxRecDepth 20000 in
set_option maxHeartbeats 4000000 in
theorem s_X1_addByte {g : GX}  (a1 : Int32) (im : IM) : X g md_X1_addByte eV 0 [(0, .ref (g.1 66)), (1, .int a1)] [] im (f_X1_addByte a1 im) := by
  refine x_aload_n (q := 0) rfl rfl dX1_addByte_0 ?_
  refine x_get (C := RX1) (T := TX1) sh_66 (by decide) rfl in_X1 1 (by decide) fl_X1_15 xf_1_1 dX1_addByte_1 ?_
  refine x_bipush (v := (120)) (by decide) dX1_addByte_4 ?_
  refine x_icmp_ge (tgt := 29) dX1_addByte_6 (by decide) ?_ ?_
  · exact x_vret rfl rfl dX1_addByte_29
  · refine x_aload_n (q := 0) rfl rfl dX1_addByte_9 ?_
    refine x_get (C := RX1) (T := TX1) sh_66 (by decide) rfl in_X1 0 (by decide) fl_X1_9 xf_1_0 dX1_addByte_10 ?_
    refine x_aload_n (q := 0) rfl rfl dX1_addByte_13 ?_
    refine x_get (C := RX1) (T := TX1) sh_66 (by decide) rfl in_X1 1 (by decide) fl_X1_15 xf_1_1 dX1_addByte_14 ?_
    refine x_iload_n (q := 1) rfl rfl dX1_addByte_17 ?_
    refine x_iast sh_67 dX1_addByte_18 ?_
    refine x_bm (fun m1 => ?_)
    refine x_aload_n (q := 0) rfl rfl dX1_addByte_19 ?_
    refine x_dup rfl dX1_addByte_20 ?_
    refine x_get (C := RX1) (T := TX1) sh_66 (by decide) rfl in_X1 1 (by decide) fl_X1_15 xf_1_1 dX1_addByte_21 ?_
    refine x_iconst (v := (1)) (by decide) dX1_addByte_24 ?_
    refine x_iadd dX1_addByte_25 ?_
    refine x_put (C := RX1) (T := TX1) (ty := .int) tyX1 tyX1_ok nmX1 sh_66 (by decide) rfl in_X1 1 (by decide) (by decide) fl_X1_15 rfl (by decide +kernel) rfl rfl dX1_addByte_26 ?_
    refine x_bm (fun m2 => ?_)
    exact x_vret rfl rfl dX1_addByte_29
theorem m_X1_addByte {g : GX}  (a1 : Int32) (im : IM) (r : IM) (hr : f_X1_addByte a1 im = some r) : xMet g 0 yX1_addByte cX1_addByte 2 none [.ref (g.1 66), .int a1] im (eV r) := x_met (by decide) (Nat.le_of_ble_eq_true rfl) rfl (s_X1_addByte a1 im) r hr
abbrev md_X1_typeOf : xM := (1, 1, RX1, cX1_typeOf, (some .int))
def f_X1_typeOf_j1 (a0 : Int32)    : Int32 :=
  3
set_option maxRecDepth 20000 in
set_option maxHeartbeats 4000000 in
theorem s_X1_typeOf_j1 {g : GX} (a0 : Int32)   (im : IM)    : X g md_X1_typeOf (eR im) 46 [] [] im (some (f_X1_typeOf_j1 a0)) := by
  refine x_iconst (v := (3)) (by decide) dX1_typeOf_46 ?_
  refine x_goto (tgt := 51) dX1_typeOf_47 (by decide) ?_
  exact x_iret rfl rfl dX1_typeOf_51
def f_X1_typeOf (a0 : Int32)  : Int32 :=
  if (f_X6_within a0 97 122) = 0 then
    if (f_X6_within a0 48 57) = 0 then
      if a0 = 32 then
        5
      else
        if a0 = 59 then
          f_X1_typeOf_j1 a0
        else
          if a0 = 45 then
            f_X1_typeOf_j1 a0
          else
            4
    else
      2
  else
    1
set_option maxRecDepth 20000 in
set_option maxHeartbeats 4000000 in
theorem s_X1_typeOf {g : GX}  (a0 : Int32) (im : IM) : X g md_X1_typeOf (eR im) 0 [(0, .int a0)] [] im (some (f_X1_typeOf a0)) := by
  refine x_iload_n (q := 0) rfl rfl dX1_typeOf_0 ?_
  refine x_bipush (v := (97)) (by decide) dX1_typeOf_1 ?_
  refine x_bipush (v := (122)) (by decide) dX1_typeOf_3 ?_
  refine x_callSR (av := [.int a0, .int 97, .int 122]) (st := []) (m_X6_within  a0 97 122 im) rfl (by decide) (by decide) lk_X1_74 cd_X6_within xd_X6_within rfl (Nat.le_of_ble_eq_true rfl) dX1_typeOf_5 ?_
  refine x_cs (x_if_eq (tgt := 13) dX1_typeOf_8 (by decide) ?_ ?_)
  · refine x_iload_n (q := 0) rfl rfl dX1_typeOf_13 ?_
    refine x_bipush (v := (48)) (by decide) dX1_typeOf_14 ?_
    refine x_bipush (v := (57)) (by decide) dX1_typeOf_16 ?_
    refine x_callSR (av := [.int a0, .int 48, .int 57]) (st := []) (m_X6_within  a0 48 57 im) rfl (by decide) (by decide) lk_X1_74 cd_X6_within xd_X6_within rfl (Nat.le_of_ble_eq_true rfl) dX1_typeOf_18 ?_
    refine x_cs (x_if_eq (tgt := 26) dX1_typeOf_21 (by decide) ?_ ?_)
    · refine x_iload_n (q := 0) rfl rfl dX1_typeOf_26 ?_
      refine x_bipush (v := (32)) (by decide) dX1_typeOf_27 ?_
      refine x_cs (x_icmp_ne (tgt := 34) dX1_typeOf_29 (by decide) ?_ ?_)
      · refine x_iload_n (q := 0) rfl rfl dX1_typeOf_34 ?_
        refine x_bipush (v := (59)) (by decide) dX1_typeOf_35 ?_
        refine x_cs (x_icmp_eq (tgt := 46) dX1_typeOf_37 (by decide) ?_ ?_)
        · refine x_sub [] rfl ?_
          exact s_X1_typeOf_j1 a0 im
        · refine x_iload_n (q := 0) rfl rfl dX1_typeOf_40 ?_
          refine x_bipush (v := (45)) (by decide) dX1_typeOf_41 ?_
          refine x_cs (x_icmp_ne (tgt := 50) dX1_typeOf_43 (by decide) ?_ ?_)
          · refine x_iconst (v := (4)) (by decide) dX1_typeOf_50 ?_
            exact x_iret rfl rfl dX1_typeOf_51
          · refine x_sub [] rfl ?_
            exact s_X1_typeOf_j1 a0 im
      · refine x_iconst (v := (5)) (by decide) dX1_typeOf_32 ?_
        exact x_iret rfl rfl dX1_typeOf_33
    · refine x_iconst (v := (2)) (by decide) dX1_typeOf_24 ?_
      exact x_iret rfl rfl dX1_typeOf_25
  · refine x_iconst (v := (1)) (by decide) dX1_typeOf_11 ?_
    exact x_iret rfl rfl dX1_typeOf_12
theorem m_X1_typeOf {g : GX}  (a0 : Int32) (im : IM) : xMet g 1 yX1_typeOf cX1_typeOf 1 (some .int) [.int a0] im ((eR im) (f_X1_typeOf a0)) := x_met (by decide) (Nat.le_of_ble_eq_true rfl) rfl (s_X1_typeOf a0 im) _ rfl
abbrev md_X1_beginToken : xM := (0, 3, RX1, cX1_beginToken, none)
def f_X1_beginToken (a1 : Int32) (a2 : Int32) (im : IM) : Option (IM) :=
  if 120 < (im 66 6) then
    some im
  else
    if inb (im 66 6) 121 = true then
      bnd (up im 68 (ix (im 66 6)) a1) fun m1 =>
      if inb (m1 66 6) 121 = true then
        bnd (up m1 69 (ix (m1 66 6)) a1) fun m2 =>
        if inb (m2 66 6) 121 = true then
          bnd (up m2 70 (ix (m2 66 6)) a2) fun m3 =>
          if inb (m3 66 6) 121 = true then
            bnd (up m3 71 (ix (m3 66 6)) 0) fun m4 =>
            bnd (up m4 66 6 ((m4 66 6) + 1)) fun m5 =>
            some m5
          else none
        else none
      else none
    else none
set_option maxRecDepth 20000 in
set_option maxHeartbeats 4000000 in
theorem s_X1_beginToken {g : GX}   (a1 : Int32) (a2 : Int32) (im : IM) : X g md_X1_beginToken eV 0 [(0, .ref (g.1 66)), (1, .int a1), (2, .int a2)] [] im (f_X1_beginToken a1 a2 im) := by
  refine x_aload_n (q := 0) rfl rfl dX1_beginToken_0 ?_
  refine x_get (C := RX1) (T := TX1) sh_66 (by decide) rfl in_X1 6 (by decide) fl_X1_31 xf_1_6 dX1_beginToken_1 ?_
  refine x_bipush (v := (120)) (by decide) dX1_beginToken_4 ?_
  refine x_icmp_gt (tgt := 59) dX1_beginToken_6 (by decide) ?_ ?_
  · exact x_vret rfl rfl dX1_beginToken_59
  · refine x_aload_n (q := 0) rfl rfl dX1_beginToken_9 ?_
    refine x_get (C := RX1) (T := TX1) sh_66 (by decide) rfl in_X1 2 (by decide) fl_X1_19 xf_1_2 dX1_beginToken_10 ?_
    refine x_aload_n (q := 0) rfl rfl dX1_beginToken_13 ?_
    refine x_get (C := RX1) (T := TX1) sh_66 (by decide) rfl in_X1 6 (by decide) fl_X1_31 xf_1_6 dX1_beginToken_14 ?_
    refine x_iload_n (q := 1) rfl rfl dX1_beginToken_17 ?_
    refine x_iast sh_68 dX1_beginToken_18 ?_
    refine x_bm (fun m1 => ?_)
    refine x_aload_n (q := 0) rfl rfl dX1_beginToken_19 ?_
    refine x_get (C := RX1) (T := TX1) sh_66 (by decide) rfl in_X1 3 (by decide) fl_X1_22 xf_1_3 dX1_beginToken_20 ?_
    refine x_aload_n (q := 0) rfl rfl dX1_beginToken_23 ?_
    refine x_get (C := RX1) (T := TX1) sh_66 (by decide) rfl in_X1 6 (by decide) fl_X1_31 xf_1_6 dX1_beginToken_24 ?_
    refine x_iload_n (q := 1) rfl rfl dX1_beginToken_27 ?_
    refine x_iast sh_69 dX1_beginToken_28 ?_
    refine x_bm (fun m2 => ?_)
    refine x_aload_n (q := 0) rfl rfl dX1_beginToken_29 ?_
    refine x_get (C := RX1) (T := TX1) sh_66 (by decide) rfl in_X1 4 (by decide) fl_X1_25 xf_1_4 dX1_beginToken_30 ?_
    refine x_aload_n (q := 0) rfl rfl dX1_beginToken_33 ?_
    refine x_get (C := RX1) (T := TX1) sh_66 (by decide) rfl in_X1 6 (by decide) fl_X1_31 xf_1_6 dX1_beginToken_34 ?_
    refine x_iload_n (q := 2) rfl rfl dX1_beginToken_37 ?_
    refine x_iast sh_70 dX1_beginToken_38 ?_
    refine x_bm (fun m3 => ?_)
    refine x_aload_n (q := 0) rfl rfl dX1_beginToken_39 ?_
    refine x_get (C := RX1) (T := TX1) sh_66 (by decide) rfl in_X1 5 (by decide) fl_X1_28 xf_1_5 dX1_beginToken_40 ?_
    refine x_aload_n (q := 0) rfl rfl dX1_beginToken_43 ?_
    refine x_get (C := RX1) (T := TX1) sh_66 (by decide) rfl in_X1 6 (by decide) fl_X1_31 xf_1_6 dX1_beginToken_44 ?_
    refine x_iconst (v := (0)) (by decide) dX1_beginToken_47 ?_
    refine x_iast sh_71 dX1_beginToken_48 ?_
    refine x_bm (fun m4 => ?_)
    refine x_aload_n (q := 0) rfl rfl dX1_beginToken_49 ?_
    refine x_dup rfl dX1_beginToken_50 ?_
    refine x_get (C := RX1) (T := TX1) sh_66 (by decide) rfl in_X1 6 (by decide) fl_X1_31 xf_1_6 dX1_beginToken_51 ?_
    refine x_iconst (v := (1)) (by decide) dX1_beginToken_54 ?_
    refine x_iadd dX1_beginToken_55 ?_
    refine x_put (C := RX1) (T := TX1) (ty := .int) tyX1 tyX1_ok nmX1 sh_66 (by decide) rfl in_X1 6 (by decide) (by decide) fl_X1_31 rfl (by decide +kernel) rfl rfl dX1_beginToken_56 ?_
    refine x_bm (fun m5 => ?_)
    exact x_vret rfl rfl dX1_beginToken_59
theorem m_X1_beginToken {g : GX}   (a1 : Int32) (a2 : Int32) (im : IM) (r : IM) (hr : f_X1_beginToken a1 a2 im = some r) : xMet g 0 yX1_beginToken cX1_beginToken 3 none [.ref (g.1 66), .int a1, .int a2] im (eV r) := x_met (by decide) (Nat.le_of_ble_eq_true rfl) rfl (s_X1_beginToken a1 a2 im) r hr
abbrev md_X1_growToken : xM := (1, 3, RX1, cX1_growToken, none)
def f_X1_growToken (a1 : Int32) (a2 : Int32) (im : IM) : Option (IM) :=
  if inb a1 121 = true then
    bnd (up im 69 (ix a1) (a2 + 1)) fun m1 =>
    if inb a1 121 = true then
      if (m1 70 (ix a1)) = 2 then
        if inb a1 121 = true then
          if inb a2 120 = true then
            if inb a1 121 = true then
              bnd (up m1 71 (ix a1) (jmin 1000 ((((m1 71 (ix a1)) * 10) + (m1 67 (ix a2))) - 48))) fun m2 =>
              some m2
            else none
          else none
        else none
      else
        some m1
    else none
  else none
set_option maxRecDepth 20000 in
set_option maxHeartbeats 4000000 in
theorem s_X1_growToken {g : GX}   (a1 : Int32) (a2 : Int32) (im : IM) : X g md_X1_growToken eV 0 [(0, .ref (g.1 66)), (1, .int a1), (2, .int a2)] [] im (f_X1_growToken a1 a2 im) := by
  refine x_aload_n (q := 0) rfl rfl dX1_growToken_0 ?_
  refine x_get (C := RX1) (T := TX1) sh_66 (by decide) rfl in_X1 3 (by decide) fl_X1_22 xf_1_3 dX1_growToken_1 ?_
  refine x_iload_n (q := 1) rfl rfl dX1_growToken_4 ?_
  refine x_iload_n (q := 2) rfl rfl dX1_growToken_5 ?_
  refine x_iconst (v := (1)) (by decide) dX1_growToken_6 ?_
  refine x_iadd dX1_growToken_7 ?_
  refine x_iast sh_69 dX1_growToken_8 ?_
  refine x_bm (fun m1 => ?_)
  refine x_aload_n (q := 0) rfl rfl dX1_growToken_9 ?_
  refine x_get (C := RX1) (T := TX1) sh_66 (by decide) rfl in_X1 4 (by decide) fl_X1_25 xf_1_4 dX1_growToken_10 ?_
  refine x_iload_n (q := 1) rfl rfl dX1_growToken_13 ?_
  refine x_iald sh_70 dX1_growToken_14 ?_
  refine x_iconst (v := (2)) (by decide) dX1_growToken_15 ?_
  refine x_icmp_ne (tgt := 50) dX1_growToken_16 (by decide) ?_ ?_
  · exact x_vret rfl rfl dX1_growToken_50
  · refine x_aload_n (q := 0) rfl rfl dX1_growToken_19 ?_
    refine x_get (C := RX1) (T := TX1) sh_66 (by decide) rfl in_X1 5 (by decide) fl_X1_28 xf_1_5 dX1_growToken_20 ?_
    refine x_iload_n (q := 1) rfl rfl dX1_growToken_23 ?_
    refine x_sipush (v := (1000)) (by decide) dX1_growToken_24 ?_
    refine x_aload_n (q := 0) rfl rfl dX1_growToken_27 ?_
    refine x_get (C := RX1) (T := TX1) sh_66 (by decide) rfl in_X1 5 (by decide) fl_X1_28 xf_1_5 dX1_growToken_28 ?_
    refine x_iload_n (q := 1) rfl rfl dX1_growToken_31 ?_
    refine x_iald sh_71 dX1_growToken_32 ?_
    refine x_bipush (v := (10)) (by decide) dX1_growToken_33 ?_
    refine x_imul dX1_growToken_35 ?_
    refine x_aload_n (q := 0) rfl rfl dX1_growToken_36 ?_
    refine x_get (C := RX1) (T := TX1) sh_66 (by decide) rfl in_X1 0 (by decide) fl_X1_9 xf_1_0 dX1_growToken_37 ?_
    refine x_iload_n (q := 2) rfl rfl dX1_growToken_40 ?_
    refine x_iald sh_67 dX1_growToken_41 ?_
    refine x_iadd dX1_growToken_42 ?_
    refine x_bipush (v := (48)) (by decide) dX1_growToken_43 ?_
    refine x_isub dX1_growToken_45 ?_
    refine x_mmin lk_X1_68 (by decide) (Nat.le_of_ble_eq_true rfl) dX1_growToken_46 ?_
    refine x_iast sh_71 dX1_growToken_49 ?_
    refine x_bm (fun m2 => ?_)
    exact x_vret rfl rfl dX1_growToken_50
theorem m_X1_growToken {g : GX}   (a1 : Int32) (a2 : Int32) (im : IM) (r : IM) (hr : f_X1_growToken a1 a2 im = some r) : xMet g 1 yX1_growToken cX1_growToken 3 none [.ref (g.1 66), .int a1, .int a2] im (eV r) := x_met (by decide) (Nat.le_of_ble_eq_true rfl) rfl (s_X1_growToken a1 a2 im) r hr
abbrev md_X1_splitTape : xM := (2, 5, RX1, cX1_splitTape, none)
def f_X1_splitTape_j5  (k9 : Int32 → Int32 → IM → Option (IM)) (x2 : Int32) (x3 : Int32) (im : IM) : Option (IM) :=
  bnd (x2 + 1) fun v4 =>
  k9 x3 v4 im
set_option maxRecDepth 20000 in
set_option maxHeartbeats 4000000 in
theorem s_X1_splitTape_j5 {g : GX}  (k9 : Int32 → Int32 → IM → Option (IM)) (hk9 : ∀ (x1 : Int32) (x2 : Int32) (im : IM), X g md_X1_splitTape eV 9 [(0, .ref (g.1 66)), (1, .int x1), (2, .int x2)] [] im (k9 x1 x2 im)) (x2 : Int32) (x3 : Int32)  (im : IM) : X g md_X1_splitTape eV 88 [(0, .ref (g.1 66)), (2, .int x2), (3, .int x3)] [] im (f_X1_splitTape_j5 k9 x2 x3 im) := by
  refine x_iload_n (q := 2) rfl rfl dX1_splitTape_88 ?_
  refine x_istore_n (lv' := [(1, .int x3), (0, .ref (g.1 66)), (2, .int x2), (3, .int x3)]) rfl dX1_splitTape_89 (by decide) rfl ?_
  refine x_iinc (q := 2) (a := 1) (lv' := fun v4 => [(2, .int v4), (1, .int x3), (0, .ref (g.1 66)), (3, .int x3)]) dX1_splitTape_90 rfl (by decide) (by decide) (fun _ => rfl) (fun v4 => ?_)
  refine x_goto (tgt := 9) dX1_splitTape_93 (by decide) ?_
  refine x_sub [2, 1, 0] rfl ?_
  exact hk9 x3 v4 im
def f_X1_splitTape_j4  (k9 : Int32 → Int32 → IM → Option (IM)) (x2 : Int32) (x3 : Int32) (im : IM) : Option (IM) :=
  if x3 = 5 then
    f_X1_splitTape_j5 k9 x2 x3 im
  else
    if (im 66 6) ≤ 0 then
      f_X1_splitTape_j5 k9 x2 x3 im
    else
      (f_X1_growToken ((im 66 6) - 1) x2 im).bind fun r5 =>
      f_X1_splitTape_j5 k9 x2 x3 r5
set_option maxRecDepth 20000 in
set_option maxHeartbeats 4000000 in
theorem s_X1_splitTape_j4 {g : GX}  (k9 : Int32 → Int32 → IM → Option (IM)) (hk9 : ∀ (x1 : Int32) (x2 : Int32) (im : IM), X g md_X1_splitTape eV 9 [(0, .ref (g.1 66)), (1, .int x1), (2, .int x2)] [] im (k9 x1 x2 im)) (x2 : Int32) (x3 : Int32)  (im : IM) : X g md_X1_splitTape eV 65 [(0, .ref (g.1 66)), (2, .int x2), (3, .int x3)] [] im (f_X1_splitTape_j4 k9 x2 x3 im) := by
  refine x_iload_n (q := 2) rfl rfl dX1_splitTape_65 ?_
  refine x_iconst (v := (5)) (by decide) dX1_splitTape_66 ?_
  refine x_icmp_eq (tgt := 88) dX1_splitTape_67 (by decide) ?_ ?_
  · refine x_sub [0, 1, 2] rfl ?_
    exact s_X1_splitTape_j5 k9 hk9 x2 x3 im
  · refine x_aload_n (q := 0) rfl rfl dX1_splitTape_70 ?_
    refine x_get (C := RX1) (T := TX1) sh_66 (by decide) rfl in_X1 6 (by decide) fl_X1_31 xf_1_6 dX1_splitTape_71 ?_
    refine x_if_le (tgt := 88) dX1_splitTape_74 (by decide) ?_ ?_
    · refine x_sub [0, 1, 2] rfl ?_
      exact s_X1_splitTape_j5 k9 hk9 x2 x3 im
    · refine x_aload_n (q := 0) rfl rfl dX1_splitTape_77 ?_
      refine x_aload_n (q := 0) rfl rfl dX1_splitTape_78 ?_
      refine x_get (C := RX1) (T := TX1) sh_66 (by decide) rfl in_X1 6 (by decide) fl_X1_31 xf_1_6 dX1_splitTape_79 ?_
      refine x_iconst (v := (1)) (by decide) dX1_splitTape_82 ?_
      refine x_isub dX1_splitTape_83 ?_
      refine x_iload_n (q := 1) rfl rfl dX1_splitTape_84 ?_
      refine x_bind (fun r5 er5 => ?_)
      refine x_callVV (av := [.int ((im 66 6) - 1), .int x2]) (st := []) (m_X1_growToken  (((im 66 6) - 1)) x2 im r5 er5) sh_66 (by decide) rfl rfl (by decide) (by decide) lk_X1_65 cd_X1_growToken xd_X1_growToken rfl (Nat.le_of_ble_eq_true rfl) dX1_splitTape_85 ?_
      refine x_sub [0, 1, 2] rfl ?_
      exact s_X1_splitTape_j5 k9 hk9 x2 x3 r5
def f_X1_splitTape_j3  (k9 : Int32 → Int32 → IM → Option (IM)) (x2 : Int32) (x3 : Int32) (s0 : Int32) (im : IM) : Option (IM) :=
  if x3 = 5 then
    f_X1_splitTape_j4 k9 x2 x3 im
  else
    if s0 = 0 then
      (f_X1_beginToken x2 x3 im).bind fun r6 =>
      f_X1_splitTape_j4 k9 x2 x3 r6
    else
      f_X1_splitTape_j4 k9 x2 x3 im
set_option maxRecDepth 20000 in
set_option maxHeartbeats 4000000 in
theorem s_X1_splitTape_j3 {g : GX}  (k9 : Int32 → Int32 → IM → Option (IM)) (hk9 : ∀ (x1 : Int32) (x2 : Int32) (im : IM), X g md_X1_splitTape eV 9 [(0, .ref (g.1 66)), (1, .int x1), (2, .int x2)] [] im (k9 x1 x2 im)) (x2 : Int32) (x3 : Int32) (s0 : Int32)  (im : IM) : X g md_X1_splitTape eV 47 [(0, .ref (g.1 66)), (2, .int x2), (3, .int x3)] [.int s0] im (f_X1_splitTape_j3 k9 x2 x3 s0 im) := by
  refine x_istore (lv' := [(4, .int s0), (0, .ref (g.1 66)), (2, .int x2), (3, .int x3)]) dX1_splitTape_47 (by decide) rfl ?_
  refine x_iload_n (q := 3) rfl rfl dX1_splitTape_49 ?_
  refine x_iconst (v := (5)) (by decide) dX1_splitTape_50 ?_
  refine x_icmp_eq (tgt := 65) dX1_splitTape_51 (by decide) ?_ ?_
  · refine x_sub [1, 2, 3] rfl ?_
    exact s_X1_splitTape_j4 k9 hk9 x2 x3 im
  · refine x_iload (q := 0) rfl dX1_splitTape_54 ?_
    refine x_if_ne (tgt := 65) dX1_splitTape_56 (by decide) ?_ ?_
    · refine x_sub [1, 2, 3] rfl ?_
      exact s_X1_splitTape_j4 k9 hk9 x2 x3 im
    · refine x_aload_n (q := 1) rfl rfl dX1_splitTape_59 ?_
      refine x_iload_n (q := 2) rfl rfl dX1_splitTape_60 ?_
      refine x_iload_n (q := 3) rfl rfl dX1_splitTape_61 ?_
      refine x_bind (fun r6 er6 => ?_)
      refine x_callVV (av := [.int x2, .int x3]) (st := []) (m_X1_beginToken  x2 x3 im r6 er6) sh_66 (by decide) rfl rfl (by decide) (by decide) lk_X1_61 cd_X1_beginToken xd_X1_beginToken rfl (Nat.le_of_ble_eq_true rfl) dX1_splitTape_62 ?_
      refine x_sub [1, 2, 3] rfl ?_
      exact s_X1_splitTape_j4 k9 hk9 x2 x3 r6
def f_X1_splitTape_j2  (k9 : Int32 → Int32 → IM → Option (IM)) (x2 : Int32) (x3 : Int32) (im : IM) : Option (IM) :=
  f_X1_splitTape_j3 k9 x2 x3 0 im
set_option maxRecDepth 20000 in
set_option maxHeartbeats 4000000 in
theorem s_X1_splitTape_j2 {g : GX}  (k9 : Int32 → Int32 → IM → Option (IM)) (hk9 : ∀ (x1 : Int32) (x2 : Int32) (im : IM), X g md_X1_splitTape eV 9 [(0, .ref (g.1 66)), (1, .int x1), (2, .int x2)] [] im (k9 x1 x2 im)) (x2 : Int32) (x3 : Int32)  (im : IM) : X g md_X1_splitTape eV 46 [(0, .ref (g.1 66)), (2, .int x2), (3, .int x3)] [] im (f_X1_splitTape_j2 k9 x2 x3 im) := by
  refine x_iconst (v := (0)) (by decide) dX1_splitTape_46 ?_
  refine x_sub [0, 1, 2] rfl ?_
  exact s_X1_splitTape_j3 k9 hk9 x2 x3 0 im
def f_X1_splitTape_j6  (k9 : Int32 → Int32 → IM → Option (IM)) (x2 : Int32) (x3 : Int32) (im : IM) : Option (IM) :=
  f_X1_splitTape_j3 k9 x2 x3 1 im
set_option maxRecDepth 20000 in
set_option maxHeartbeats 4000000 in
theorem s_X1_splitTape_j6 {g : GX}  (k9 : Int32 → Int32 → IM → Option (IM)) (hk9 : ∀ (x1 : Int32) (x2 : Int32) (im : IM), X g md_X1_splitTape eV 9 [(0, .ref (g.1 66)), (1, .int x1), (2, .int x2)] [] im (k9 x1 x2 im)) (x2 : Int32) (x3 : Int32)  (im : IM) : X g md_X1_splitTape eV 42 [(0, .ref (g.1 66)), (2, .int x2), (3, .int x3)] [] im (f_X1_splitTape_j6 k9 x2 x3 im) := by
  refine x_iconst (v := (1)) (by decide) dX1_splitTape_42 ?_
  refine x_goto (tgt := 47) dX1_splitTape_43 (by decide) ?_
  refine x_sub [0, 1, 2] rfl ?_
  exact s_X1_splitTape_j3 k9 hk9 x2 x3 1 im
def f_X1_splitTape_l1b    (k9 : Int32 → Int32 → IM → Option (IM)) (x1 : Int32) (x2 : Int32) (im : IM) : Option (IM) :=
  if (im 66 1) ≤ x2 then
    (f_X1_beginToken (im 66 1) 0 im).bind fun r2 =>
    some r2
  else
    if inb x2 120 = true then
      bnd (f_X1_typeOf (im 67 (ix x2))) fun v3 =>
      if v3 = x1 then
        if v3 = 1 then
          f_X1_splitTape_j6 k9 x2 v3 im
        else
          if v3 = 2 then
            f_X1_splitTape_j6 k9 x2 v3 im
          else
            f_X1_splitTape_j2 k9 x2 v3 im
      else
        f_X1_splitTape_j2 k9 x2 v3 im
    else none
def f_X1_splitTape_l1    : Nat → Int32 → Int32 → IM → Option (IM)
  | 0, _, _, _ => none
  | n + 1, x1, x2, im => f_X1_splitTape_l1b (f_X1_splitTape_l1 n) x1 x2 im
set_option maxRecDepth 20000 in
set_option maxHeartbeats 4000000 in
theorem s_X1_splitTape_l1b {g : GX}    (k9 : Int32 → Int32 → IM → Option (IM)) (hk9 : ∀ (x1 : Int32) (x2 : Int32) (im : IM), X g md_X1_splitTape eV 9 [(0, .ref (g.1 66)), (1, .int x1), (2, .int x2)] [] im (k9 x1 x2 im)) (x1 : Int32) (x2 : Int32)  (im : IM) : X g md_X1_splitTape eV 9 [(0, .ref (g.1 66)), (1, .int x1), (2, .int x2)] [] im (f_X1_splitTape_l1b k9 x1 x2 im) := by
  refine x_iload_n (q := 2) rfl rfl dX1_splitTape_9 ?_
  refine x_aload_n (q := 0) rfl rfl dX1_splitTape_10 ?_
  refine x_get (C := RX1) (T := TX1) sh_66 (by decide) rfl in_X1 1 (by decide) fl_X1_15 xf_1_1 dX1_splitTape_11 ?_
  refine x_icmp_ge (tgt := 96) dX1_splitTape_14 (by decide) ?_ ?_
  · refine x_aload_n (q := 0) rfl rfl dX1_splitTape_96 ?_
    refine x_aload_n (q := 0) rfl rfl dX1_splitTape_97 ?_
    refine x_get (C := RX1) (T := TX1) sh_66 (by decide) rfl in_X1 1 (by decide) fl_X1_15 xf_1_1 dX1_splitTape_98 ?_
    refine x_iconst (v := (0)) (by decide) dX1_splitTape_101 ?_
    refine x_bind (fun r2 er2 => ?_)
    refine x_callVV (av := [.int (im 66 1), .int 0]) (st := []) (m_X1_beginToken  ((im 66 1)) 0 im r2 er2) sh_66 (by decide) rfl rfl (by decide) (by decide) lk_X1_61 cd_X1_beginToken xd_X1_beginToken rfl (Nat.le_of_ble_eq_true rfl) dX1_splitTape_102 ?_
    exact x_vret rfl rfl dX1_splitTape_105
  · refine x_aload_n (q := 0) rfl rfl dX1_splitTape_17 ?_
    refine x_get (C := RX1) (T := TX1) sh_66 (by decide) rfl in_X1 0 (by decide) fl_X1_9 xf_1_0 dX1_splitTape_18 ?_
    refine x_iload_n (q := 2) rfl rfl dX1_splitTape_21 ?_
    refine x_iald sh_67 dX1_splitTape_22 ?_
    refine x_callSR (av := [.int (im 67 (ix x2))]) (st := []) (m_X1_typeOf  ((im 67 (ix x2))) im) rfl (by decide) (by decide) lk_X1_57 cd_X1_typeOf xd_X1_typeOf rfl (Nat.le_of_ble_eq_true rfl) dX1_splitTape_23 ?_
    refine x_bi (fun v3 => ?_)
    refine x_istore_n (lv' := [(3, .int v3), (0, .ref (g.1 66)), (1, .int x1), (2, .int x2)]) rfl dX1_splitTape_26 (by decide) rfl ?_
    refine x_iload_n (q := 0) rfl rfl dX1_splitTape_27 ?_
    refine x_iload_n (q := 2) rfl rfl dX1_splitTape_28 ?_
    refine x_icmp_ne (tgt := 46) dX1_splitTape_29 (by decide) ?_ ?_
    · refine x_sub [1, 3, 0] rfl ?_
      exact s_X1_splitTape_j2 k9 hk9 x2 v3 im
    · refine x_iload_n (q := 0) rfl rfl dX1_splitTape_32 ?_
      refine x_iconst (v := (1)) (by decide) dX1_splitTape_33 ?_
      refine x_icmp_eq (tgt := 42) dX1_splitTape_34 (by decide) ?_ ?_
      · refine x_sub [1, 3, 0] rfl ?_
        exact s_X1_splitTape_j6 k9 hk9 x2 v3 im
      · refine x_iload_n (q := 0) rfl rfl dX1_splitTape_37 ?_
        refine x_iconst (v := (2)) (by decide) dX1_splitTape_38 ?_
        refine x_icmp_ne (tgt := 46) dX1_splitTape_39 (by decide) ?_ ?_
        · refine x_sub [1, 3, 0] rfl ?_
          exact s_X1_splitTape_j2 k9 hk9 x2 v3 im
        · refine x_sub [1, 3, 0] rfl ?_
          exact s_X1_splitTape_j6 k9 hk9 x2 v3 im
set_option maxRecDepth 20000 in
set_option maxHeartbeats 4000000 in
theorem s_X1_splitTape_l1 {g : GX}    (n : Nat) : ∀ (x1 : Int32) (x2 : Int32) (im : IM), X g md_X1_splitTape eV 9 [(0, .ref (g.1 66)), (1, .int x1), (2, .int x2)] [] im (f_X1_splitTape_l1 n x1 x2 im) := by
  induction n with
  | zero => intro x1 x2 im; exact x_none
  | succ n ih => intro x1 x2 im; exact s_X1_splitTape_l1b (f_X1_splitTape_l1 n) ih x1 x2 im
def f_X1_splitTape  (im : IM) : Option (IM) :=
  bnd (up im 66 6 0) fun m1 =>
  f_X1_splitTape_l1 xF 5 0 m1
set_option maxRecDepth 20000 in
set_option maxHeartbeats 4000000 in
theorem s_X1_splitTape {g : GX}   (im : IM) : X g md_X1_splitTape eV 0 [(0, .ref (g.1 66))] [] im (f_X1_splitTape im) := by
  refine x_aload_n (q := 0) rfl rfl dX1_splitTape_0 ?_
  refine x_iconst (v := (0)) (by decide) dX1_splitTape_1 ?_
  refine x_put (C := RX1) (T := TX1) (ty := .int) tyX1 tyX1_ok nmX1 sh_66 (by decide) rfl in_X1 6 (by decide) (by decide) fl_X1_31 rfl (by decide +kernel) rfl rfl dX1_splitTape_2 ?_
  refine x_bm (fun m1 => ?_)
  refine x_iconst (v := (5)) (by decide) dX1_splitTape_5 ?_
  refine x_istore_n (lv' := [(1, .int 5), (0, .ref (g.1 66))]) rfl dX1_splitTape_6 (by decide) rfl ?_
  refine x_iconst (v := (0)) (by decide) dX1_splitTape_7 ?_
  refine x_istore_n (lv' := [(2, .int 0), (1, .int 5), (0, .ref (g.1 66))]) rfl dX1_splitTape_8 (by decide) rfl ?_
  refine x_sub [2, 1, 0] rfl ?_
  exact s_X1_splitTape_l1 xF 5 0 m1
theorem m_X1_splitTape {g : GX}   (im : IM) (r : IM) (hr : f_X1_splitTape im = some r) : xMet g 2 yX1_splitTape cX1_splitTape 5 none [.ref (g.1 66)] im (eV r) := x_met (by decide) (Nat.le_of_ble_eq_true rfl) rfl (s_X1_splitTape im) r hr
abbrev md_X1_goOn : xM := (0, 1, RX1, cX1_goOn, none)
def f_X1_goOn  (im : IM) : IM :=
  if ((im 66 6) - 1) ≤ (im 66 7) then
    im
  else
    bnd (up im 66 7 ((im 66 7) + 1)) fun m1 =>
    m1
set_option maxRecDepth 20000 in
set_option maxHeartbeats 4000000 in
theorem s_X1_goOn {g : GX}   (im : IM) : X g md_X1_goOn eV 0 [(0, .ref (g.1 66))] [] im (some (f_X1_goOn im)) := by
  refine x_aload_n (q := 0) rfl rfl dX1_goOn_0 ?_
  refine x_get (C := RX1) (T := TX1) sh_66 (by decide) rfl in_X1 7 (by decide) fl_X1_34 xf_1_7 dX1_goOn_1 ?_
  refine x_aload_n (q := 0) rfl rfl dX1_goOn_4 ?_
  refine x_get (C := RX1) (T := TX1) sh_66 (by decide) rfl in_X1 6 (by decide) fl_X1_31 xf_1_6 dX1_goOn_5 ?_
  refine x_iconst (v := (1)) (by decide) dX1_goOn_8 ?_
  refine x_isub dX1_goOn_9 ?_
  refine x_cs (x_icmp_ge (tgt := 23) dX1_goOn_10 (by decide) ?_ ?_)
  · exact x_vret rfl rfl dX1_goOn_23
  · refine x_aload_n (q := 0) rfl rfl dX1_goOn_13 ?_
    refine x_dup rfl dX1_goOn_14 ?_
    refine x_get (C := RX1) (T := TX1) sh_66 (by decide) rfl in_X1 7 (by decide) fl_X1_34 xf_1_7 dX1_goOn_15 ?_
    refine x_iconst (v := (1)) (by decide) dX1_goOn_18 ?_
    refine x_iadd dX1_goOn_19 ?_
    refine x_put (C := RX1) (T := TX1) (ty := .int) tyX1 tyX1_ok nmX1 sh_66 (by decide) rfl in_X1 7 (by decide) (by decide) fl_X1_34 rfl (by decide +kernel) rfl rfl dX1_goOn_20 ?_
    refine x_bs (x_bm (fun m1 => ?_))
    exact x_vret rfl rfl dX1_goOn_23
theorem m_X1_goOn {g : GX}   (im : IM) : xMet g 0 yX1_goOn cX1_goOn 1 none [.ref (g.1 66)] im (eV (f_X1_goOn im)) := x_met (by decide) (Nat.le_of_ble_eq_true rfl) rfl (s_X1_goOn im) _ rfl
abbrev md_X1_takeNumber : xM := (1, 3, RX1, cX1_takeNumber, (some .boolean))
def f_X1_takeNumber_j1 (a1 : Int32) (a2 : Int32)   (im : IM) : Option (Int32 × IM) :=
  some ((0, im))
set_option maxRecDepth 20000 in
set_option maxHeartbeats 4000000 in
theorem s_X1_takeNumber_j1 {g : GX} (a1 : Int32) (a2 : Int32)      (im : IM) : X g md_X1_takeNumber eI 30 [] [] im (f_X1_takeNumber_j1 a1 a2 im) := by
  refine x_iconst (v := (0)) (by decide) dX1_takeNumber_30 ?_
  exact x_nret (y := 0) rfl rfl (by decide) dX1_takeNumber_31
def f_X1_takeNumber (a1 : Int32) (a2 : Int32) (im : IM) : Option (Int32 × IM) :=
  if inb (im 66 7) 121 = true then
    if (im 70 (ix (im 66 7))) = 2 then
      if inb (im 66 7) 121 = true then
        if (f_X6_within (im 71 (ix (im 66 7))) a1 a2) = 0 then
          f_X1_takeNumber_j1 a1 a2 im
        else
          if inb (im 66 7) 121 = true then
            bnd (up im 66 8 (im 71 (ix (im 66 7)))) fun m1 =>
            bnd (f_X1_goOn m1) fun m2 =>
            some ((1, m2))
          else none
      else none
    else
      f_X1_takeNumber_j1 a1 a2 im
  else none
set_option maxRecDepth 20000 in
set_option maxHeartbeats 4000000 in
theorem s_X1_takeNumber {g : GX}   (a1 : Int32) (a2 : Int32) (im : IM) : X g md_X1_takeNumber eI 0 [(0, .ref (g.1 66)), (1, .int a1), (2, .int a2)] [] im (f_X1_takeNumber a1 a2 im) := by
  refine x_aload_n (q := 0) rfl rfl dX1_takeNumber_0 ?_
  refine x_get (C := RX1) (T := TX1) sh_66 (by decide) rfl in_X1 4 (by decide) fl_X1_25 xf_1_4 dX1_takeNumber_1 ?_
  refine x_aload_n (q := 0) rfl rfl dX1_takeNumber_4 ?_
  refine x_get (C := RX1) (T := TX1) sh_66 (by decide) rfl in_X1 7 (by decide) fl_X1_34 xf_1_7 dX1_takeNumber_5 ?_
  refine x_iald sh_70 dX1_takeNumber_8 ?_
  refine x_iconst (v := (2)) (by decide) dX1_takeNumber_9 ?_
  refine x_icmp_ne (tgt := 30) dX1_takeNumber_10 (by decide) ?_ ?_
  · refine x_sub [] rfl ?_
    exact s_X1_takeNumber_j1 a1 a2 im
  · refine x_aload_n (q := 0) rfl rfl dX1_takeNumber_13 ?_
    refine x_get (C := RX1) (T := TX1) sh_66 (by decide) rfl in_X1 5 (by decide) fl_X1_28 xf_1_5 dX1_takeNumber_14 ?_
    refine x_aload_n (q := 0) rfl rfl dX1_takeNumber_17 ?_
    refine x_get (C := RX1) (T := TX1) sh_66 (by decide) rfl in_X1 7 (by decide) fl_X1_34 xf_1_7 dX1_takeNumber_18 ?_
    refine x_iald sh_71 dX1_takeNumber_21 ?_
    refine x_iload_n (q := 1) rfl rfl dX1_takeNumber_22 ?_
    refine x_iload_n (q := 2) rfl rfl dX1_takeNumber_23 ?_
    refine x_callSR (av := [.int (im 71 (ix (im 66 7))), .int a1, .int a2]) (st := []) (m_X6_within  ((im 71 (ix (im 66 7)))) a1 a2 im) rfl (by decide) (by decide) lk_X1_74 cd_X6_within xd_X6_within rfl (Nat.le_of_ble_eq_true rfl) dX1_takeNumber_24 ?_
    refine x_if_ne (tgt := 32) dX1_takeNumber_27 (by decide) ?_ ?_
    · refine x_aload_n (q := 0) rfl rfl dX1_takeNumber_32 ?_
      refine x_aload_n (q := 0) rfl rfl dX1_takeNumber_33 ?_
      refine x_get (C := RX1) (T := TX1) sh_66 (by decide) rfl in_X1 5 (by decide) fl_X1_28 xf_1_5 dX1_takeNumber_34 ?_
      refine x_aload_n (q := 0) rfl rfl dX1_takeNumber_37 ?_
      refine x_get (C := RX1) (T := TX1) sh_66 (by decide) rfl in_X1 7 (by decide) fl_X1_34 xf_1_7 dX1_takeNumber_38 ?_
      refine x_iald sh_71 dX1_takeNumber_41 ?_
      refine x_put (C := RX1) (T := TX1) (ty := .int) tyX1 tyX1_ok nmX1 sh_66 (by decide) rfl in_X1 8 (by decide) (by decide) fl_X1_37 rfl (by decide +kernel) rfl rfl dX1_takeNumber_42 ?_
      refine x_bm (fun m1 => ?_)
      refine x_aload_n (q := 0) rfl rfl dX1_takeNumber_45 ?_
      refine x_callVV (av := []) (st := []) (m_X1_goOn   m1) sh_66 (by decide) rfl rfl (by decide) (by decide) lk_X1_137 cd_X1_goOn xd_X1_goOn rfl (Nat.le_of_ble_eq_true rfl) dX1_takeNumber_46 ?_
      refine x_bm (fun m2 => ?_)
      refine x_iconst (v := (1)) (by decide) dX1_takeNumber_49 ?_
      exact x_nret (y := 1) rfl rfl (by decide) dX1_takeNumber_50
    · refine x_sub [] rfl ?_
      exact s_X1_takeNumber_j1 a1 a2 im
theorem m_X1_takeNumber {g : GX}   (a1 : Int32) (a2 : Int32) (im : IM) (r : Int32 × IM) (hr : f_X1_takeNumber a1 a2 im = some r) : xMet g 1 yX1_takeNumber cX1_takeNumber 3 (some .boolean) [.ref (g.1 66), .int a1, .int a2] im (eI r) := x_met (by decide) (Nat.le_of_ble_eq_true rfl) rfl (s_X1_takeNumber a1 a2 im) r hr
abbrev md_X1_takeSign : xM := (1, 3, RX1, cX1_takeSign, (some .boolean))
def f_X1_takeSign_j3 (a1 : Int32)  (x2 : Int32) (im : IM) : Option (Int32 × IM) :=
  some ((zb x2, im))
set_option maxRecDepth 20000 in
set_option maxHeartbeats 4000000 in
theorem s_X1_takeSign_j3 {g : GX} (a1 : Int32)    (x2 : Int32)  (im : IM) : X g md_X1_takeSign eI 45 [(2, .int x2)] [] im (f_X1_takeSign_j3 a1 x2 im) := by
  refine x_iload_n (q := 0) rfl rfl dX1_takeSign_45 ?_
  exact x_nret (y := zb x2) rfl rfl rfl dX1_takeSign_46
def f_X1_takeSign_j2 (a1 : Int32)  (s0 : Int32) (im : IM) : Option (Int32 × IM) :=
  if s0 = 0 then
    f_X1_takeSign_j3 a1 s0 im
  else
    bnd (f_X1_goOn im) fun m1 =>
    f_X1_takeSign_j3 a1 s0 m1
set_option maxRecDepth 20000 in
set_option maxHeartbeats 4000000 in
theorem s_X1_takeSign_j2 {g : GX} (a1 : Int32)    (s0 : Int32)  (im : IM) : X g md_X1_takeSign eI 36 [(0, .ref (g.1 66))] [.int s0] im (f_X1_takeSign_j2 a1 s0 im) := by
  refine x_istore_n (lv' := [(2, .int s0), (0, .ref (g.1 66))]) rfl dX1_takeSign_36 (by decide) rfl ?_
  refine x_iload_n (q := 0) rfl rfl dX1_takeSign_37 ?_
  refine x_if_eq (tgt := 45) dX1_takeSign_38 (by decide) ?_ ?_
  · refine x_sub [0] rfl ?_
    exact s_X1_takeSign_j3 a1 s0 im
  · refine x_aload_n (q := 1) rfl rfl dX1_takeSign_41 ?_
    refine x_callVV (av := []) (st := []) (m_X1_goOn   im) sh_66 (by decide) rfl rfl (by decide) (by decide) lk_X1_137 cd_X1_goOn xd_X1_goOn rfl (Nat.le_of_ble_eq_true rfl) dX1_takeSign_42 ?_
    refine x_bm (fun m1 => ?_)
    refine x_sub [0] rfl ?_
    exact s_X1_takeSign_j3 a1 s0 m1
def f_X1_takeSign_j1 (a1 : Int32)   (im : IM) : Option (Int32 × IM) :=
  f_X1_takeSign_j2 a1 0 im
set_option maxRecDepth 20000 in
set_option maxHeartbeats 4000000 in
theorem s_X1_takeSign_j1 {g : GX} (a1 : Int32)      (im : IM) : X g md_X1_takeSign eI 35 [(0, .ref (g.1 66))] [] im (f_X1_takeSign_j1 a1 im) := by
  refine x_iconst (v := (0)) (by decide) dX1_takeSign_35 ?_
  refine x_sub [0] rfl ?_
  exact s_X1_takeSign_j2 a1 0 im
def f_X1_takeSign (a1 : Int32) (im : IM) : Option (Int32 × IM) :=
  if inb (im 66 7) 121 = true then
    if (im 70 (ix (im 66 7))) = 3 then
      if inb (im 66 7) 121 = true then
        if inb (im 68 (ix (im 66 7))) 120 = true then
          if (im 67 (ix (im 68 (ix (im 66 7))))) = a1 then
            f_X1_takeSign_j2 a1 1 im
          else
            f_X1_takeSign_j1 a1 im
        else none
      else none
    else
      f_X1_takeSign_j1 a1 im
  else none
set_option maxRecDepth 20000 in
set_option maxHeartbeats 4000000 in
theorem s_X1_takeSign {g : GX}  (a1 : Int32) (im : IM) : X g md_X1_takeSign eI 0 [(0, .ref (g.1 66)), (1, .int a1)] [] im (f_X1_takeSign a1 im) := by
  refine x_aload_n (q := 0) rfl rfl dX1_takeSign_0 ?_
  refine x_get (C := RX1) (T := TX1) sh_66 (by decide) rfl in_X1 4 (by decide) fl_X1_25 xf_1_4 dX1_takeSign_1 ?_
  refine x_aload_n (q := 0) rfl rfl dX1_takeSign_4 ?_
  refine x_get (C := RX1) (T := TX1) sh_66 (by decide) rfl in_X1 7 (by decide) fl_X1_34 xf_1_7 dX1_takeSign_5 ?_
  refine x_iald sh_70 dX1_takeSign_8 ?_
  refine x_iconst (v := (3)) (by decide) dX1_takeSign_9 ?_
  refine x_icmp_ne (tgt := 35) dX1_takeSign_10 (by decide) ?_ ?_
  · refine x_sub [0] rfl ?_
    exact s_X1_takeSign_j1 a1 im
  · refine x_aload_n (q := 0) rfl rfl dX1_takeSign_13 ?_
    refine x_get (C := RX1) (T := TX1) sh_66 (by decide) rfl in_X1 0 (by decide) fl_X1_9 xf_1_0 dX1_takeSign_14 ?_
    refine x_aload_n (q := 0) rfl rfl dX1_takeSign_17 ?_
    refine x_get (C := RX1) (T := TX1) sh_66 (by decide) rfl in_X1 2 (by decide) fl_X1_19 xf_1_2 dX1_takeSign_18 ?_
    refine x_aload_n (q := 0) rfl rfl dX1_takeSign_21 ?_
    refine x_get (C := RX1) (T := TX1) sh_66 (by decide) rfl in_X1 7 (by decide) fl_X1_34 xf_1_7 dX1_takeSign_22 ?_
    refine x_iald sh_68 dX1_takeSign_25 ?_
    refine x_iald sh_67 dX1_takeSign_26 ?_
    refine x_iload_n (q := 1) rfl rfl dX1_takeSign_27 ?_
    refine x_icmp_ne (tgt := 35) dX1_takeSign_28 (by decide) ?_ ?_
    · refine x_sub [0] rfl ?_
      exact s_X1_takeSign_j1 a1 im
    · refine x_iconst (v := (1)) (by decide) dX1_takeSign_31 ?_
      refine x_goto (tgt := 36) dX1_takeSign_32 (by decide) ?_
      refine x_sub [0] rfl ?_
      exact s_X1_takeSign_j2 a1 1 im
theorem m_X1_takeSign {g : GX}  (a1 : Int32) (im : IM) (r : Int32 × IM) (hr : f_X1_takeSign a1 im = some r) : xMet g 1 yX1_takeSign cX1_takeSign 3 (some .boolean) [.ref (g.1 66), .int a1] im (eI r) := x_met (by decide) (Nat.le_of_ble_eq_true rfl) rfl (s_X1_takeSign a1 im) r hr
