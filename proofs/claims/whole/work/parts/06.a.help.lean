abbrev md_J0_coder_7d493 : xM := (0, 1, RJ0, cJ0_coder_7d493, (some .byte))
def f_J0_coder_7d493 (a0 : Nat) (im : IM) : Int32 :=
  0
set_option maxRecDepth 20000 in
set_option maxHeartbeats 4000000 in
theorem s_J0_coder_7d493 {g : GX} {a0 : Nat} (h0 : a0 < 19)  (im : IM) : X g md_J0_coder_7d493 (eR im) 0 [(0, .ref (g.2.2.2.1.1 a0))] [] im (some (f_J0_coder_7d493 a0 im)) := by
  unfold f_J0_coder_7d493
  refine x_getCS fl_J0_38 dJ0_coder_7d493_0 ?_
  refine x_lit_f (c := (1 : Int32) = 0) (by decide) ?_
  refine x_if_eq (o1 := none) (tgt := 13) dJ0_coder_7d493_3 (by decide) x_none ?_
  refine x_aload_n (q := 0) rfl rfl dJ0_coder_7d493_6 ?_
  refine x_gcod h0 fl_J0_15 dJ0_coder_7d493_7 ?_
  refine x_goto (tgt := 14) dJ0_coder_7d493_10 (by decide) ?_
  exact x_nret (y := 0) rfl rfl (by decide) dJ0_coder_7d493_14
theorem m_J0_coder_7d493 {g : GX} {a0 : Nat} (h0 : a0 < 19)  (im : IM) : xMet g 0 yJ0_coder_7d493 cJ0_coder_7d493 1 (some .byte) [.ref (g.2.2.2.1.1 a0)] im ((eR im) (f_J0_coder_7d493 a0 im)) := x_met (by decide) (Nat.le_of_ble_eq_true rfl) rfl (s_J0_coder_7d493 h0 im) _ rfl
abbrev md_J0_length_8abf5 : xM := (1, 1, RJ0, cJ0_length_8abf5, (some .int))
def f_J0_length_8abf5 (a0 : Nat) (im : IM) : Int32 :=
  (jshr (nI (xLEN.getD a0 0)) (f_J0_coder_7d493 a0 im))
set_option maxRecDepth 20000 in
set_option maxHeartbeats 4000000 in
theorem s_J0_length_8abf5 {g : GX} {a0 : Nat} (h0 : a0 < 19)  (im : IM) : X g md_J0_length_8abf5 (eR im) 0 [(0, .ref (g.2.2.2.1.1 a0))] [] im (some (f_J0_length_8abf5 a0 im)) := by
  unfold f_J0_length_8abf5
  refine x_aload_n (q := 0) rfl rfl dJ0_length_8abf5_0 ?_
  refine x_gval h0 fl_J0_9 dJ0_length_8abf5_1 ?_
  refine x_blen h0 dJ0_length_8abf5_4 ?_
  refine x_aload_n (q := 0) rfl rfl dJ0_length_8abf5_5 ?_
  refine x_callTR (av := []) (st := [.int (nI (xLEN.getD a0 0))]) (m_J0_coder_7d493 h0  im) h0 rfl rfl (by decide) (by decide) lk_J0_335 cd_J0_coder_7d493 xd_J0_coder_7d493 rfl (Nat.le_of_ble_eq_true rfl) dJ0_length_8abf5_6 ?_
  refine x_ishr dJ0_length_8abf5_9 ?_
  exact x_iret rfl rfl dJ0_length_8abf5_10
theorem m_J0_length_8abf5 {g : GX} {a0 : Nat} (h0 : a0 < 19)  (im : IM) : xMet g 1 yJ0_length_8abf5 cJ0_length_8abf5 1 (some .int) [.ref (g.2.2.2.1.1 a0)] im ((eR im) (f_J0_length_8abf5 a0 im)) := x_met (by decide) (Nat.le_of_ble_eq_true rfl) rfl (s_J0_length_8abf5 h0 im) _ rfl
abbrev md_J0_isLatin1_aae02 : xM := (0, 1, RJ0, cJ0_isLatin1_aae02, (some .boolean))
def f_J0_isLatin1_aae02 (a0 : Nat) (im : IM) : Int32 :=
  1
set_option maxRecDepth 20000 in
set_option maxHeartbeats 4000000 in
theorem s_J0_isLatin1_aae02 {g : GX} {a0 : Nat} (h0 : a0 < 19)  (im : IM) : X g md_J0_isLatin1_aae02 (eR im) 0 [(0, .ref (g.2.2.2.1.1 a0))] [] im (some (f_J0_isLatin1_aae02 a0 im)) := by
  unfold f_J0_isLatin1_aae02
  refine x_getCS fl_J0_38 dJ0_isLatin1_aae02_0 ?_
  refine x_lit_f (c := (1 : Int32) = 0) (by decide) ?_
  refine x_if_eq (o1 := none) (tgt := 17) dJ0_isLatin1_aae02_3 (by decide) x_none ?_
  refine x_aload_n (q := 0) rfl rfl dJ0_isLatin1_aae02_6 ?_
  refine x_gcod h0 fl_J0_15 dJ0_isLatin1_aae02_7 ?_
  refine x_lit_t (c := (0 : Int32) = 0) (by decide) ?_
  refine x_if_ne (o1 := none) (tgt := 17) dJ0_isLatin1_aae02_10 (by decide) x_none ?_
  refine x_iconst (v := (1)) (by decide) dJ0_isLatin1_aae02_13 ?_
  refine x_goto (tgt := 18) dJ0_isLatin1_aae02_14 (by decide) ?_
  exact x_nret (y := 1) rfl rfl (by decide) dJ0_isLatin1_aae02_18
theorem m_J0_isLatin1_aae02 {g : GX} {a0 : Nat} (h0 : a0 < 19)  (im : IM) : xMet g 0 yJ0_isLatin1_aae02 cJ0_isLatin1_aae02 1 (some .boolean) [.ref (g.2.2.2.1.1 a0)] im ((eR im) (f_J0_isLatin1_aae02 a0 im)) := x_met (by decide) (Nat.le_of_ble_eq_true rfl) rfl (s_J0_isLatin1_aae02 h0 im) _ rfl
abbrev md_J3_checkIndex_8e157 : xM := (0, 3, RJ3, cJ3_checkIndex_8e157, (some .int))
def f_J3_checkIndex_8e157_j1 (a0 : Int32) (a1 : Int32)    : Option (Int32) :=
  none
set_option maxRecDepth 20000 in
set_option maxHeartbeats 4000000 in
theorem s_J3_checkIndex_8e157_j1 {g : GX} (a0 : Int32) (a1 : Int32)   (im : IM)    : X g md_J3_checkIndex_8e157 (eR im) 9 [(0, .int a0), (1, .int a1), (2, (va_rf g.2.2.2.2.2))] [] im (f_J3_checkIndex_8e157_j1 a0 a1) := by
  exact x_none
def f_J3_checkIndex_8e157 (a0 : Int32) (a1 : Int32)  : Option (Int32) :=
  if a0 < 0 then
    f_J3_checkIndex_8e157_j1 a0 a1
  else
    if a0 < a1 then
      some a0
    else
      f_J3_checkIndex_8e157_j1 a0 a1
set_option maxRecDepth 20000 in
set_option maxHeartbeats 4000000 in
theorem s_J3_checkIndex_8e157 {g : GX}   (a0 : Int32) (a1 : Int32) (im : IM) : X g md_J3_checkIndex_8e157 (eR im) 0 [(0, .int a0), (1, .int a1), (2, (va_rf g.2.2.2.2.2))] [] im (f_J3_checkIndex_8e157 a0 a1) := by
  unfold f_J3_checkIndex_8e157
  refine x_iload_n (q := 0) rfl rfl dJ3_checkIndex_8e157_0 ?_
  refine x_if_lt (tgt := 9) dJ3_checkIndex_8e157_1 (by decide) ?_ ?_
  · refine x_sub [0, 1, 2] rfl ?_
    exact s_J3_checkIndex_8e157_j1 a0 a1 im
  · refine x_iload_n (q := 0) rfl rfl dJ3_checkIndex_8e157_4 ?_
    refine x_iload_n (q := 1) rfl rfl dJ3_checkIndex_8e157_5 ?_
    refine x_icmp_lt (tgt := 16) dJ3_checkIndex_8e157_6 (by decide) ?_ ?_
    · refine x_iload_n (q := 0) rfl rfl dJ3_checkIndex_8e157_16 ?_
      exact x_iret rfl rfl dJ3_checkIndex_8e157_17
    · refine x_sub [0, 1, 2] rfl ?_
      exact s_J3_checkIndex_8e157_j1 a0 a1 im
theorem m_J3_checkIndex_8e157 {g : GX}   (a0 : Int32) (a1 : Int32) (im : IM) (r : Int32) (hr : f_J3_checkIndex_8e157 a0 a1 = some r) : xMet g 0 yJ3_checkIndex_8e157 cJ3_checkIndex_8e157 3 (some .int) [.int a0, .int a1, (va_rf g.2.2.2.2.2)] im ((eR im) r) := x_met (by decide) (lg3 _) rfl (s_J3_checkIndex_8e157 a0 a1 im) r hr
abbrev md_J0_checkIndex_df160 : xM := (1, 2, RJ0, cJ0_checkIndex_df160, none)
def f_J0_checkIndex_df160 (a0 : Int32) (a1 : Int32)  : Option (Unit) :=
  (f_J3_checkIndex_8e157 a0 a1).bind fun r1 =>
  some (())
set_option maxRecDepth 20000 in
set_option maxHeartbeats 4000000 in
theorem s_J0_checkIndex_df160 {g : GX}   (a0 : Int32) (a1 : Int32) (im : IM) : X g md_J0_checkIndex_df160 (eN im) 0 [(0, .int a0), (1, .int a1)] [] im (f_J0_checkIndex_df160 a0 a1) := by
  unfold f_J0_checkIndex_df160
  refine x_iload_n (q := 0) rfl rfl dJ0_checkIndex_df160_0 ?_
  refine x_iload_n (q := 1) rfl rfl dJ0_checkIndex_df160_1 ?_
  refine x_getFV fl_J0_1053 dJ0_checkIndex_df160_2 ?_
  refine x_bind (fun r1 er1 => ?_)
  refine x_callSR (av := [.int a0, .int a1, (va_rf g.2.2.2.2.2)]) (st := []) (m_J3_checkIndex_8e157  a0 a1 im r1 er1) rfl (by decide) (by decide) lk_J0_1059 cd_J3_checkIndex_8e157 xd_J3_checkIndex_8e157 rfl (Nat.le_of_ble_eq_true rfl) dJ0_checkIndex_df160_5 ?_
  refine x_pop rfl dJ0_checkIndex_df160_8 ?_
  exact x_vret rfl rfl dJ0_checkIndex_df160_9
theorem m_J0_checkIndex_df160 {g : GX}   (a0 : Int32) (a1 : Int32) (im : IM) (r : Unit) (hr : f_J0_checkIndex_df160 a0 a1 = some r) : xMet g 1 yJ0_checkIndex_df160 cJ0_checkIndex_df160 2 none [.int a0, .int a1] im ((eN im) r) := x_met (by decide) (Nat.le_of_ble_eq_true rfl) rfl (s_J0_checkIndex_df160 a0 a1 im) r hr
abbrev md_J1_charAt_3b067 : xM := (2, 2, RJ1, cJ1_charAt_3b067, (some .char))
def f_J1_charAt_3b067 (a0 : Nat) (a1 : Int32)  : Option (Int32) :=
  (f_J0_checkIndex_df160 a1 (nI (xLEN.getD a0 0))).bind fun r1 =>
  if inb a1 (xLEN.getD a0 0) = true then
    some (zc (((((xBYT.getD a0 []).getD (ix a1) 0) &&& 255).toUInt32 % 65536).toInt32))
  else none
set_option maxRecDepth 20000 in
set_option maxHeartbeats 4000000 in
theorem s_J1_charAt_3b067 {g : GX} {a0 : Nat} (h0 : a0 < 19)   (a1 : Int32) (im : IM) : X g md_J1_charAt_3b067 (eR im) 0 [(0, .ref (g.2.2.2.1.2 a0)), (1, .int a1)] [] im (f_J1_charAt_3b067 a0 a1) := by
  unfold f_J1_charAt_3b067
  refine x_iload_n (q := 1) rfl rfl dJ1_charAt_3b067_0 ?_
  refine x_aload_n (q := 0) rfl rfl dJ1_charAt_3b067_1 ?_
  refine x_blen h0 dJ1_charAt_3b067_2 ?_
  refine x_bind (fun r1 er1 => ?_)
  refine x_callSN (av := [.int a1, .int (nI (xLEN.getD a0 0))]) (st := []) (m_J0_checkIndex_df160  a1 ((nI (xLEN.getD a0 0))) im r1 er1) rfl (by decide) (by decide) lk_J1_9 cd_J0_checkIndex_df160 xd_J0_checkIndex_df160 rfl (Nat.le_of_ble_eq_true rfl) dJ1_charAt_3b067_3 ?_
  refine x_aload_n (q := 0) rfl rfl dJ1_charAt_3b067_6 ?_
  refine x_iload_n (q := 1) rfl rfl dJ1_charAt_3b067_7 ?_
  refine x_bald h0 dJ1_charAt_3b067_8 ?_
  refine x_sipush (v := (255)) (by decide) dJ1_charAt_3b067_9 ?_
  refine x_iand dJ1_charAt_3b067_12 ?_
  refine x_i2c dJ1_charAt_3b067_13 ?_
  exact x_nret (y := zc (((((xBYT.getD a0 []).getD (ix a1) 0) &&& 255).toUInt32 % 65536).toInt32)) rfl rfl rfl dJ1_charAt_3b067_14
theorem m_J1_charAt_3b067 {g : GX} {a0 : Nat} (h0 : a0 < 19)   (a1 : Int32) (im : IM) (r : Int32) (hr : f_J1_charAt_3b067 a0 a1 = some r) : xMet g 2 yJ1_charAt_3b067 cJ1_charAt_3b067 2 (some .char) [.ref (g.2.2.2.1.2 a0), .int a1] im ((eR im) r) := x_met (by decide) (Nat.le_of_ble_eq_true rfl) rfl (s_J1_charAt_3b067 h0 a1 im) r hr
abbrev md_J0_charAt_5068e : xM := (3, 2, RJ0, cJ0_charAt_5068e, (some .char))
def f_J0_charAt_5068e (a0 : Nat) (a1 : Int32) (im : IM) : Option (Int32) :=
  if (f_J0_isLatin1_aae02 a0 im) = 0 then
    none
  else
    (f_J1_charAt_3b067 a0 a1).bind fun r1 =>
    some (zc r1)
set_option maxRecDepth 20000 in
set_option maxHeartbeats 4000000 in
theorem s_J0_charAt_5068e {g : GX} {a0 : Nat} (h0 : a0 < 19)   (a1 : Int32) (im : IM) : X g md_J0_charAt_5068e (eR im) 0 [(0, .ref (g.2.2.2.1.1 a0)), (1, .int a1)] [] im (f_J0_charAt_5068e a0 a1 im) := by
  unfold f_J0_charAt_5068e
  refine x_aload_n (q := 0) rfl rfl dJ0_charAt_5068e_0 ?_
  refine x_callTR (av := []) (st := []) (m_J0_isLatin1_aae02 h0  im) h0 rfl rfl (by decide) (by decide) lk_J0_492 cd_J0_isLatin1_aae02 xd_J0_isLatin1_aae02 rfl (Nat.le_of_ble_eq_true rfl) dJ0_charAt_5068e_1 ?_
  refine x_if_eq (tgt := 16) dJ0_charAt_5068e_4 (by decide) ?_ ?_
  · refine x_aload_n (q := 0) rfl rfl dJ0_charAt_5068e_16 ?_
    refine x_gval h0 fl_J0_9 dJ0_charAt_5068e_17 ?_
    refine x_iload_n (q := 1) rfl rfl dJ0_charAt_5068e_20 ?_
    exact x_none
  · refine x_aload_n (q := 0) rfl rfl dJ0_charAt_5068e_7 ?_
    refine x_gval h0 fl_J0_9 dJ0_charAt_5068e_8 ?_
    refine x_iload_n (q := 1) rfl rfl dJ0_charAt_5068e_11 ?_
    refine x_bind (fun r1 er1 => ?_)
    refine x_callSR (av := [.ref (g.2.2.2.1.2 a0), .int a1]) (st := []) (m_J1_charAt_3b067 h0 a1 im r1 er1) rfl (by decide) (by decide) lk_J0_495 cd_J1_charAt_3b067 xd_J1_charAt_3b067 rfl (Nat.le_of_ble_eq_true rfl) dJ0_charAt_5068e_12 ?_
    exact x_nret (y := zc r1) rfl rfl rfl dJ0_charAt_5068e_15
theorem m_J0_charAt_5068e {g : GX} {a0 : Nat} (h0 : a0 < 19)   (a1 : Int32) (im : IM) (r : Int32) (hr : f_J0_charAt_5068e a0 a1 im = some r) : xMet g 3 yJ0_charAt_5068e cJ0_charAt_5068e 2 (some .char) [.ref (g.2.2.2.1.1 a0), .int a1] im ((eR im) r) := x_met (by decide) (Nat.le_of_ble_eq_true rfl) rfl (s_J0_charAt_5068e h0 a1 im) r hr
abbrev md_J6_bitCount_0f7a4 : xM := (0, 1, RJ6, cJ6_bitCount_0f7a4, (some .int))
def f_J6_bitCount_0f7a4 (a0 : Int32)  : Int32 :=
  bnd (a0 - ((jush a0 1) &&& 1431655765)) fun v1 =>
  bnd ((v1 &&& 858993459) + ((jush v1 2) &&& 858993459)) fun v2 =>
  bnd ((v2 + (jush v2 4)) &&& 252645135) fun v3 =>
  bnd (v3 + (jush v3 8)) fun v4 =>
  bnd (v4 + (jush v4 16)) fun v5 =>
  (v5 &&& 63)
set_option maxRecDepth 20000 in
set_option maxHeartbeats 4000000 in
theorem s_J6_bitCount_0f7a4 {g : GX}  (a0 : Int32) (im : IM) : X g md_J6_bitCount_0f7a4 (eR im) 0 [(0, .int a0)] [] im (some (f_J6_bitCount_0f7a4 a0)) := by
  unfold f_J6_bitCount_0f7a4
  refine x_iload_n (q := 0) rfl rfl dJ6_bitCount_0f7a4_0 ?_
  refine x_iload_n (q := 0) rfl rfl dJ6_bitCount_0f7a4_1 ?_
  refine x_iconst (v := (1)) (by decide) dJ6_bitCount_0f7a4_2 ?_
  refine x_iushr dJ6_bitCount_0f7a4_3 ?_
  refine x_ldcw co_J6_265 dJ6_bitCount_0f7a4_4 ?_
  refine x_iand dJ6_bitCount_0f7a4_7 ?_
  refine x_isub dJ6_bitCount_0f7a4_8 ?_
  refine x_bs (x_bi (fun v1 => ?_))
  refine x_istore_n (lv' := [(0, .int v1)]) rfl dJ6_bitCount_0f7a4_9 (by decide) rfl ?_
  refine x_iload_n (q := 0) rfl rfl dJ6_bitCount_0f7a4_10 ?_
  refine x_ldcw co_J6_266 dJ6_bitCount_0f7a4_11 ?_
  refine x_iand dJ6_bitCount_0f7a4_14 ?_
  refine x_iload_n (q := 0) rfl rfl dJ6_bitCount_0f7a4_15 ?_
  refine x_iconst (v := (2)) (by decide) dJ6_bitCount_0f7a4_16 ?_
  refine x_iushr dJ6_bitCount_0f7a4_17 ?_
  refine x_ldcw co_J6_266 dJ6_bitCount_0f7a4_18 ?_
  refine x_iand dJ6_bitCount_0f7a4_21 ?_
  refine x_iadd dJ6_bitCount_0f7a4_22 ?_
  refine x_bs (x_bi (fun v2 => ?_))
  refine x_istore_n (lv' := [(0, .int v2)]) rfl dJ6_bitCount_0f7a4_23 (by decide) rfl ?_
  refine x_iload_n (q := 0) rfl rfl dJ6_bitCount_0f7a4_24 ?_
  refine x_iload_n (q := 0) rfl rfl dJ6_bitCount_0f7a4_25 ?_
  refine x_iconst (v := (4)) (by decide) dJ6_bitCount_0f7a4_26 ?_
  refine x_iushr dJ6_bitCount_0f7a4_27 ?_
  refine x_iadd dJ6_bitCount_0f7a4_28 ?_
  refine x_ldcw co_J6_267 dJ6_bitCount_0f7a4_29 ?_
  refine x_iand dJ6_bitCount_0f7a4_32 ?_
  refine x_bs (x_bi (fun v3 => ?_))
  refine x_istore_n (lv' := [(0, .int v3)]) rfl dJ6_bitCount_0f7a4_33 (by decide) rfl ?_
  refine x_iload_n (q := 0) rfl rfl dJ6_bitCount_0f7a4_34 ?_
  refine x_iload_n (q := 0) rfl rfl dJ6_bitCount_0f7a4_35 ?_
  refine x_bipush (v := (8)) (by decide) dJ6_bitCount_0f7a4_36 ?_
  refine x_iushr dJ6_bitCount_0f7a4_38 ?_
  refine x_iadd dJ6_bitCount_0f7a4_39 ?_
  refine x_bs (x_bi (fun v4 => ?_))
  refine x_istore_n (lv' := [(0, .int v4)]) rfl dJ6_bitCount_0f7a4_40 (by decide) rfl ?_
  refine x_iload_n (q := 0) rfl rfl dJ6_bitCount_0f7a4_41 ?_
  refine x_iload_n (q := 0) rfl rfl dJ6_bitCount_0f7a4_42 ?_
  refine x_bipush (v := (16)) (by decide) dJ6_bitCount_0f7a4_43 ?_
  refine x_iushr dJ6_bitCount_0f7a4_45 ?_
  refine x_iadd dJ6_bitCount_0f7a4_46 ?_
  refine x_bs (x_bi (fun v5 => ?_))
  refine x_istore_n (lv' := [(0, .int v5)]) rfl dJ6_bitCount_0f7a4_47 (by decide) rfl ?_
  refine x_iload_n (q := 0) rfl rfl dJ6_bitCount_0f7a4_48 ?_
  refine x_bipush (v := (63)) (by decide) dJ6_bitCount_0f7a4_49 ?_
  refine x_iand dJ6_bitCount_0f7a4_51 ?_
  exact x_iret rfl rfl dJ6_bitCount_0f7a4_52
theorem m_J6_bitCount_0f7a4 {g : GX}  (a0 : Int32) (im : IM) : xMet g 0 yJ6_bitCount_0f7a4 cJ6_bitCount_0f7a4 1 (some .int) [.int a0] im ((eR im) (f_J6_bitCount_0f7a4 a0)) := x_met (by decide) (Nat.le_of_ble_eq_true rfl) rfl (s_J6_bitCount_0f7a4 a0 im) _ rfl
abbrev md_X6_has : xM := (0, 2, RX6, cX6_has, (some .boolean))
def f_X6_has (a0 : Int32) (a1 : Int32)  : Int32 :=
  if ((jshr a0 a1) &&& 1) = 0 then
    0
  else
    1
set_option maxRecDepth 20000 in
set_option maxHeartbeats 4000000 in
theorem s_X6_has {g : GX}   (a0 : Int32) (a1 : Int32) (im : IM) : X g md_X6_has (eR im) 0 [(0, .int a0), (1, .int a1)] [] im (some (f_X6_has a0 a1)) := by
  refine x_iload_n (q := 0) rfl rfl dX6_has_0 ?_
  refine x_iload_n (q := 1) rfl rfl dX6_has_1 ?_
  refine x_ishr dX6_has_2 ?_
  refine x_iconst (v := (1)) (by decide) dX6_has_3 ?_
  refine x_iand dX6_has_4 ?_
  refine x_cs ?_
  refine x_if_eq (tgt := 12) dX6_has_5 (by decide) ?_ ?_
  · refine x_iconst (v := (0)) (by decide) dX6_has_12 ?_
    exact x_nret (y := 0) rfl rfl (by decide) dX6_has_13
  · refine x_iconst (v := (1)) (by decide) dX6_has_8 ?_
    refine x_goto (tgt := 13) dX6_has_9 (by decide) ?_
    exact x_nret (y := 1) rfl rfl (by decide) dX6_has_13
theorem m_X6_has {g : GX}   (a0 : Int32) (a1 : Int32) (im : IM) : xMet g 0 yX6_has cX6_has 2 (some .boolean) [.int a0, .int a1] im ((eR im) (f_X6_has a0 a1)) := x_met (by decide) (Nat.le_of_ble_eq_true rfl) rfl (s_X6_has a0 a1 im) _ rfl
abbrev md_X6_within : xM := (0, 3, RX6, cX6_within, (some .boolean))
def f_X6_within_j1 (a0 : Int32) (a1 : Int32) (a2 : Int32)    : Int32 :=
  0
set_option maxRecDepth 20000 in
set_option maxHeartbeats 4000000 in
theorem s_X6_within_j1 {g : GX} (a0 : Int32) (a1 : Int32) (a2 : Int32)   (im : IM)    : X g md_X6_within (eR im) 14 [] [] im (some (f_X6_within_j1 a0 a1 a2)) := by
  refine x_iconst (v := (0)) (by decide) dX6_within_14 ?_
  exact x_nret (y := 0) rfl rfl (by decide) dX6_within_15
def f_X6_within (a0 : Int32) (a1 : Int32) (a2 : Int32)  : Int32 :=
  if a0 < a1 then
    f_X6_within_j1 a0 a1 a2
  else
    if a2 < a0 then
      f_X6_within_j1 a0 a1 a2
    else
      1
set_option maxRecDepth 20000 in
set_option maxHeartbeats 4000000 in
theorem s_X6_within {g : GX}    (a0 : Int32) (a1 : Int32) (a2 : Int32) (im : IM) : X g md_X6_within (eR im) 0 [(0, .int a0), (1, .int a1), (2, .int a2)] [] im (some (f_X6_within a0 a1 a2)) := by
  refine x_iload_n (q := 0) rfl rfl dX6_within_0 ?_
  refine x_iload_n (q := 1) rfl rfl dX6_within_1 ?_
  refine x_cs ?_
  refine x_icmp_lt (tgt := 14) dX6_within_2 (by decide) ?_ ?_
  · refine x_sub [] rfl ?_
    exact s_X6_within_j1 a0 a1 a2 im
  · refine x_iload_n (q := 0) rfl rfl dX6_within_5 ?_
    refine x_iload_n (q := 2) rfl rfl dX6_within_6 ?_
    refine x_cs ?_
    refine x_icmp_gt (tgt := 14) dX6_within_7 (by decide) ?_ ?_
    · refine x_sub [] rfl ?_
      exact s_X6_within_j1 a0 a1 a2 im
    · refine x_iconst (v := (1)) (by decide) dX6_within_10 ?_
      refine x_goto (tgt := 15) dX6_within_11 (by decide) ?_
      exact x_nret (y := 1) rfl rfl (by decide) dX6_within_15
theorem m_X6_within {g : GX}    (a0 : Int32) (a1 : Int32) (a2 : Int32) (im : IM) : xMet g 0 yX6_within cX6_within 3 (some .boolean) [.int a0, .int a1, .int a2] im ((eR im) (f_X6_within a0 a1 a2)) := x_met (by decide) (Nat.le_of_ble_eq_true rfl) rfl (s_X6_within a0 a1 a2 im) _ rfl
abbrev md_X6_isCell : xM := (1, 1, RX6, cX6_isCell, (some .boolean))
def f_X6_isCell (a0 : Int32)  : Int32 :=
  (zb (f_X6_within a0 0 30))
set_option maxRecDepth 20000 in
set_option maxHeartbeats 4000000 in
theorem s_X6_isCell {g : GX}  (a0 : Int32) (im : IM) : X g md_X6_isCell (eR im) 0 [(0, .int a0)] [] im (some (f_X6_isCell a0)) := by
  refine x_iload_n (q := 0) rfl rfl dX6_isCell_0 ?_
  refine x_iconst (v := (0)) (by decide) dX6_isCell_1 ?_
  refine x_bipush (v := (30)) (by decide) dX6_isCell_2 ?_
  refine x_callSR (av := [.int a0, .int 0, .int 30]) (st := []) (m_X6_within  a0 0 30 im) rfl (by decide) (by decide) lk_X6_79 cd_X6_within xd_X6_within rfl (Nat.le_of_ble_eq_true rfl) dX6_isCell_4 ?_
  exact x_nret (y := zb (f_X6_within a0 0 30)) rfl rfl rfl dX6_isCell_7
theorem m_X6_isCell {g : GX}  (a0 : Int32) (im : IM) : xMet g 1 yX6_isCell cX6_isCell 1 (some .boolean) [.int a0] im ((eR im) (f_X6_isCell a0)) := x_met (by decide) (Nat.le_of_ble_eq_true rfl) rfl (s_X6_isCell a0 im) _ rfl
abbrev md_X6_isFall : xM := (1, 1, RX6, cX6_isFall, (some .boolean))
def f_X6_isFall (a0 : Int32)  : Int32 :=
  (zb (f_X6_within a0 ((-9)) 9))
set_option maxRecDepth 20000 in
set_option maxHeartbeats 4000000 in
theorem s_X6_isFall {g : GX}  (a0 : Int32) (im : IM) : X g md_X6_isFall (eR im) 0 [(0, .int a0)] [] im (some (f_X6_isFall a0)) := by
  refine x_iload_n (q := 0) rfl rfl dX6_isFall_0 ?_
  refine x_bipush (v := (-9)) (by decide) dX6_isFall_1 ?_
  refine x_bipush (v := (9)) (by decide) dX6_isFall_3 ?_
  refine x_callSR (av := [.int a0, .int ((-9)), .int 9]) (st := []) (m_X6_within  a0 (((-9))) 9 im) rfl (by decide) (by decide) lk_X6_79 cd_X6_within xd_X6_within rfl (Nat.le_of_ble_eq_true rfl) dX6_isFall_5 ?_
  exact x_nret (y := zb (f_X6_within a0 ((-9)) 9)) rfl rfl rfl dX6_isFall_8
theorem m_X6_isFall {g : GX}  (a0 : Int32) (im : IM) : xMet g 1 yX6_isFall cX6_isFall 1 (some .boolean) [.int a0] im ((eR im) (f_X6_isFall a0)) := x_met (by decide) (Nat.le_of_ble_eq_true rfl) rfl (s_X6_isFall a0 im) _ rfl
abbrev md_X6_isMinuteOfHour : xM := (1, 1, RX6, cX6_isMinuteOfHour, (some .boolean))
def f_X6_isMinuteOfHour (a0 : Int32)  : Int32 :=
  (zb (f_X6_within a0 0 59))
set_option maxRecDepth 20000 in
set_option maxHeartbeats 4000000 in
theorem s_X6_isMinuteOfHour {g : GX}  (a0 : Int32) (im : IM) : X g md_X6_isMinuteOfHour (eR im) 0 [(0, .int a0)] [] im (some (f_X6_isMinuteOfHour a0)) := by
  refine x_iload_n (q := 0) rfl rfl dX6_isMinuteOfHour_0 ?_
  refine x_iconst (v := (0)) (by decide) dX6_isMinuteOfHour_1 ?_
  refine x_bipush (v := (59)) (by decide) dX6_isMinuteOfHour_2 ?_
  refine x_callSR (av := [.int a0, .int 0, .int 59]) (st := []) (m_X6_within  a0 0 59 im) rfl (by decide) (by decide) lk_X6_79 cd_X6_within xd_X6_within rfl (Nat.le_of_ble_eq_true rfl) dX6_isMinuteOfHour_4 ?_
  exact x_nret (y := zb (f_X6_within a0 0 59)) rfl rfl rfl dX6_isMinuteOfHour_7
theorem m_X6_isMinuteOfHour {g : GX}  (a0 : Int32) (im : IM) : xMet g 1 yX6_isMinuteOfHour cX6_isMinuteOfHour 1 (some .boolean) [.int a0] im ((eR im) (f_X6_isMinuteOfHour a0)) := x_met (by decide) (Nat.le_of_ble_eq_true rfl) rfl (s_X6_isMinuteOfHour a0 im) _ rfl
abbrev md_X6_isKind : xM := (1, 1, RX6, cX6_isKind, (some .boolean))
def f_X6_isKind (a0 : Int32)  : Int32 :=
  (zb (f_X6_within a0 0 6))
set_option maxRecDepth 20000 in
set_option maxHeartbeats 4000000 in
theorem s_X6_isKind {g : GX}  (a0 : Int32) (im : IM) : X g md_X6_isKind (eR im) 0 [(0, .int a0)] [] im (some (f_X6_isKind a0)) := by
  refine x_iload_n (q := 0) rfl rfl dX6_isKind_0 ?_
  refine x_iconst (v := (0)) (by decide) dX6_isKind_1 ?_
  refine x_bipush (v := (6)) (by decide) dX6_isKind_2 ?_
  refine x_callSR (av := [.int a0, .int 0, .int 6]) (st := []) (m_X6_within  a0 0 6 im) rfl (by decide) (by decide) lk_X6_79 cd_X6_within xd_X6_within rfl (Nat.le_of_ble_eq_true rfl) dX6_isKind_4 ?_
  exact x_nret (y := zb (f_X6_within a0 0 6)) rfl rfl rfl dX6_isKind_7
theorem m_X6_isKind {g : GX}  (a0 : Int32) (im : IM) : xMet g 1 yX6_isKind cX6_isKind 1 (some .boolean) [.int a0] im ((eR im) (f_X6_isKind a0)) := x_met (by decide) (Nat.le_of_ble_eq_true rfl) rfl (s_X6_isKind a0 im) _ rfl
abbrev md_X6_isWeight : xM := (1, 1, RX6, cX6_isWeight, (some .boolean))
def f_X6_isWeight (a0 : Int32)  : Int32 :=
  (zb (f_X6_within a0 1 99))
set_option maxRecDepth 20000 in
set_option maxHeartbeats 4000000 in
theorem s_X6_isWeight {g : GX}  (a0 : Int32) (im : IM) : X g md_X6_isWeight (eR im) 0 [(0, .int a0)] [] im (some (f_X6_isWeight a0)) := by
  refine x_iload_n (q := 0) rfl rfl dX6_isWeight_0 ?_
  refine x_iconst (v := (1)) (by decide) dX6_isWeight_1 ?_
  refine x_bipush (v := (99)) (by decide) dX6_isWeight_2 ?_
  refine x_callSR (av := [.int a0, .int 1, .int 99]) (st := []) (m_X6_within  a0 1 99 im) rfl (by decide) (by decide) lk_X6_79 cd_X6_within xd_X6_within rfl (Nat.le_of_ble_eq_true rfl) dX6_isWeight_4 ?_
  exact x_nret (y := zb (f_X6_within a0 1 99)) rfl rfl rfl dX6_isWeight_7
theorem m_X6_isWeight {g : GX}  (a0 : Int32) (im : IM) : xMet g 1 yX6_isWeight cX6_isWeight 1 (some .boolean) [.int a0] im ((eR im) (f_X6_isWeight a0)) := x_met (by decide) (Nat.le_of_ble_eq_true rfl) rfl (s_X6_isWeight a0 im) _ rfl
abbrev md_X6_isRolls : xM := (1, 1, RX6, cX6_isRolls, (some .boolean))
def f_X6_isRolls (a0 : Int32)  : Int32 :=
  (zb (f_X6_within a0 1 9))
set_option maxRecDepth 20000 in
set_option maxHeartbeats 4000000 in
theorem s_X6_isRolls {g : GX}  (a0 : Int32) (im : IM) : X g md_X6_isRolls (eR im) 0 [(0, .int a0)] [] im (some (f_X6_isRolls a0)) := by
  refine x_iload_n (q := 0) rfl rfl dX6_isRolls_0 ?_
  refine x_iconst (v := (1)) (by decide) dX6_isRolls_1 ?_
  refine x_bipush (v := (9)) (by decide) dX6_isRolls_2 ?_
  refine x_callSR (av := [.int a0, .int 1, .int 9]) (st := []) (m_X6_within  a0 1 9 im) rfl (by decide) (by decide) lk_X6_79 cd_X6_within xd_X6_within rfl (Nat.le_of_ble_eq_true rfl) dX6_isRolls_4 ?_
  exact x_nret (y := zb (f_X6_within a0 1 9)) rfl rfl rfl dX6_isRolls_7
theorem m_X6_isRolls {g : GX}  (a0 : Int32) (im : IM) : xMet g 1 yX6_isRolls cX6_isRolls 1 (some .boolean) [.int a0] im ((eR im) (f_X6_isRolls a0)) := x_met (by decide) (Nat.le_of_ble_eq_true rfl) rfl (s_X6_isRolls a0 im) _ rfl
abbrev md_X6_isLean : xM := (1, 1, RX6, cX6_isLean, (some .boolean))
def f_X6_isLean (a0 : Int32)  : Int32 :=
  (zb (f_X6_within a0 0 9))
set_option maxRecDepth 20000 in
set_option maxHeartbeats 4000000 in
theorem s_X6_isLean {g : GX}  (a0 : Int32) (im : IM) : X g md_X6_isLean (eR im) 0 [(0, .int a0)] [] im (some (f_X6_isLean a0)) := by
  refine x_iload_n (q := 0) rfl rfl dX6_isLean_0 ?_
  refine x_iconst (v := (0)) (by decide) dX6_isLean_1 ?_
  refine x_bipush (v := (9)) (by decide) dX6_isLean_2 ?_
  refine x_callSR (av := [.int a0, .int 0, .int 9]) (st := []) (m_X6_within  a0 0 9 im) rfl (by decide) (by decide) lk_X6_79 cd_X6_within xd_X6_within rfl (Nat.le_of_ble_eq_true rfl) dX6_isLean_4 ?_
  exact x_nret (y := zb (f_X6_within a0 0 9)) rfl rfl rfl dX6_isLean_7
theorem m_X6_isLean {g : GX}  (a0 : Int32) (im : IM) : xMet g 1 yX6_isLean cX6_isLean 1 (some .boolean) [.int a0] im ((eR im) (f_X6_isLean a0)) := x_met (by decide) (Nat.le_of_ble_eq_true rfl) rfl (s_X6_isLean a0 im) _ rfl
abbrev md_X6_isSheet : xM := (1, 1, RX6, cX6_isSheet, (some .boolean))
def f_X6_isSheet (a0 : Int32)  : Int32 :=
  (zb (f_X6_within a0 0 3))
set_option maxRecDepth 20000 in
set_option maxHeartbeats 4000000 in
theorem s_X6_isSheet {g : GX}  (a0 : Int32) (im : IM) : X g md_X6_isSheet (eR im) 0 [(0, .int a0)] [] im (some (f_X6_isSheet a0)) := by
  refine x_iload_n (q := 0) rfl rfl dX6_isSheet_0 ?_
  refine x_iconst (v := (0)) (by decide) dX6_isSheet_1 ?_
  refine x_iconst (v := (3)) (by decide) dX6_isSheet_2 ?_
  refine x_callSR (av := [.int a0, .int 0, .int 3]) (st := []) (m_X6_within  a0 0 3 im) rfl (by decide) (by decide) lk_X6_79 cd_X6_within xd_X6_within rfl (Nat.le_of_ble_eq_true rfl) dX6_isSheet_3 ?_
  exact x_nret (y := zb (f_X6_within a0 0 3)) rfl rfl rfl dX6_isSheet_6
theorem m_X6_isSheet {g : GX}  (a0 : Int32) (im : IM) : xMet g 1 yX6_isSheet cX6_isSheet 1 (some .boolean) [.int a0] im ((eR im) (f_X6_isSheet a0)) := x_met (by decide) (Nat.le_of_ble_eq_true rfl) rfl (s_X6_isSheet a0 im) _ rfl
