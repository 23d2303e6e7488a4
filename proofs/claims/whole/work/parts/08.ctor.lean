theorem xTo_t {a : Nat} (h : xTo a) (i : Nat) (hi : i < 10) : xSH (a + 5 + i) = (4, 8) := by
  have := xTh0 i hi
  rcases h with rfl | rfl | rfl | rfl
  · exact this.1
  · exact this.2.1
  · exact this.2.2.1
  · exact this.2.2.2
theorem xTo_le {a : Nat} (h : xTo a) : a + 15 ≤ 61 := by
  unfold xTo at h
  omega
theorem df_0 (n : Nat) : ∀ g : GX, ∀ j, j < 1 → defaultValue (tyX0 j) = yFld g (fun _ _ => 0) (fun _ _ => none) n 0 j := by
  intro g j hj
  have hk : j = 0 := by omega
  rcases hk with rfl <;> rfl
theorem df_1 (n : Nat) : ∀ g : GX, ∀ j, j < 11 → defaultValue (tyX1 j) = yFld g (fun _ _ => 0) (fun _ _ => none) n 1 j := by
  intro g j hj
  have hk : j = 0 ∨ j = 1 ∨ j = 2 ∨ j = 3 ∨ j = 4 ∨ j = 5 ∨ j = 6 ∨ j = 7 ∨ j = 8 ∨ j = 9 ∨ j = 10 := by omega
  rcases hk with rfl | rfl | rfl | rfl | rfl | rfl | rfl | rfl | rfl | rfl | rfl <;> rfl
theorem df_2 (n : Nat) : ∀ g : GX, ∀ j, j < 4 → defaultValue (tyX2 j) = yFld g (fun _ _ => 0) (fun _ _ => none) n 2 j := by
  intro g j hj
  have hk : j = 0 ∨ j = 1 ∨ j = 2 ∨ j = 3 := by omega
  rcases hk with rfl | rfl | rfl | rfl <;> rfl
theorem df_3 (n : Nat) : ∀ g : GX, ∀ j, j < 3 → defaultValue (tyX3 j) = yFld g (fun _ _ => 0) (fun _ _ => none) n 3 j := by
  intro g j hj
  have hk : j = 0 ∨ j = 1 ∨ j = 2 := by omega
  rcases hk with rfl | rfl | rfl <;> rfl
theorem df_4 (n : Nat) : ∀ g : GX, ∀ j, j < 8 → defaultValue (tyX4 j) = yFld g (fun _ _ => 0) (fun _ _ => none) n 4 j := by
  intro g j hj
  have hk : j = 0 ∨ j = 1 ∨ j = 2 ∨ j = 3 ∨ j = 4 ∨ j = 5 ∨ j = 6 ∨ j = 7 := by omega
  rcases hk with rfl | rfl | rfl | rfl | rfl | rfl | rfl | rfl <;> rfl
theorem df_5 (n : Nat) : ∀ g : GX, ∀ j, j < 9 → defaultValue (tyX5 j) = yFld g (fun _ _ => 0) (fun _ _ => none) n 5 j := by
  intro g j hj
  have hk : j = 0 ∨ j = 1 ∨ j = 2 ∨ j = 3 ∨ j = 4 ∨ j = 5 ∨ j = 6 ∨ j = 7 ∨ j = 8 := by omega
  rcases hk with rfl | rfl | rfl | rfl | rfl | rfl | rfl | rfl | rfl <;> rfl
theorem df_6 (n : Nat) : ∀ g : GX, ∀ j, j < 11 → defaultValue (tyX6 j) = yFld g (fun _ _ => 0) (fun _ _ => none) n 6 j := by
  intro g j hj
  have hk : j = 0 ∨ j = 1 ∨ j = 2 ∨ j = 3 ∨ j = 4 ∨ j = 5 ∨ j = 6 ∨ j = 7 ∨ j = 8 ∨ j = 9 ∨ j = 10 := by omega
  rcases hk with rfl | rfl | rfl | rfl | rfl | rfl | rfl | rfl | rfl | rfl | rfl <;> rfl
theorem df_7 (n : Nat) : ∀ g : GX, ∀ j, j < 27 → defaultValue (tyX7 j) = yFld g (fun _ _ => 0) (fun _ _ => none) n 7 j := by
  intro g j hj
  have hk : j = 0 ∨ j = 1 ∨ j = 2 ∨ j = 3 ∨ j = 4 ∨ j = 5 ∨ j = 6 ∨ j = 7 ∨ j = 8 ∨ j = 9 ∨ j = 10 ∨ j = 11 ∨ j = 12 ∨ j = 13 ∨ j = 14 ∨ j = 15 ∨ j = 16 ∨ j = 17 ∨ j = 18 ∨ j = 19 ∨ j = 20 ∨ j = 21 ∨ j = 22 ∨ j = 23 ∨ j = 24 ∨ j = 25 ∨ j = 26 := by omega
  rcases hk with rfl | rfl | rfl | rfl | rfl | rfl | rfl | rfl | rfl | rfl | rfl | rfl | rfl | rfl | rfl | rfl | rfl | rfl | rfl | rfl | rfl | rfl | rfl | rfl | rfl | rfl | rfl <;> rfl
theorem im_objinit : Cond.instanceMethod Lib.objectInit ∈ xT := xT_in (in_tbl (List.mem_of_getElem? (i := 22) (by decide +kernel))) (by decide +kernel)
theorem cd_objinit : Cond.code Lib.objectInit ⟨#[0xb1]⟩ 1 none ∈ xT := xT_in (in_tbl (List.mem_of_getElem? (i := 23) (by decide +kernel))) (by decide +kernel)
theorem ol_X4_3 : Cond.methodLink RX4 3 Lib.objectInit ∈ xT ∧ Cond.instanceMethod Lib.objectInit ∈ xT ∧ Cond.code Lib.objectInit ⟨#[0xb1]⟩ 1 none ∈ xT := ⟨xT_in (in_tbl (List.mem_of_getElem? (i := 36) (by decide +kernel))) (by decide +kernel), im_objinit, cd_objinit⟩
theorem ol_X3_3 : Cond.methodLink RX3 3 Lib.objectInit ∈ xT ∧ Cond.instanceMethod Lib.objectInit ∈ xT ∧ Cond.code Lib.objectInit ⟨#[0xb1]⟩ 1 none ∈ xT := ⟨xT_in (in_tbl (List.mem_of_getElem? (i := 210) (by decide +kernel))) (by decide +kernel), im_objinit, cd_objinit⟩
theorem ol_X0_5 : Cond.methodLink RX0 5 Lib.objectInit ∈ xT ∧ Cond.instanceMethod Lib.objectInit ∈ xT ∧ Cond.code Lib.objectInit ⟨#[0xb1]⟩ 1 none ∈ xT := ⟨xT_in (in_tbl (List.mem_of_getElem? (i := 158) (by decide +kernel))) (by decide +kernel), im_objinit, cd_objinit⟩
theorem ol_X1_3 : Cond.methodLink RX1 3 Lib.objectInit ∈ xT ∧ Cond.instanceMethod Lib.objectInit ∈ xT ∧ Cond.code Lib.objectInit ⟨#[0xb1]⟩ 1 none ∈ xT := ⟨xT_in (in_tbl (List.mem_of_getElem? (i := 168) (by decide +kernel))) (by decide +kernel), im_objinit, cd_objinit⟩
theorem ol_X2_3 : Cond.methodLink RX2 3 Lib.objectInit ∈ xT ∧ Cond.instanceMethod Lib.objectInit ∈ xT ∧ Cond.code Lib.objectInit ⟨#[0xb1]⟩ 1 none ∈ xT := ⟨xT_in (in_tbl (List.mem_of_getElem? (i := 134) (by decide +kernel))) (by decide +kernel), im_objinit, cd_objinit⟩
theorem kl_X2_9 : Cond.classLink RX2 9 RX4 ∈ xT := xT_in (in_tbl (List.mem_of_getElem? (i := 135) (by decide +kernel))) (by decide +kernel)
theorem is_X4 : Cond.instantiable RX4 8 ∈ xT := xT_in (in_tbl (List.mem_of_getElem? (i := 32) (by decide +kernel))) (by decide +kernel)
theorem nl_X2_9 : Cond.classLink RX2 9 RX4 ∈ xT ∧ Cond.instantiable RX4 8 ∈ xT ∧ Cond.initialized RX4 ∈ xT := ⟨kl_X2_9, is_X4, ini_RollTown_Thing⟩
theorem im3_X4_init : Cond.instanceMethod yX4_init ∈ xT := xT_in (in_tbl (List.mem_of_getElem? (i := 34) (by decide +kernel))) (by decide +kernel)
theorem yl_X2_11 : yLink RX2 11 yX4_init := ⟨Or.inr ⟨"RollTown", xT_in (in_tbl (List.mem_of_getElem? (i := 136) (by decide +kernel))) (by decide +kernel)⟩, im3_X4_init, ini_RollTown_Thing⟩
theorem cd3_X4_init : Cond.code yX4_init cX4_init 1 none ∈ xT := xT_in (in_tbl (List.mem_of_getElem? (i := 35) (by decide +kernel))) (by decide +kernel)
theorem xd3_X4_init : xD yX4_init 0 := by decide +kernel
theorem ol_X5_3 : Cond.methodLink RX5 3 Lib.objectInit ∈ xT ∧ Cond.instanceMethod Lib.objectInit ∈ xT ∧ Cond.code Lib.objectInit ⟨#[0xb1]⟩ 1 none ∈ xT := ⟨xT_in (in_tbl (List.mem_of_getElem? (i := 29) (by decide +kernel))) (by decide +kernel), im_objinit, cd_objinit⟩
theorem kl_X5_18 : Cond.classLink RX5 18 RX4 ∈ xT := xT_in (in_tbl (List.mem_of_getElem? (i := 30) (by decide +kernel))) (by decide +kernel)
theorem nl_X5_18 : Cond.classLink RX5 18 RX4 ∈ xT ∧ Cond.instantiable RX4 8 ∈ xT ∧ Cond.initialized RX4 ∈ xT := ⟨kl_X5_18, is_X4, ini_RollTown_Thing⟩
theorem yl_X5_43 : yLink RX5 43 yX4_init := ⟨Or.inr ⟨"RollTown", xT_in (in_tbl (List.mem_of_getElem? (i := 33) (by decide +kernel))) (by decide +kernel)⟩, im3_X4_init, ini_RollTown_Thing⟩
theorem ol_X7_1 : Cond.methodLink RX7 1 Lib.objectInit ∈ xT ∧ Cond.instanceMethod Lib.objectInit ∈ xT ∧ Cond.code Lib.objectInit ⟨#[0xb1]⟩ 1 none ∈ xT := ⟨xT_in (in_tbl (List.mem_of_getElem? (i := 923) (by decide +kernel))) (by decide +kernel), im_objinit, cd_objinit⟩
theorem ol_X6_3 : Cond.methodLink RX6 3 Lib.objectInit ∈ xT ∧ Cond.instanceMethod Lib.objectInit ∈ xT ∧ Cond.code Lib.objectInit ⟨#[0xb1]⟩ 1 none ∈ xT := ⟨xT_in (in_tbl (List.mem_of_getElem? (i := 21) (by decide +kernel))) (by decide +kernel), im_objinit, cd_objinit⟩
theorem kl_X6_9 : Cond.classLink RX6 9 RX5 ∈ xT := xT_in (in_tbl (List.mem_of_getElem? (i := 24) (by decide +kernel))) (by decide +kernel)
theorem is_X5 : Cond.instantiable RX5 9 ∈ xT := xT_in (in_tbl (List.mem_of_getElem? (i := 25) (by decide +kernel))) (by decide +kernel)
theorem nl_X6_9 : Cond.classLink RX6 9 RX5 ∈ xT ∧ Cond.instantiable RX5 9 ∈ xT ∧ Cond.initialized RX5 ∈ xT := ⟨kl_X6_9, is_X5, ini_RollTown_Town⟩
theorem im3_X5_init : Cond.instanceMethod yX5_init ∈ xT := xT_in (in_tbl (List.mem_of_getElem? (i := 27) (by decide +kernel))) (by decide +kernel)
theorem yl_X6_11 : yLink RX6 11 yX5_init := ⟨Or.inl (xT_in (in_tbl (List.mem_of_getElem? (i := 26) (by decide +kernel))) (by decide +kernel)), im3_X5_init, ini_RollTown_Town⟩
theorem cd3_X5_init : Cond.code yX5_init cX5_init 2 none ∈ xT := xT_in (in_tbl (List.mem_of_getElem? (i := 28) (by decide +kernel))) (by decide +kernel)
theorem xd3_X5_init : xD yX5_init 0 := by decide +kernel
theorem kl_X6_29 : Cond.classLink RX6 29 RX2 ∈ xT := xT_in (in_tbl (List.mem_of_getElem? (i := 129) (by decide +kernel))) (by decide +kernel)
theorem is_X2 : Cond.instantiable RX2 4 ∈ xT := xT_in (in_tbl (List.mem_of_getElem? (i := 130) (by decide +kernel))) (by decide +kernel)
theorem nl_X6_29 : Cond.classLink RX6 29 RX2 ∈ xT ∧ Cond.instantiable RX2 4 ∈ xT ∧ Cond.initialized RX2 ∈ xT := ⟨kl_X6_29, is_X2, ini_RollTown_Roll⟩
theorem im3_X2_init : Cond.instanceMethod yX2_init ∈ xT := xT_in (in_tbl (List.mem_of_getElem? (i := 132) (by decide +kernel))) (by decide +kernel)
theorem yl_X6_31 : yLink RX6 31 yX2_init := ⟨Or.inr ⟨"RollTown", xT_in (in_tbl (List.mem_of_getElem? (i := 131) (by decide +kernel))) (by decide +kernel)⟩, im3_X2_init, ini_RollTown_Roll⟩
theorem cd3_X2_init : Cond.code yX2_init cX2_init 1 none ∈ xT := xT_in (in_tbl (List.mem_of_getElem? (i := 133) (by decide +kernel))) (by decide +kernel)
theorem xd3_X2_init : xD yX2_init 0 := by decide +kernel
theorem kl_X6_36 : Cond.classLink RX6 36 RX0 ∈ xT := xT_in (in_tbl (List.mem_of_getElem? (i := 153) (by decide +kernel))) (by decide +kernel)
theorem is_X0 : Cond.instantiable RX0 1 ∈ xT := xT_in (in_tbl (List.mem_of_getElem? (i := 154) (by decide +kernel))) (by decide +kernel)
theorem nl_X6_36 : Cond.classLink RX6 36 RX0 ∈ xT ∧ Cond.instantiable RX0 1 ∈ xT ∧ Cond.initialized RX0 ∈ xT := ⟨kl_X6_36, is_X0, ini_RollTown_Packing⟩
theorem im3_X0_init : Cond.instanceMethod yX0_init ∈ xT := xT_in (in_tbl (List.mem_of_getElem? (i := 156) (by decide +kernel))) (by decide +kernel)
theorem yl_X6_38 : yLink RX6 38 yX0_init := ⟨Or.inr ⟨"RollTown", xT_in (in_tbl (List.mem_of_getElem? (i := 155) (by decide +kernel))) (by decide +kernel)⟩, im3_X0_init, ini_RollTown_Packing⟩
theorem cd3_X0_init : Cond.code yX0_init cX0_init 1 none ∈ xT := xT_in (in_tbl (List.mem_of_getElem? (i := 157) (by decide +kernel))) (by decide +kernel)
theorem xd3_X0_init : xD yX0_init 0 := by decide +kernel
theorem kl_X6_47 : Cond.classLink RX6 47 RX1 ∈ xT := xT_in (in_tbl (List.mem_of_getElem? (i := 163) (by decide +kernel))) (by decide +kernel)
theorem is_X1 : Cond.instantiable RX1 11 ∈ xT := xT_in (in_tbl (List.mem_of_getElem? (i := 164) (by decide +kernel))) (by decide +kernel)
theorem nl_X6_47 : Cond.classLink RX6 47 RX1 ∈ xT ∧ Cond.instantiable RX1 11 ∈ xT ∧ Cond.initialized RX1 ∈ xT := ⟨kl_X6_47, is_X1, ini_RollTown_Reader⟩
theorem im3_X1_init : Cond.instanceMethod yX1_init ∈ xT := xT_in (in_tbl (List.mem_of_getElem? (i := 166) (by decide +kernel))) (by decide +kernel)
theorem yl_X6_49 : yLink RX6 49 yX1_init := ⟨Or.inr ⟨"RollTown", xT_in (in_tbl (List.mem_of_getElem? (i := 165) (by decide +kernel))) (by decide +kernel)⟩, im3_X1_init, ini_RollTown_Reader⟩
theorem cd3_X1_init : Cond.code yX1_init cX1_init 1 none ∈ xT := xT_in (in_tbl (List.mem_of_getElem? (i := 167) (by decide +kernel))) (by decide +kernel)
theorem xd3_X1_init : xD yX1_init 0 := by decide +kernel
theorem kl_X6_54 : Cond.classLink RX6 54 RX3 ∈ xT := xT_in (in_tbl (List.mem_of_getElem? (i := 204) (by decide +kernel))) (by decide +kernel)
theorem is_X3 : Cond.instantiable RX3 3 ∈ xT := xT_in (in_tbl (List.mem_of_getElem? (i := 206) (by decide +kernel))) (by decide +kernel)
theorem nl_X6_54 : Cond.classLink RX6 54 RX3 ∈ xT ∧ Cond.instantiable RX3 3 ∈ xT ∧ Cond.initialized RX3 ∈ xT := ⟨kl_X6_54, is_X3, ini_RollTown_Sheet⟩
theorem im3_X3_init : Cond.instanceMethod yX3_init ∈ xT := xT_in (in_tbl (List.mem_of_getElem? (i := 208) (by decide +kernel))) (by decide +kernel)
theorem yl_X6_63 : yLink RX6 63 yX3_init := ⟨Or.inr ⟨"RollTown", xT_in (in_tbl (List.mem_of_getElem? (i := 207) (by decide +kernel))) (by decide +kernel)⟩, im3_X3_init, ini_RollTown_Sheet⟩
theorem cd3_X3_init : Cond.code yX3_init cX3_init 1 none ∈ xT := xT_in (in_tbl (List.mem_of_getElem? (i := 209) (by decide +kernel))) (by decide +kernel)
theorem xd3_X3_init : xD yX3_init 0 := by decide +kernel
theorem y_X4_init {g : GX} {a n : Nat} (im : IM) (rm : RM) : yMet g 1 yX4_init cX4_init 1 0 0 a (n, im, rm) (n, im, rm) := by
  refine y_met (by decide) rfl (by decide) ?_
  refine y_aload_n (q := 0) rfl rfl dX4_init_0 ?_
  refine y_obj ol_X4_3 (by decide) (Nat.le_of_ble_eq_true rfl) dX4_init_1 ?_
  exact y_ret rfl (by decide) (by decide) dX4_init_4
def cI_X3 (a : Nat) (im : IM) : IM := up (up (upA (im) (a + 1) (fun _ => 0)) a 1 0) a 2 0
def cR_X3 (a : Nat) (rm : RM) : RM := upr (upR (rm) (a + 1) (fun _ => none)) a 0 (some (a + 1))
set_option maxRecDepth 100000 in
set_option maxHeartbeats 40000000 in
theorem y_X3_init {g : GX} {a : Nat} (h0 : xSs a) (im : IM) (rm : RM) : yMet g 1 yX3_init cX3_init 1 1 40 a (a + 1, im, rm) (a + 2, cI_X3 a im, cR_X3 a rm) := by
  refine y_met (by decide) rfl (by decide) ?_
  refine y_aload_n (q := 0) rfl rfl dX3_init_0 ?_
  refine y_obj ol_X3_3 (by decide) (Nat.le_of_ble_eq_true rfl) dX3_init_1 ?_
  refine y_aload_n (q := 0) rfl rfl dX3_init_4 ?_
  refine y_bipush (v := (40)) (by decide) dX3_init_5 ?_
  refine y_newI (xSs_1 h0) (by decide) (by decide) (by decide) (by decide) (by decide) dX3_init_7 ?_
  refine y_putR (C := RX3) (T := TX3) (ty := .array .int) tyX3 tyX3_ok nmX3 (xSs_o h0) (by omega) (by decide) rfl in_X3 0 (by decide) (by decide) fl_X3_9 rfl (by decide +kernel) (fun _ => rfl) (fun _ => rfl) dX3_init_9 ?_
  refine y_aload_n (q := 0) rfl rfl dX3_init_12 ?_
  refine y_iconst (v := (0)) (by decide) dX3_init_13 ?_
  refine y_putI (C := RX3) (T := TX3) (ty := .int) tyX3 tyX3_ok nmX3 (xSs_o h0) (by omega) (by decide) rfl in_X3 1 (by decide) (by decide) fl_X3_15 rfl (by decide +kernel) rfl rfl dX3_init_14 ?_
  refine y_aload_n (q := 0) rfl rfl dX3_init_17 ?_
  refine y_iconst (v := (0)) (by decide) dX3_init_18 ?_
  refine y_putI (C := RX3) (T := TX3) (ty := .int) tyX3 tyX3_ok nmX3 (xSs_o h0) (by omega) (by decide) rfl in_X3 2 (by decide) (by decide) fl_X3_19 rfl (by decide +kernel) rfl rfl dX3_init_19 ?_
  exact y_ret rfl (by decide) (by decide) dX3_init_22
def cI_X0 (im : IM) : IM := upA (im) 64 (fun _ => 0)
def cR_X0 (rm : RM) : RM := upr (upR (rm) 64 (fun _ => none)) 63 0 (some 64)
set_option maxRecDepth 100000 in
set_option maxHeartbeats 40000000 in
theorem y_X0_init {g : GX} (im : IM) (rm : RM) : yMet g 1 yX0_init cX0_init 1 1 1024 63 (64, im, rm) (65, cI_X0 im, cR_X0 rm) := by
  refine y_met (by decide) rfl (by decide) ?_
  refine y_aload_n (q := 0) rfl rfl dX0_init_0 ?_
  refine y_obj ol_X0_5 (by decide) (Nat.le_of_ble_eq_true rfl) dX0_init_1 ?_
  refine y_aload_n (q := 0) rfl rfl dX0_init_4 ?_
  refine y_sipush (v := (1024)) (by decide) dX0_init_5 ?_
  refine y_newI sh_64 (by decide) (by decide) (by decide) (by decide) (by decide) dX0_init_8 ?_
  refine y_putR (C := RX0) (T := TX0) (ty := .array .int) tyX0 tyX0_ok nmX0 sh_63 (by omega) (by decide) rfl in_X0 0 (by decide) (by decide) fl_X0_11 rfl (by decide +kernel) (fun _ => rfl) (fun _ => rfl) dX0_init_10 ?_
  exact y_ret rfl (by decide) (by decide) dX0_init_13
def cI_X1 (im : IM) : IM := up (up (up (up (up (upA (upA (upA (upA (up (upA (im) 67 (fun _ => 0)) 66 1 0) 68 (fun _ => 0)) 69 (fun _ => 0)) 70 (fun _ => 0)) 71 (fun _ => 0)) 66 6 0) 66 7 0) 66 8 0) 66 9 0) 66 10 0
def cR_X1 (rm : RM) : RM := upr (upR (upr (upR (upr (upR (upr (upR (upr (upR (rm) 67 (fun _ => none)) 66 0 (some 67)) 68 (fun _ => none)) 66 2 (some 68)) 69 (fun _ => none)) 66 3 (some 69)) 70 (fun _ => none)) 66 4 (some 70)) 71 (fun _ => none)) 66 5 (some 71)
set_option maxRecDepth 100000 in
set_option maxHeartbeats 40000000 in
theorem y_X1_init {g : GX} (im : IM) (rm : RM) : yMet g 1 yX1_init cX1_init 1 5 604 66 (67, im, rm) (72, cI_X1 im, cR_X1 rm) := by
  refine y_met (by decide) rfl (by decide) ?_
  refine y_aload_n (q := 0) rfl rfl dX1_init_0 ?_
  refine y_obj ol_X1_3 (by decide) (Nat.le_of_ble_eq_true rfl) dX1_init_1 ?_
  refine y_aload_n (q := 0) rfl rfl dX1_init_4 ?_
  refine y_bipush (v := (120)) (by decide) dX1_init_5 ?_
  refine y_newI sh_67 (by decide) (by decide) (by decide) (by decide) (by decide) dX1_init_7 ?_
  refine y_putR (C := RX1) (T := TX1) (ty := .array .int) tyX1 tyX1_ok nmX1 sh_66 (by omega) (by decide) rfl in_X1 0 (by decide) (by decide) fl_X1_9 rfl (by decide +kernel) (fun _ => rfl) (fun _ => rfl) dX1_init_9 ?_
  refine y_aload_n (q := 0) rfl rfl dX1_init_12 ?_
  refine y_iconst (v := (0)) (by decide) dX1_init_13 ?_
  refine y_putI (C := RX1) (T := TX1) (ty := .int) tyX1 tyX1_ok nmX1 sh_66 (by omega) (by decide) rfl in_X1 1 (by decide) (by decide) fl_X1_15 rfl (by decide +kernel) rfl rfl dX1_init_14 ?_
  refine y_aload_n (q := 0) rfl rfl dX1_init_17 ?_
  refine y_bipush (v := (121)) (by decide) dX1_init_18 ?_
  refine y_newI sh_68 (by decide) (by decide) (by decide) (by decide) (by decide) dX1_init_20 ?_
  refine y_putR (C := RX1) (T := TX1) (ty := .array .int) tyX1 tyX1_ok nmX1 sh_66 (by omega) (by decide) rfl in_X1 2 (by decide) (by decide) fl_X1_19 rfl (by decide +kernel) (fun _ => rfl) (fun _ => rfl) dX1_init_22 ?_
  refine y_aload_n (q := 0) rfl rfl dX1_init_25 ?_
  refine y_bipush (v := (121)) (by decide) dX1_init_26 ?_
  refine y_newI sh_69 (by decide) (by decide) (by decide) (by decide) (by decide) dX1_init_28 ?_
  refine y_putR (C := RX1) (T := TX1) (ty := .array .int) tyX1 tyX1_ok nmX1 sh_66 (by omega) (by decide) rfl in_X1 3 (by decide) (by decide) fl_X1_22 rfl (by decide +kernel) (fun _ => rfl) (fun _ => rfl) dX1_init_30 ?_
  refine y_aload_n (q := 0) rfl rfl dX1_init_33 ?_
  refine y_bipush (v := (121)) (by decide) dX1_init_34 ?_
  refine y_newI sh_70 (by decide) (by decide) (by decide) (by decide) (by decide) dX1_init_36 ?_
  refine y_putR (C := RX1) (T := TX1) (ty := .array .int) tyX1 tyX1_ok nmX1 sh_66 (by omega) (by decide) rfl in_X1 4 (by decide) (by decide) fl_X1_25 rfl (by decide +kernel) (fun _ => rfl) (fun _ => rfl) dX1_init_38 ?_
  refine y_aload_n (q := 0) rfl rfl dX1_init_41 ?_
  refine y_bipush (v := (121)) (by decide) dX1_init_42 ?_
  refine y_newI sh_71 (by decide) (by decide) (by decide) (by decide) (by decide) dX1_init_44 ?_
  refine y_putR (C := RX1) (T := TX1) (ty := .array .int) tyX1 tyX1_ok nmX1 sh_66 (by omega) (by decide) rfl in_X1 5 (by decide) (by decide) fl_X1_28 rfl (by decide +kernel) (fun _ => rfl) (fun _ => rfl) dX1_init_46 ?_
  refine y_aload_n (q := 0) rfl rfl dX1_init_49 ?_
  refine y_iconst (v := (0)) (by decide) dX1_init_50 ?_
  refine y_putI (C := RX1) (T := TX1) (ty := .int) tyX1 tyX1_ok nmX1 sh_66 (by omega) (by decide) rfl in_X1 6 (by decide) (by decide) fl_X1_31 rfl (by decide +kernel) rfl rfl dX1_init_51 ?_
  refine y_aload_n (q := 0) rfl rfl dX1_init_54 ?_
  refine y_iconst (v := (0)) (by decide) dX1_init_55 ?_
  refine y_putI (C := RX1) (T := TX1) (ty := .int) tyX1 tyX1_ok nmX1 sh_66 (by omega) (by decide) rfl in_X1 7 (by decide) (by decide) fl_X1_34 rfl (by decide +kernel) rfl rfl dX1_init_56 ?_
  refine y_aload_n (q := 0) rfl rfl dX1_init_59 ?_
  refine y_iconst (v := (0)) (by decide) dX1_init_60 ?_
  refine y_putI (C := RX1) (T := TX1) (ty := .int) tyX1 tyX1_ok nmX1 sh_66 (by omega) (by decide) rfl in_X1 8 (by decide) (by decide) fl_X1_37 rfl (by decide +kernel) rfl rfl dX1_init_61 ?_
  refine y_aload_n (q := 0) rfl rfl dX1_init_64 ?_
  refine y_iconst (v := (0)) (by decide) dX1_init_65 ?_
  refine y_putI (C := RX1) (T := TX1) (ty := .int) tyX1 tyX1_ok nmX1 sh_66 (by omega) (by decide) rfl in_X1 9 (by decide) (by decide) fl_X1_40 rfl (by decide +kernel) rfl rfl dX1_init_66 ?_
  refine y_aload_n (q := 0) rfl rfl dX1_init_69 ?_
  refine y_iconst (v := (0)) (by decide) dX1_init_70 ?_
  refine y_putI (C := RX1) (T := TX1) (ty := .int) tyX1 tyX1_ok nmX1 sh_66 (by omega) (by decide) rfl in_X1 10 (by decide) (by decide) fl_X1_43 rfl (by decide +kernel) rfl rfl dX1_init_71 ?_
  exact y_ret rfl (by decide) (by decide) dX1_init_74
def cI_X2 (im : IM) : IM := up (up (up (upA (im) 62 (fun _ => 0)) 61 1 0) 61 2 0) 61 3 0
def cR_X2 (rm : RM) : RM := upr (upR (rm) 62 (fun _ => none)) 61 0 (some 62)
set_option maxRecDepth 100000 in
set_option maxHeartbeats 40000000 in
theorem y_X2_init {g : GX} (im : IM) (rm : RM) : yMet g 2 yX2_init cX2_init 1 1 8 61 (62, im, rm) (63, cI_X2 im, cR_X2 rm) := by
  refine y_met (by decide) rfl (by decide) ?_
  refine y_aload_n (q := 0) rfl rfl dX2_init_0 ?_
  refine y_obj ol_X2_3 (by decide) (Nat.le_of_ble_eq_true rfl) dX2_init_1 ?_
  refine y_aload_n (q := 0) rfl rfl dX2_init_4 ?_
  refine y_new (C := RX4) (T := TX4) tyX4 tyX4_ok sh_62 (by decide) rfl in_X4 nl_X2_9 (df_4 _) (by decide) (by decide) dX2_init_5 ?_
  refine y_dup rfl dX2_init_8 ?_
  refine y_call (a := 62) (y_X4_init _ _) (Nat.le_of_ble_eq_true rfl) rfl (by decide) (by decide) yl_X2_11 cd3_X4_init xd3_X4_init (Nat.le_of_ble_eq_true rfl) (by decide) (by decide) dX2_init_9 ?_
  refine y_putR (C := RX2) (T := TX2) (ty := .object "RollTown$Thing") tyX2 tyX2_ok nmX2 sh_61 (by omega) (by decide) rfl in_X2 0 (by decide) (by decide) fl_X2_12 rfl (by decide +kernel) (fun _ => rfl) (fun _ => rfl) dX2_init_12 ?_
  refine y_aload_n (q := 0) rfl rfl dX2_init_15 ?_
  refine y_iconst (v := (0)) (by decide) dX2_init_16 ?_
  refine y_putI (C := RX2) (T := TX2) (ty := .int) tyX2 tyX2_ok nmX2 sh_61 (by omega) (by decide) rfl in_X2 1 (by decide) (by decide) fl_X2_18 rfl (by decide +kernel) rfl rfl dX2_init_17 ?_
  refine y_aload_n (q := 0) rfl rfl dX2_init_20 ?_
  refine y_iconst (v := (0)) (by decide) dX2_init_21 ?_
  refine y_putI (C := RX2) (T := TX2) (ty := .int) tyX2 tyX2_ok nmX2 sh_61 (by omega) (by decide) rfl in_X2 2 (by decide) (by decide) fl_X2_22 rfl (by decide +kernel) rfl rfl dX2_init_22 ?_
  refine y_aload_n (q := 0) rfl rfl dX2_init_25 ?_
  refine y_iconst (v := (0)) (by decide) dX2_init_26 ?_
  refine y_putI (C := RX2) (T := TX2) (ty := .int) tyX2 tyX2_ok nmX2 sh_61 (by omega) (by decide) rfl in_X2 3 (by decide) (by decide) fl_X2_25 rfl (by decide +kernel) rfl rfl dX2_init_27 ?_
  exact y_ret rfl (by decide) (by decide) dX2_init_30
def cI_X5 (a : Nat) (im : IM) : IM := up (up (up (up (up (up (up (up (up (up (upA (upA (upA (upA (upA (upA (upA (upA (upA (upA (up (up (up (up (up (up (up (up (up (up (up (up (up (up (up (up (up (up (up (up (up (up (up (up (up (up (up (up (up (up (up (up (up (up (up (up (upA (upA (upA (upA (im) (a + 1) (fun _ => 0)) (a + 2) (fun _ => 0)) (a + 3) (fun _ => 0)) (a + 4) (fun _ => 0)) a 4 0) a 5 0) a 6 14) a 7 0) a 8 1) (a + 1) 0 2) (a + 1) 1 2) (a + 1) 2 2) (a + 1) 3 2) (a + 1) 4 2) (a + 1) 5 2) (a + 1) 6 2) (a + 1) 7 2) (a + 1) 8 2) (a + 1) 9 2) (a + 1) 10 2) (a + 1) 11 2) (a + 1) 12 2) (a + 1) 13 2) (a + 1) 14 2) (a + 1) 15 2) (a + 1) 16 2) (a + 1) 17 2) (a + 1) 18 2) (a + 1) 19 2) (a + 1) 20 2) (a + 1) 21 2) (a + 1) 22 2) (a + 1) 23 2) (a + 1) 24 2) (a + 1) 25 2) (a + 1) 26 2) (a + 1) 27 2) (a + 1) 28 2) (a + 1) 29 2) (a + 1) 30 2) (a + 5) (fun _ => 0)) (a + 6) (fun _ => 0)) (a + 7) (fun _ => 0)) (a + 8) (fun _ => 0)) (a + 9) (fun _ => 0)) (a + 10) (fun _ => 0)) (a + 11) (fun _ => 0)) (a + 12) (fun _ => 0)) (a + 13) (fun _ => 0)) (a + 14) (fun _ => 0)) (a + 4) 0 (-1)) (a + 4) 1 (-1)) (a + 4) 2 (-1)) (a + 4) 3 (-1)) (a + 4) 4 (-1)) (a + 4) 5 (-1)) (a + 4) 6 (-1)) (a + 4) 7 (-1)) (a + 4) 8 (-1)) (a + 4) 9 (-1)
def cR_X5 (a : Nat) (rm : RM) : RM := upr (upR (upr (upR (upr (upR (upr (upR (upr (upR (upr (upR (upr (upR (upr (upR (upr (upR (upr (upR (upr (upR (upr (upR (upr (upR (upr (upR (rm) (a + 1) (fun _ => none)) a 0 (some (a + 1))) (a + 2) (fun _ => none)) a 1 (some (a + 2))) (a + 3) (fun _ => none)) a 2 (some (a + 3))) (a + 4) (fun _ => none)) a 3 (some (a + 4))) (a + 5) (fun _ => none)) (a + 3) 0 (some (a + 5))) (a + 6) (fun _ => none)) (a + 3) 1 (some (a + 6))) (a + 7) (fun _ => none)) (a + 3) 2 (some (a + 7))) (a + 8) (fun _ => none)) (a + 3) 3 (some (a + 8))) (a + 9) (fun _ => none)) (a + 3) 4 (some (a + 9))) (a + 10) (fun _ => none)) (a + 3) 5 (some (a + 10))) (a + 11) (fun _ => none)) (a + 3) 6 (some (a + 11))) (a + 12) (fun _ => none)) (a + 3) 7 (some (a + 12))) (a + 13) (fun _ => none)) (a + 3) 8 (some (a + 13))) (a + 14) (fun _ => none)) (a + 3) 9 (some (a + 14))
set_option maxRecDepth 100000 in
set_option maxHeartbeats 40000000 in
theorem y_X5_init {g : GX} {a : Nat} (h0 : xTo a) (im : IM) (rm : RM) : yMet g 2 yX5_init cX5_init 2 14 162 a (a + 1, im, rm) (a + 15, cI_X5 a im, cR_X5 a rm) := by
  refine y_met (by decide) rfl (by decide) ?_
  refine y_aload_n (q := 0) rfl rfl dX5_init_0 ?_
  refine y_obj ol_X5_3 (by decide) (Nat.le_of_ble_eq_true rfl) dX5_init_1 ?_
  refine y_aload_n (q := 0) rfl rfl dX5_init_4 ?_
  refine y_bipush (v := (31)) (by decide) dX5_init_5 ?_
  refine y_newI (xTo_1 h0) (by decide) (by decide) (by decide) (by decide) (by decide) dX5_init_7 ?_
  refine y_putR (C := RX5) (T := TX5) (ty := .array .int) tyX5 tyX5_ok nmX5 (xTo_o h0) (by omega) (by decide) rfl in_X5 0 (by decide) (by decide) fl_X5_9 rfl (by decide +kernel) (fun _ => rfl) (fun _ => rfl) dX5_init_9 ?_
  refine y_aload_n (q := 0) rfl rfl dX5_init_12 ?_
  refine y_bipush (v := (31)) (by decide) dX5_init_13 ?_
  refine y_newI (xTo_2 h0) (by decide) (by decide) (by decide) (by decide) (by decide) dX5_init_15 ?_
  refine y_putR (C := RX5) (T := TX5) (ty := .array .int) tyX5 tyX5_ok nmX5 (xTo_o h0) (by omega) (by decide) rfl in_X5 1 (by decide) (by decide) fl_X5_15 rfl (by decide +kernel) (fun _ => rfl) (fun _ => rfl) dX5_init_17 ?_
  refine y_aload_n (q := 0) rfl rfl dX5_init_20 ?_
  refine y_bipush (v := (10)) (by decide) dX5_init_21 ?_
  refine y_anew (q := 1) (C := RX4) (xTo_3 h0) (by first | exact Or.inl ⟨rfl, rfl⟩ | exact Or.inr ⟨rfl, rfl⟩) kl_X5_18 (by decide) (by decide) (by decide) (by decide) (by decide) dX5_init_23 ?_
  refine y_putR (C := RX5) (T := TX5) (ty := .array (.object "RollTown$Thing")) tyX5 tyX5_ok nmX5 (xTo_o h0) (by omega) (by decide) rfl in_X5 2 (by decide) (by decide) fl_X5_20 rfl (by decide +kernel) (fun _ => rfl) (fun _ => rfl) dX5_init_26 ?_
  refine y_aload_n (q := 0) rfl rfl dX5_init_29 ?_
  refine y_bipush (v := (10)) (by decide) dX5_init_30 ?_
  refine y_newI (xTo_4 h0) (by decide) (by decide) (by decide) (by decide) (by decide) dX5_init_32 ?_
  refine y_putR (C := RX5) (T := TX5) (ty := .array .int) tyX5 tyX5_ok nmX5 (xTo_o h0) (by omega) (by decide) rfl in_X5 3 (by decide) (by decide) fl_X5_24 rfl (by decide +kernel) (fun _ => rfl) (fun _ => rfl) dX5_init_34 ?_
  refine y_aload_n (q := 0) rfl rfl dX5_init_37 ?_
  refine y_iconst (v := (0)) (by decide) dX5_init_38 ?_
  refine y_putI (C := RX5) (T := TX5) (ty := .int) tyX5 tyX5_ok nmX5 (xTo_o h0) (by omega) (by decide) rfl in_X5 4 (by decide) (by decide) fl_X5_27 rfl (by decide +kernel) rfl rfl dX5_init_39 ?_
  refine y_aload_n (q := 0) rfl rfl dX5_init_42 ?_
  refine y_iconst (v := (0)) (by decide) dX5_init_43 ?_
  refine y_putI (C := RX5) (T := TX5) (ty := .int) tyX5 tyX5_ok nmX5 (xTo_o h0) (by omega) (by decide) rfl in_X5 5 (by decide) (by decide) fl_X5_31 rfl (by decide +kernel) rfl rfl dX5_init_44 ?_
  refine y_aload_n (q := 0) rfl rfl dX5_init_47 ?_
  refine y_bipush (v := (14)) (by decide) dX5_init_48 ?_
  refine y_putI (C := RX5) (T := TX5) (ty := .int) tyX5 tyX5_ok nmX5 (xTo_o h0) (by omega) (by decide) rfl in_X5 6 (by decide) (by decide) fl_X5_34 rfl (by decide +kernel) rfl rfl dX5_init_50 ?_
  refine y_aload_n (q := 0) rfl rfl dX5_init_53 ?_
  refine y_iconst (v := (0)) (by decide) dX5_init_54 ?_
  refine y_putI (C := RX5) (T := TX5) (ty := .int) tyX5 tyX5_ok nmX5 (xTo_o h0) (by omega) (by decide) rfl in_X5 7 (by decide) (by decide) fl_X5_37 rfl (by decide +kernel) rfl rfl dX5_init_55 ?_
  refine y_aload_n (q := 0) rfl rfl dX5_init_58 ?_
  refine y_iconst (v := (1)) (by decide) dX5_init_59 ?_
  refine y_putI (C := RX5) (T := TX5) (ty := .int) tyX5 tyX5_ok nmX5 (xTo_o h0) (by omega) (by decide) rfl in_X5 8 (by decide) (by decide) fl_X5_40 rfl (by decide +kernel) rfl rfl dX5_init_60 ?_
  refine y_iconst (v := (0)) (by decide) dX5_init_63 ?_
  refine y_istore_n (lv' := [(1, .int 0), (0, .ref (g.1 a))]) rfl dX5_init_64 (by decide) rfl ?_
  refine y_iload_n (q := 0) rfl rfl dX5_init_65 ?_
  refine y_bipush (v := (31)) (by decide) dX5_init_66 ?_
  refine y_geF (tgt := 84) dX5_init_68 (by decide) (by decide) ?_
  refine y_aload_n (q := 1) rfl rfl dX5_init_71 ?_
  refine y_getR (b := (a + 1)) (C := RX5) (T := TX5) (xTo_o h0) (by omega) (by decide) rfl in_X5 0 (by decide) (by decide) fl_X5_9 (by simp [upr, upR] <;> omega) dX5_init_72 ?_
  refine y_iload_n (q := 0) rfl rfl dX5_init_75 ?_
  refine y_iconst (v := (2)) (by decide) dX5_init_76 ?_
  refine y_iast (j := 0) (xTo_1 h0) (by omega) (by decide) (by decide) dX5_init_77 ?_
  refine y_iinc (q := 0) (v := 1) (lv' := [(1, .int 1), (0, .ref (g.1 a))]) dX5_init_78 rfl (by decide) (by decide) rfl ?_
  refine y_goto (tgt := 65) dX5_init_81 (by decide) ?_
  refine y_iload_n (q := 0) rfl rfl dX5_init_65 ?_
  refine y_bipush (v := (31)) (by decide) dX5_init_66 ?_
  refine y_geF (tgt := 84) dX5_init_68 (by decide) (by decide) ?_
  refine y_aload_n (q := 1) rfl rfl dX5_init_71 ?_
  refine y_getR (b := (a + 1)) (C := RX5) (T := TX5) (xTo_o h0) (by omega) (by decide) rfl in_X5 0 (by decide) (by decide) fl_X5_9 (by simp [upr, upR] <;> omega) dX5_init_72 ?_
  refine y_iload_n (q := 0) rfl rfl dX5_init_75 ?_
  refine y_iconst (v := (2)) (by decide) dX5_init_76 ?_
  refine y_iast (j := 1) (xTo_1 h0) (by omega) (by decide) (by decide) dX5_init_77 ?_
  refine y_iinc (q := 0) (v := 2) (lv' := [(1, .int 2), (0, .ref (g.1 a))]) dX5_init_78 rfl (by decide) (by decide) rfl ?_
  refine y_goto (tgt := 65) dX5_init_81 (by decide) ?_
  refine y_iload_n (q := 0) rfl rfl dX5_init_65 ?_
  refine y_bipush (v := (31)) (by decide) dX5_init_66 ?_
  refine y_geF (tgt := 84) dX5_init_68 (by decide) (by decide) ?_
  refine y_aload_n (q := 1) rfl rfl dX5_init_71 ?_
  refine y_getR (b := (a + 1)) (C := RX5) (T := TX5) (xTo_o h0) (by omega) (by decide) rfl in_X5 0 (by decide) (by decide) fl_X5_9 (by simp [upr, upR] <;> omega) dX5_init_72 ?_
  refine y_iload_n (q := 0) rfl rfl dX5_init_75 ?_
  refine y_iconst (v := (2)) (by decide) dX5_init_76 ?_
  refine y_iast (j := 2) (xTo_1 h0) (by omega) (by decide) (by decide) dX5_init_77 ?_
  refine y_iinc (q := 0) (v := 3) (lv' := [(1, .int 3), (0, .ref (g.1 a))]) dX5_init_78 rfl (by decide) (by decide) rfl ?_
  refine y_goto (tgt := 65) dX5_init_81 (by decide) ?_
  refine y_iload_n (q := 0) rfl rfl dX5_init_65 ?_
  refine y_bipush (v := (31)) (by decide) dX5_init_66 ?_
  refine y_geF (tgt := 84) dX5_init_68 (by decide) (by decide) ?_
  refine y_aload_n (q := 1) rfl rfl dX5_init_71 ?_
  refine y_getR (b := (a + 1)) (C := RX5) (T := TX5) (xTo_o h0) (by omega) (by decide) rfl in_X5 0 (by decide) (by decide) fl_X5_9 (by simp [upr, upR] <;> omega) dX5_init_72 ?_
  refine y_iload_n (q := 0) rfl rfl dX5_init_75 ?_
  refine y_iconst (v := (2)) (by decide) dX5_init_76 ?_
  refine y_iast (j := 3) (xTo_1 h0) (by omega) (by decide) (by decide) dX5_init_77 ?_
  refine y_iinc (q := 0) (v := 4) (lv' := [(1, .int 4), (0, .ref (g.1 a))]) dX5_init_78 rfl (by decide) (by decide) rfl ?_
  refine y_goto (tgt := 65) dX5_init_81 (by decide) ?_
  refine y_iload_n (q := 0) rfl rfl dX5_init_65 ?_
  refine y_bipush (v := (31)) (by decide) dX5_init_66 ?_
  refine y_geF (tgt := 84) dX5_init_68 (by decide) (by decide) ?_
  refine y_aload_n (q := 1) rfl rfl dX5_init_71 ?_
  refine y_getR (b := (a + 1)) (C := RX5) (T := TX5) (xTo_o h0) (by omega) (by decide) rfl in_X5 0 (by decide) (by decide) fl_X5_9 (by simp [upr, upR] <;> omega) dX5_init_72 ?_
  refine y_iload_n (q := 0) rfl rfl dX5_init_75 ?_
  refine y_iconst (v := (2)) (by decide) dX5_init_76 ?_
  refine y_iast (j := 4) (xTo_1 h0) (by omega) (by decide) (by decide) dX5_init_77 ?_
  refine y_iinc (q := 0) (v := 5) (lv' := [(1, .int 5), (0, .ref (g.1 a))]) dX5_init_78 rfl (by decide) (by decide) rfl ?_
  refine y_goto (tgt := 65) dX5_init_81 (by decide) ?_
  refine y_iload_n (q := 0) rfl rfl dX5_init_65 ?_
  refine y_bipush (v := (31)) (by decide) dX5_init_66 ?_
  refine y_geF (tgt := 84) dX5_init_68 (by decide) (by decide) ?_
  refine y_aload_n (q := 1) rfl rfl dX5_init_71 ?_
  refine y_getR (b := (a + 1)) (C := RX5) (T := TX5) (xTo_o h0) (by omega) (by decide) rfl in_X5 0 (by decide) (by decide) fl_X5_9 (by simp [upr, upR] <;> omega) dX5_init_72 ?_
  refine y_iload_n (q := 0) rfl rfl dX5_init_75 ?_
  refine y_iconst (v := (2)) (by decide) dX5_init_76 ?_
  refine y_iast (j := 5) (xTo_1 h0) (by omega) (by decide) (by decide) dX5_init_77 ?_
  refine y_iinc (q := 0) (v := 6) (lv' := [(1, .int 6), (0, .ref (g.1 a))]) dX5_init_78 rfl (by decide) (by decide) rfl ?_
  refine y_goto (tgt := 65) dX5_init_81 (by decide) ?_
  refine y_iload_n (q := 0) rfl rfl dX5_init_65 ?_
  refine y_bipush (v := (31)) (by decide) dX5_init_66 ?_
  refine y_geF (tgt := 84) dX5_init_68 (by decide) (by decide) ?_
  refine y_aload_n (q := 1) rfl rfl dX5_init_71 ?_
  refine y_getR (b := (a + 1)) (C := RX5) (T := TX5) (xTo_o h0) (by omega) (by decide) rfl in_X5 0 (by decide) (by decide) fl_X5_9 (by simp [upr, upR] <;> omega) dX5_init_72 ?_
  refine y_iload_n (q := 0) rfl rfl dX5_init_75 ?_
  refine y_iconst (v := (2)) (by decide) dX5_init_76 ?_
  refine y_iast (j := 6) (xTo_1 h0) (by omega) (by decide) (by decide) dX5_init_77 ?_
  refine y_iinc (q := 0) (v := 7) (lv' := [(1, .int 7), (0, .ref (g.1 a))]) dX5_init_78 rfl (by decide) (by decide) rfl ?_
  refine y_goto (tgt := 65) dX5_init_81 (by decide) ?_
  refine y_iload_n (q := 0) rfl rfl dX5_init_65 ?_
  refine y_bipush (v := (31)) (by decide) dX5_init_66 ?_
  refine y_geF (tgt := 84) dX5_init_68 (by decide) (by decide) ?_
  refine y_aload_n (q := 1) rfl rfl dX5_init_71 ?_
  refine y_getR (b := (a + 1)) (C := RX5) (T := TX5) (xTo_o h0) (by omega) (by decide) rfl in_X5 0 (by decide) (by decide) fl_X5_9 (by simp [upr, upR] <;> omega) dX5_init_72 ?_
  refine y_iload_n (q := 0) rfl rfl dX5_init_75 ?_
  refine y_iconst (v := (2)) (by decide) dX5_init_76 ?_
  refine y_iast (j := 7) (xTo_1 h0) (by omega) (by decide) (by decide) dX5_init_77 ?_
  refine y_iinc (q := 0) (v := 8) (lv' := [(1, .int 8), (0, .ref (g.1 a))]) dX5_init_78 rfl (by decide) (by decide) rfl ?_
  refine y_goto (tgt := 65) dX5_init_81 (by decide) ?_
  refine y_iload_n (q := 0) rfl rfl dX5_init_65 ?_
  refine y_bipush (v := (31)) (by decide) dX5_init_66 ?_
  refine y_geF (tgt := 84) dX5_init_68 (by decide) (by decide) ?_
  refine y_aload_n (q := 1) rfl rfl dX5_init_71 ?_
  refine y_getR (b := (a + 1)) (C := RX5) (T := TX5) (xTo_o h0) (by omega) (by decide) rfl in_X5 0 (by decide) (by decide) fl_X5_9 (by simp [upr, upR] <;> omega) dX5_init_72 ?_
  refine y_iload_n (q := 0) rfl rfl dX5_init_75 ?_
  refine y_iconst (v := (2)) (by decide) dX5_init_76 ?_
  refine y_iast (j := 8) (xTo_1 h0) (by omega) (by decide) (by decide) dX5_init_77 ?_
  refine y_iinc (q := 0) (v := 9) (lv' := [(1, .int 9), (0, .ref (g.1 a))]) dX5_init_78 rfl (by decide) (by decide) rfl ?_
  refine y_goto (tgt := 65) dX5_init_81 (by decide) ?_
  refine y_iload_n (q := 0) rfl rfl dX5_init_65 ?_
  refine y_bipush (v := (31)) (by decide) dX5_init_66 ?_
  refine y_geF (tgt := 84) dX5_init_68 (by decide) (by decide) ?_
  refine y_aload_n (q := 1) rfl rfl dX5_init_71 ?_
  refine y_getR (b := (a + 1)) (C := RX5) (T := TX5) (xTo_o h0) (by omega) (by decide) rfl in_X5 0 (by decide) (by decide) fl_X5_9 (by simp [upr, upR] <;> omega) dX5_init_72 ?_
  refine y_iload_n (q := 0) rfl rfl dX5_init_75 ?_
  refine y_iconst (v := (2)) (by decide) dX5_init_76 ?_
  refine y_iast (j := 9) (xTo_1 h0) (by omega) (by decide) (by decide) dX5_init_77 ?_
  refine y_iinc (q := 0) (v := 10) (lv' := [(1, .int 10), (0, .ref (g.1 a))]) dX5_init_78 rfl (by decide) (by decide) rfl ?_
  refine y_goto (tgt := 65) dX5_init_81 (by decide) ?_
  refine y_iload_n (q := 0) rfl rfl dX5_init_65 ?_
  refine y_bipush (v := (31)) (by decide) dX5_init_66 ?_
  refine y_geF (tgt := 84) dX5_init_68 (by decide) (by decide) ?_
  refine y_aload_n (q := 1) rfl rfl dX5_init_71 ?_
  refine y_getR (b := (a + 1)) (C := RX5) (T := TX5) (xTo_o h0) (by omega) (by decide) rfl in_X5 0 (by decide) (by decide) fl_X5_9 (by simp [upr, upR] <;> omega) dX5_init_72 ?_
  refine y_iload_n (q := 0) rfl rfl dX5_init_75 ?_
  refine y_iconst (v := (2)) (by decide) dX5_init_76 ?_
  refine y_iast (j := 10) (xTo_1 h0) (by omega) (by decide) (by decide) dX5_init_77 ?_
  refine y_iinc (q := 0) (v := 11) (lv' := [(1, .int 11), (0, .ref (g.1 a))]) dX5_init_78 rfl (by decide) (by decide) rfl ?_
  refine y_goto (tgt := 65) dX5_init_81 (by decide) ?_
  refine y_iload_n (q := 0) rfl rfl dX5_init_65 ?_
  refine y_bipush (v := (31)) (by decide) dX5_init_66 ?_
  refine y_geF (tgt := 84) dX5_init_68 (by decide) (by decide) ?_
  refine y_aload_n (q := 1) rfl rfl dX5_init_71 ?_
  refine y_getR (b := (a + 1)) (C := RX5) (T := TX5) (xTo_o h0) (by omega) (by decide) rfl in_X5 0 (by decide) (by decide) fl_X5_9 (by simp [upr, upR] <;> omega) dX5_init_72 ?_
  refine y_iload_n (q := 0) rfl rfl dX5_init_75 ?_
  refine y_iconst (v := (2)) (by decide) dX5_init_76 ?_
  refine y_iast (j := 11) (xTo_1 h0) (by omega) (by decide) (by decide) dX5_init_77 ?_
  refine y_iinc (q := 0) (v := 12) (lv' := [(1, .int 12), (0, .ref (g.1 a))]) dX5_init_78 rfl (by decide) (by decide) rfl ?_
  refine y_goto (tgt := 65) dX5_init_81 (by decide) ?_
  refine y_iload_n (q := 0) rfl rfl dX5_init_65 ?_
  refine y_bipush (v := (31)) (by decide) dX5_init_66 ?_
  refine y_geF (tgt := 84) dX5_init_68 (by decide) (by decide) ?_
  refine y_aload_n (q := 1) rfl rfl dX5_init_71 ?_
  refine y_getR (b := (a + 1)) (C := RX5) (T := TX5) (xTo_o h0) (by omega) (by decide) rfl in_X5 0 (by decide) (by decide) fl_X5_9 (by simp [upr, upR] <;> omega) dX5_init_72 ?_
  refine y_iload_n (q := 0) rfl rfl dX5_init_75 ?_
  refine y_iconst (v := (2)) (by decide) dX5_init_76 ?_
  refine y_iast (j := 12) (xTo_1 h0) (by omega) (by decide) (by decide) dX5_init_77 ?_
  refine y_iinc (q := 0) (v := 13) (lv' := [(1, .int 13), (0, .ref (g.1 a))]) dX5_init_78 rfl (by decide) (by decide) rfl ?_
  refine y_goto (tgt := 65) dX5_init_81 (by decide) ?_
  refine y_iload_n (q := 0) rfl rfl dX5_init_65 ?_
  refine y_bipush (v := (31)) (by decide) dX5_init_66 ?_
  refine y_geF (tgt := 84) dX5_init_68 (by decide) (by decide) ?_
  refine y_aload_n (q := 1) rfl rfl dX5_init_71 ?_
  refine y_getR (b := (a + 1)) (C := RX5) (T := TX5) (xTo_o h0) (by omega) (by decide) rfl in_X5 0 (by decide) (by decide) fl_X5_9 (by simp [upr, upR] <;> omega) dX5_init_72 ?_
  refine y_iload_n (q := 0) rfl rfl dX5_init_75 ?_
  refine y_iconst (v := (2)) (by decide) dX5_init_76 ?_
  refine y_iast (j := 13) (xTo_1 h0) (by omega) (by decide) (by decide) dX5_init_77 ?_
  refine y_iinc (q := 0) (v := 14) (lv' := [(1, .int 14), (0, .ref (g.1 a))]) dX5_init_78 rfl (by decide) (by decide) rfl ?_
  refine y_goto (tgt := 65) dX5_init_81 (by decide) ?_
  refine y_iload_n (q := 0) rfl rfl dX5_init_65 ?_
  refine y_bipush (v := (31)) (by decide) dX5_init_66 ?_
  refine y_geF (tgt := 84) dX5_init_68 (by decide) (by decide) ?_
  refine y_aload_n (q := 1) rfl rfl dX5_init_71 ?_
  refine y_getR (b := (a + 1)) (C := RX5) (T := TX5) (xTo_o h0) (by omega) (by decide) rfl in_X5 0 (by decide) (by decide) fl_X5_9 (by simp [upr, upR] <;> omega) dX5_init_72 ?_
  refine y_iload_n (q := 0) rfl rfl dX5_init_75 ?_
  refine y_iconst (v := (2)) (by decide) dX5_init_76 ?_
  refine y_iast (j := 14) (xTo_1 h0) (by omega) (by decide) (by decide) dX5_init_77 ?_
  refine y_iinc (q := 0) (v := 15) (lv' := [(1, .int 15), (0, .ref (g.1 a))]) dX5_init_78 rfl (by decide) (by decide) rfl ?_
  refine y_goto (tgt := 65) dX5_init_81 (by decide) ?_
  refine y_iload_n (q := 0) rfl rfl dX5_init_65 ?_
  refine y_bipush (v := (31)) (by decide) dX5_init_66 ?_
  refine y_geF (tgt := 84) dX5_init_68 (by decide) (by decide) ?_
  refine y_aload_n (q := 1) rfl rfl dX5_init_71 ?_
  refine y_getR (b := (a + 1)) (C := RX5) (T := TX5) (xTo_o h0) (by omega) (by decide) rfl in_X5 0 (by decide) (by decide) fl_X5_9 (by simp [upr, upR] <;> omega) dX5_init_72 ?_
  refine y_iload_n (q := 0) rfl rfl dX5_init_75 ?_
  refine y_iconst (v := (2)) (by decide) dX5_init_76 ?_
  refine y_iast (j := 15) (xTo_1 h0) (by omega) (by decide) (by decide) dX5_init_77 ?_
  refine y_iinc (q := 0) (v := 16) (lv' := [(1, .int 16), (0, .ref (g.1 a))]) dX5_init_78 rfl (by decide) (by decide) rfl ?_
  refine y_goto (tgt := 65) dX5_init_81 (by decide) ?_
  refine y_iload_n (q := 0) rfl rfl dX5_init_65 ?_
  refine y_bipush (v := (31)) (by decide) dX5_init_66 ?_
  refine y_geF (tgt := 84) dX5_init_68 (by decide) (by decide) ?_
  refine y_aload_n (q := 1) rfl rfl dX5_init_71 ?_
  refine y_getR (b := (a + 1)) (C := RX5) (T := TX5) (xTo_o h0) (by omega) (by decide) rfl in_X5 0 (by decide) (by decide) fl_X5_9 (by simp [upr, upR] <;> omega) dX5_init_72 ?_
  refine y_iload_n (q := 0) rfl rfl dX5_init_75 ?_
  refine y_iconst (v := (2)) (by decide) dX5_init_76 ?_
  refine y_iast (j := 16) (xTo_1 h0) (by omega) (by decide) (by decide) dX5_init_77 ?_
  refine y_iinc (q := 0) (v := 17) (lv' := [(1, .int 17), (0, .ref (g.1 a))]) dX5_init_78 rfl (by decide) (by decide) rfl ?_
  refine y_goto (tgt := 65) dX5_init_81 (by decide) ?_
  refine y_iload_n (q := 0) rfl rfl dX5_init_65 ?_
  refine y_bipush (v := (31)) (by decide) dX5_init_66 ?_
  refine y_geF (tgt := 84) dX5_init_68 (by decide) (by decide) ?_
  refine y_aload_n (q := 1) rfl rfl dX5_init_71 ?_
  refine y_getR (b := (a + 1)) (C := RX5) (T := TX5) (xTo_o h0) (by omega) (by decide) rfl in_X5 0 (by decide) (by decide) fl_X5_9 (by simp [upr, upR] <;> omega) dX5_init_72 ?_
  refine y_iload_n (q := 0) rfl rfl dX5_init_75 ?_
  refine y_iconst (v := (2)) (by decide) dX5_init_76 ?_
  refine y_iast (j := 17) (xTo_1 h0) (by omega) (by decide) (by decide) dX5_init_77 ?_
  refine y_iinc (q := 0) (v := 18) (lv' := [(1, .int 18), (0, .ref (g.1 a))]) dX5_init_78 rfl (by decide) (by decide) rfl ?_
  refine y_goto (tgt := 65) dX5_init_81 (by decide) ?_
  refine y_iload_n (q := 0) rfl rfl dX5_init_65 ?_
  refine y_bipush (v := (31)) (by decide) dX5_init_66 ?_
  refine y_geF (tgt := 84) dX5_init_68 (by decide) (by decide) ?_
  refine y_aload_n (q := 1) rfl rfl dX5_init_71 ?_
  refine y_getR (b := (a + 1)) (C := RX5) (T := TX5) (xTo_o h0) (by omega) (by decide) rfl in_X5 0 (by decide) (by decide) fl_X5_9 (by simp [upr, upR] <;> omega) dX5_init_72 ?_
  refine y_iload_n (q := 0) rfl rfl dX5_init_75 ?_
  refine y_iconst (v := (2)) (by decide) dX5_init_76 ?_
  refine y_iast (j := 18) (xTo_1 h0) (by omega) (by decide) (by decide) dX5_init_77 ?_
  refine y_iinc (q := 0) (v := 19) (lv' := [(1, .int 19), (0, .ref (g.1 a))]) dX5_init_78 rfl (by decide) (by decide) rfl ?_
  refine y_goto (tgt := 65) dX5_init_81 (by decide) ?_
  refine y_iload_n (q := 0) rfl rfl dX5_init_65 ?_
  refine y_bipush (v := (31)) (by decide) dX5_init_66 ?_
  refine y_geF (tgt := 84) dX5_init_68 (by decide) (by decide) ?_
  refine y_aload_n (q := 1) rfl rfl dX5_init_71 ?_
  refine y_getR (b := (a + 1)) (C := RX5) (T := TX5) (xTo_o h0) (by omega) (by decide) rfl in_X5 0 (by decide) (by decide) fl_X5_9 (by simp [upr, upR] <;> omega) dX5_init_72 ?_
  refine y_iload_n (q := 0) rfl rfl dX5_init_75 ?_
  refine y_iconst (v := (2)) (by decide) dX5_init_76 ?_
  refine y_iast (j := 19) (xTo_1 h0) (by omega) (by decide) (by decide) dX5_init_77 ?_
  refine y_iinc (q := 0) (v := 20) (lv' := [(1, .int 20), (0, .ref (g.1 a))]) dX5_init_78 rfl (by decide) (by decide) rfl ?_
  refine y_goto (tgt := 65) dX5_init_81 (by decide) ?_
  refine y_iload_n (q := 0) rfl rfl dX5_init_65 ?_
  refine y_bipush (v := (31)) (by decide) dX5_init_66 ?_
  refine y_geF (tgt := 84) dX5_init_68 (by decide) (by decide) ?_
  refine y_aload_n (q := 1) rfl rfl dX5_init_71 ?_
  refine y_getR (b := (a + 1)) (C := RX5) (T := TX5) (xTo_o h0) (by omega) (by decide) rfl in_X5 0 (by decide) (by decide) fl_X5_9 (by simp [upr, upR] <;> omega) dX5_init_72 ?_
  refine y_iload_n (q := 0) rfl rfl dX5_init_75 ?_
  refine y_iconst (v := (2)) (by decide) dX5_init_76 ?_
  refine y_iast (j := 20) (xTo_1 h0) (by omega) (by decide) (by decide) dX5_init_77 ?_
  refine y_iinc (q := 0) (v := 21) (lv' := [(1, .int 21), (0, .ref (g.1 a))]) dX5_init_78 rfl (by decide) (by decide) rfl ?_
  refine y_goto (tgt := 65) dX5_init_81 (by decide) ?_
  refine y_iload_n (q := 0) rfl rfl dX5_init_65 ?_
  refine y_bipush (v := (31)) (by decide) dX5_init_66 ?_
  refine y_geF (tgt := 84) dX5_init_68 (by decide) (by decide) ?_
  refine y_aload_n (q := 1) rfl rfl dX5_init_71 ?_
  refine y_getR (b := (a + 1)) (C := RX5) (T := TX5) (xTo_o h0) (by omega) (by decide) rfl in_X5 0 (by decide) (by decide) fl_X5_9 (by simp [upr, upR] <;> omega) dX5_init_72 ?_
  refine y_iload_n (q := 0) rfl rfl dX5_init_75 ?_
  refine y_iconst (v := (2)) (by decide) dX5_init_76 ?_
  refine y_iast (j := 21) (xTo_1 h0) (by omega) (by decide) (by decide) dX5_init_77 ?_
  refine y_iinc (q := 0) (v := 22) (lv' := [(1, .int 22), (0, .ref (g.1 a))]) dX5_init_78 rfl (by decide) (by decide) rfl ?_
  refine y_goto (tgt := 65) dX5_init_81 (by decide) ?_
  refine y_iload_n (q := 0) rfl rfl dX5_init_65 ?_
  refine y_bipush (v := (31)) (by decide) dX5_init_66 ?_
  refine y_geF (tgt := 84) dX5_init_68 (by decide) (by decide) ?_
  refine y_aload_n (q := 1) rfl rfl dX5_init_71 ?_
  refine y_getR (b := (a + 1)) (C := RX5) (T := TX5) (xTo_o h0) (by omega) (by decide) rfl in_X5 0 (by decide) (by decide) fl_X5_9 (by simp [upr, upR] <;> omega) dX5_init_72 ?_
  refine y_iload_n (q := 0) rfl rfl dX5_init_75 ?_
  refine y_iconst (v := (2)) (by decide) dX5_init_76 ?_
  refine y_iast (j := 22) (xTo_1 h0) (by omega) (by decide) (by decide) dX5_init_77 ?_
  refine y_iinc (q := 0) (v := 23) (lv' := [(1, .int 23), (0, .ref (g.1 a))]) dX5_init_78 rfl (by decide) (by decide) rfl ?_
  refine y_goto (tgt := 65) dX5_init_81 (by decide) ?_
  refine y_iload_n (q := 0) rfl rfl dX5_init_65 ?_
  refine y_bipush (v := (31)) (by decide) dX5_init_66 ?_
  refine y_geF (tgt := 84) dX5_init_68 (by decide) (by decide) ?_
  refine y_aload_n (q := 1) rfl rfl dX5_init_71 ?_
  refine y_getR (b := (a + 1)) (C := RX5) (T := TX5) (xTo_o h0) (by omega) (by decide) rfl in_X5 0 (by decide) (by decide) fl_X5_9 (by simp [upr, upR] <;> omega) dX5_init_72 ?_
  refine y_iload_n (q := 0) rfl rfl dX5_init_75 ?_
  refine y_iconst (v := (2)) (by decide) dX5_init_76 ?_
  refine y_iast (j := 23) (xTo_1 h0) (by omega) (by decide) (by decide) dX5_init_77 ?_
  refine y_iinc (q := 0) (v := 24) (lv' := [(1, .int 24), (0, .ref (g.1 a))]) dX5_init_78 rfl (by decide) (by decide) rfl ?_
  refine y_goto (tgt := 65) dX5_init_81 (by decide) ?_
  refine y_iload_n (q := 0) rfl rfl dX5_init_65 ?_
  refine y_bipush (v := (31)) (by decide) dX5_init_66 ?_
  refine y_geF (tgt := 84) dX5_init_68 (by decide) (by decide) ?_
  refine y_aload_n (q := 1) rfl rfl dX5_init_71 ?_
  refine y_getR (b := (a + 1)) (C := RX5) (T := TX5) (xTo_o h0) (by omega) (by decide) rfl in_X5 0 (by decide) (by decide) fl_X5_9 (by simp [upr, upR] <;> omega) dX5_init_72 ?_
  refine y_iload_n (q := 0) rfl rfl dX5_init_75 ?_
  refine y_iconst (v := (2)) (by decide) dX5_init_76 ?_
  refine y_iast (j := 24) (xTo_1 h0) (by omega) (by decide) (by decide) dX5_init_77 ?_
  refine y_iinc (q := 0) (v := 25) (lv' := [(1, .int 25), (0, .ref (g.1 a))]) dX5_init_78 rfl (by decide) (by decide) rfl ?_
  refine y_goto (tgt := 65) dX5_init_81 (by decide) ?_
  refine y_iload_n (q := 0) rfl rfl dX5_init_65 ?_
  refine y_bipush (v := (31)) (by decide) dX5_init_66 ?_
  refine y_geF (tgt := 84) dX5_init_68 (by decide) (by decide) ?_
  refine y_aload_n (q := 1) rfl rfl dX5_init_71 ?_
  refine y_getR (b := (a + 1)) (C := RX5) (T := TX5) (xTo_o h0) (by omega) (by decide) rfl in_X5 0 (by decide) (by decide) fl_X5_9 (by simp [upr, upR] <;> omega) dX5_init_72 ?_
  refine y_iload_n (q := 0) rfl rfl dX5_init_75 ?_
  refine y_iconst (v := (2)) (by decide) dX5_init_76 ?_
  refine y_iast (j := 25) (xTo_1 h0) (by omega) (by decide) (by decide) dX5_init_77 ?_
  refine y_iinc (q := 0) (v := 26) (lv' := [(1, .int 26), (0, .ref (g.1 a))]) dX5_init_78 rfl (by decide) (by decide) rfl ?_
  refine y_goto (tgt := 65) dX5_init_81 (by decide) ?_
  refine y_iload_n (q := 0) rfl rfl dX5_init_65 ?_
  refine y_bipush (v := (31)) (by decide) dX5_init_66 ?_
  refine y_geF (tgt := 84) dX5_init_68 (by decide) (by decide) ?_
  refine y_aload_n (q := 1) rfl rfl dX5_init_71 ?_
  refine y_getR (b := (a + 1)) (C := RX5) (T := TX5) (xTo_o h0) (by omega) (by decide) rfl in_X5 0 (by decide) (by decide) fl_X5_9 (by simp [upr, upR] <;> omega) dX5_init_72 ?_
  refine y_iload_n (q := 0) rfl rfl dX5_init_75 ?_
  refine y_iconst (v := (2)) (by decide) dX5_init_76 ?_
  refine y_iast (j := 26) (xTo_1 h0) (by omega) (by decide) (by decide) dX5_init_77 ?_
  refine y_iinc (q := 0) (v := 27) (lv' := [(1, .int 27), (0, .ref (g.1 a))]) dX5_init_78 rfl (by decide) (by decide) rfl ?_
  refine y_goto (tgt := 65) dX5_init_81 (by decide) ?_
  refine y_iload_n (q := 0) rfl rfl dX5_init_65 ?_
  refine y_bipush (v := (31)) (by decide) dX5_init_66 ?_
  refine y_geF (tgt := 84) dX5_init_68 (by decide) (by decide) ?_
  refine y_aload_n (q := 1) rfl rfl dX5_init_71 ?_
  refine y_getR (b := (a + 1)) (C := RX5) (T := TX5) (xTo_o h0) (by omega) (by decide) rfl in_X5 0 (by decide) (by decide) fl_X5_9 (by simp [upr, upR] <;> omega) dX5_init_72 ?_
  refine y_iload_n (q := 0) rfl rfl dX5_init_75 ?_
  refine y_iconst (v := (2)) (by decide) dX5_init_76 ?_
  refine y_iast (j := 27) (xTo_1 h0) (by omega) (by decide) (by decide) dX5_init_77 ?_
  refine y_iinc (q := 0) (v := 28) (lv' := [(1, .int 28), (0, .ref (g.1 a))]) dX5_init_78 rfl (by decide) (by decide) rfl ?_
  refine y_goto (tgt := 65) dX5_init_81 (by decide) ?_
  refine y_iload_n (q := 0) rfl rfl dX5_init_65 ?_
  refine y_bipush (v := (31)) (by decide) dX5_init_66 ?_
  refine y_geF (tgt := 84) dX5_init_68 (by decide) (by decide) ?_
  refine y_aload_n (q := 1) rfl rfl dX5_init_71 ?_
  refine y_getR (b := (a + 1)) (C := RX5) (T := TX5) (xTo_o h0) (by omega) (by decide) rfl in_X5 0 (by decide) (by decide) fl_X5_9 (by simp [upr, upR] <;> omega) dX5_init_72 ?_
  refine y_iload_n (q := 0) rfl rfl dX5_init_75 ?_
  refine y_iconst (v := (2)) (by decide) dX5_init_76 ?_
  refine y_iast (j := 28) (xTo_1 h0) (by omega) (by decide) (by decide) dX5_init_77 ?_
  refine y_iinc (q := 0) (v := 29) (lv' := [(1, .int 29), (0, .ref (g.1 a))]) dX5_init_78 rfl (by decide) (by decide) rfl ?_
  refine y_goto (tgt := 65) dX5_init_81 (by decide) ?_
  refine y_iload_n (q := 0) rfl rfl dX5_init_65 ?_
  refine y_bipush (v := (31)) (by decide) dX5_init_66 ?_
  refine y_geF (tgt := 84) dX5_init_68 (by decide) (by decide) ?_
  refine y_aload_n (q := 1) rfl rfl dX5_init_71 ?_
  refine y_getR (b := (a + 1)) (C := RX5) (T := TX5) (xTo_o h0) (by omega) (by decide) rfl in_X5 0 (by decide) (by decide) fl_X5_9 (by simp [upr, upR] <;> omega) dX5_init_72 ?_
  refine y_iload_n (q := 0) rfl rfl dX5_init_75 ?_
  refine y_iconst (v := (2)) (by decide) dX5_init_76 ?_
  refine y_iast (j := 29) (xTo_1 h0) (by omega) (by decide) (by decide) dX5_init_77 ?_
  refine y_iinc (q := 0) (v := 30) (lv' := [(1, .int 30), (0, .ref (g.1 a))]) dX5_init_78 rfl (by decide) (by decide) rfl ?_
  refine y_goto (tgt := 65) dX5_init_81 (by decide) ?_
  refine y_iload_n (q := 0) rfl rfl dX5_init_65 ?_
  refine y_bipush (v := (31)) (by decide) dX5_init_66 ?_
  refine y_geF (tgt := 84) dX5_init_68 (by decide) (by decide) ?_
  refine y_aload_n (q := 1) rfl rfl dX5_init_71 ?_
  refine y_getR (b := (a + 1)) (C := RX5) (T := TX5) (xTo_o h0) (by omega) (by decide) rfl in_X5 0 (by decide) (by decide) fl_X5_9 (by simp [upr, upR] <;> omega) dX5_init_72 ?_
  refine y_iload_n (q := 0) rfl rfl dX5_init_75 ?_
  refine y_iconst (v := (2)) (by decide) dX5_init_76 ?_
  refine y_iast (j := 30) (xTo_1 h0) (by omega) (by decide) (by decide) dX5_init_77 ?_
  refine y_iinc (q := 0) (v := 31) (lv' := [(1, .int 31), (0, .ref (g.1 a))]) dX5_init_78 rfl (by decide) (by decide) rfl ?_
  refine y_goto (tgt := 65) dX5_init_81 (by decide) ?_
  refine y_iload_n (q := 0) rfl rfl dX5_init_65 ?_
  refine y_bipush (v := (31)) (by decide) dX5_init_66 ?_
  refine y_geT (tgt := 84) dX5_init_68 (by decide) (by decide) ?_
  refine y_iconst (v := (0)) (by decide) dX5_init_84 ?_
  refine y_istore_n (lv' := [(1, .int 0), (0, .ref (g.1 a))]) rfl dX5_init_85 (by decide) rfl ?_
  refine y_iload_n (q := 0) rfl rfl dX5_init_86 ?_
  refine y_bipush (v := (10)) (by decide) dX5_init_87 ?_
  refine y_geF (tgt := 111) dX5_init_89 (by decide) (by decide) ?_
  refine y_aload_n (q := 1) rfl rfl dX5_init_92 ?_
  refine y_getR (b := (a + 3)) (C := RX5) (T := TX5) (xTo_o h0) (by omega) (by decide) rfl in_X5 2 (by decide) (by decide) fl_X5_20 (by simp [upr, upR] <;> omega) dX5_init_93 ?_
  refine y_iload_n (q := 0) rfl rfl dX5_init_96 ?_
  refine y_new (C := RX4) (T := TX4) tyX4 tyX4_ok (xTo_t h0 0 (by decide)) (by decide) rfl in_X4 nl_X5_18 (df_4 _) (by decide) (by decide) dX5_init_97 ?_
  refine y_dup rfl dX5_init_100 ?_
  refine y_call (a := (a + 5)) (y_X4_init _ _) (by have := xTo_le h0; omega) rfl (by decide) (by decide) yl_X5_43 cd3_X4_init xd3_X4_init (Nat.le_of_ble_eq_true rfl) (by decide) (by decide) dX5_init_101 ?_
  refine y_aast (q := 1) (j := 0) (C := RX4) (T := TX4) (xTo_3 h0) (by first | exact Or.inl ⟨rfl, rfl⟩ | exact Or.inr ⟨rfl, rfl⟩) (by omega) (by omega) (xTo_t h0 0 (by decide)) (by decide) rfl (by decide) (by decide) dX5_init_104 ?_
  refine y_iinc (q := 0) (v := 1) (lv' := [(1, .int 1), (0, .ref (g.1 a))]) dX5_init_105 rfl (by decide) (by decide) rfl ?_
  refine y_goto (tgt := 86) dX5_init_108 (by decide) ?_
  refine y_iload_n (q := 0) rfl rfl dX5_init_86 ?_
  refine y_bipush (v := (10)) (by decide) dX5_init_87 ?_
  refine y_geF (tgt := 111) dX5_init_89 (by decide) (by decide) ?_
  refine y_aload_n (q := 1) rfl rfl dX5_init_92 ?_
  refine y_getR (b := (a + 3)) (C := RX5) (T := TX5) (xTo_o h0) (by omega) (by decide) rfl in_X5 2 (by decide) (by decide) fl_X5_20 (by simp [upr, upR] <;> omega) dX5_init_93 ?_
  refine y_iload_n (q := 0) rfl rfl dX5_init_96 ?_
  refine y_new (C := RX4) (T := TX4) tyX4 tyX4_ok (xTo_t h0 1 (by decide)) (by decide) rfl in_X4 nl_X5_18 (df_4 _) (by decide) (by decide) dX5_init_97 ?_
  refine y_dup rfl dX5_init_100 ?_
  refine y_call (a := (a + 6)) (y_X4_init _ _) (by have := xTo_le h0; omega) rfl (by decide) (by decide) yl_X5_43 cd3_X4_init xd3_X4_init (Nat.le_of_ble_eq_true rfl) (by decide) (by decide) dX5_init_101 ?_
  refine y_aast (q := 1) (j := 1) (C := RX4) (T := TX4) (xTo_3 h0) (by first | exact Or.inl ⟨rfl, rfl⟩ | exact Or.inr ⟨rfl, rfl⟩) (by omega) (by omega) (xTo_t h0 1 (by decide)) (by decide) rfl (by decide) (by decide) dX5_init_104 ?_
  refine y_iinc (q := 0) (v := 2) (lv' := [(1, .int 2), (0, .ref (g.1 a))]) dX5_init_105 rfl (by decide) (by decide) rfl ?_
  refine y_goto (tgt := 86) dX5_init_108 (by decide) ?_
  refine y_iload_n (q := 0) rfl rfl dX5_init_86 ?_
  refine y_bipush (v := (10)) (by decide) dX5_init_87 ?_
  refine y_geF (tgt := 111) dX5_init_89 (by decide) (by decide) ?_
  refine y_aload_n (q := 1) rfl rfl dX5_init_92 ?_
  refine y_getR (b := (a + 3)) (C := RX5) (T := TX5) (xTo_o h0) (by omega) (by decide) rfl in_X5 2 (by decide) (by decide) fl_X5_20 (by simp [upr, upR] <;> omega) dX5_init_93 ?_
  refine y_iload_n (q := 0) rfl rfl dX5_init_96 ?_
  refine y_new (C := RX4) (T := TX4) tyX4 tyX4_ok (xTo_t h0 2 (by decide)) (by decide) rfl in_X4 nl_X5_18 (df_4 _) (by decide) (by decide) dX5_init_97 ?_
  refine y_dup rfl dX5_init_100 ?_
  refine y_call (a := (a + 7)) (y_X4_init _ _) (by have := xTo_le h0; omega) rfl (by decide) (by decide) yl_X5_43 cd3_X4_init xd3_X4_init (Nat.le_of_ble_eq_true rfl) (by decide) (by decide) dX5_init_101 ?_
  refine y_aast (q := 1) (j := 2) (C := RX4) (T := TX4) (xTo_3 h0) (by first | exact Or.inl ⟨rfl, rfl⟩ | exact Or.inr ⟨rfl, rfl⟩) (by omega) (by omega) (xTo_t h0 2 (by decide)) (by decide) rfl (by decide) (by decide) dX5_init_104 ?_
  refine y_iinc (q := 0) (v := 3) (lv' := [(1, .int 3), (0, .ref (g.1 a))]) dX5_init_105 rfl (by decide) (by decide) rfl ?_
  refine y_goto (tgt := 86) dX5_init_108 (by decide) ?_
  refine y_iload_n (q := 0) rfl rfl dX5_init_86 ?_
  refine y_bipush (v := (10)) (by decide) dX5_init_87 ?_
  refine y_geF (tgt := 111) dX5_init_89 (by decide) (by decide) ?_
  refine y_aload_n (q := 1) rfl rfl dX5_init_92 ?_
  refine y_getR (b := (a + 3)) (C := RX5) (T := TX5) (xTo_o h0) (by omega) (by decide) rfl in_X5 2 (by decide) (by decide) fl_X5_20 (by simp [upr, upR] <;> omega) dX5_init_93 ?_
  refine y_iload_n (q := 0) rfl rfl dX5_init_96 ?_
  refine y_new (C := RX4) (T := TX4) tyX4 tyX4_ok (xTo_t h0 3 (by decide)) (by decide) rfl in_X4 nl_X5_18 (df_4 _) (by decide) (by decide) dX5_init_97 ?_
  refine y_dup rfl dX5_init_100 ?_
  refine y_call (a := (a + 8)) (y_X4_init _ _) (by have := xTo_le h0; omega) rfl (by decide) (by decide) yl_X5_43 cd3_X4_init xd3_X4_init (Nat.le_of_ble_eq_true rfl) (by decide) (by decide) dX5_init_101 ?_
  refine y_aast (q := 1) (j := 3) (C := RX4) (T := TX4) (xTo_3 h0) (by first | exact Or.inl ⟨rfl, rfl⟩ | exact Or.inr ⟨rfl, rfl⟩) (by omega) (by omega) (xTo_t h0 3 (by decide)) (by decide) rfl (by decide) (by decide) dX5_init_104 ?_
  refine y_iinc (q := 0) (v := 4) (lv' := [(1, .int 4), (0, .ref (g.1 a))]) dX5_init_105 rfl (by decide) (by decide) rfl ?_
  refine y_goto (tgt := 86) dX5_init_108 (by decide) ?_
  refine y_iload_n (q := 0) rfl rfl dX5_init_86 ?_
  refine y_bipush (v := (10)) (by decide) dX5_init_87 ?_
  refine y_geF (tgt := 111) dX5_init_89 (by decide) (by decide) ?_
  refine y_aload_n (q := 1) rfl rfl dX5_init_92 ?_
  refine y_getR (b := (a + 3)) (C := RX5) (T := TX5) (xTo_o h0) (by omega) (by decide) rfl in_X5 2 (by decide) (by decide) fl_X5_20 (by simp [upr, upR] <;> omega) dX5_init_93 ?_
  refine y_iload_n (q := 0) rfl rfl dX5_init_96 ?_
  refine y_new (C := RX4) (T := TX4) tyX4 tyX4_ok (xTo_t h0 4 (by decide)) (by decide) rfl in_X4 nl_X5_18 (df_4 _) (by decide) (by decide) dX5_init_97 ?_
  refine y_dup rfl dX5_init_100 ?_
  refine y_call (a := (a + 9)) (y_X4_init _ _) (by have := xTo_le h0; omega) rfl (by decide) (by decide) yl_X5_43 cd3_X4_init xd3_X4_init (Nat.le_of_ble_eq_true rfl) (by decide) (by decide) dX5_init_101 ?_
  refine y_aast (q := 1) (j := 4) (C := RX4) (T := TX4) (xTo_3 h0) (by first | exact Or.inl ⟨rfl, rfl⟩ | exact Or.inr ⟨rfl, rfl⟩) (by omega) (by omega) (xTo_t h0 4 (by decide)) (by decide) rfl (by decide) (by decide) dX5_init_104 ?_
  refine y_iinc (q := 0) (v := 5) (lv' := [(1, .int 5), (0, .ref (g.1 a))]) dX5_init_105 rfl (by decide) (by decide) rfl ?_
  refine y_goto (tgt := 86) dX5_init_108 (by decide) ?_
  refine y_iload_n (q := 0) rfl rfl dX5_init_86 ?_
  refine y_bipush (v := (10)) (by decide) dX5_init_87 ?_
  refine y_geF (tgt := 111) dX5_init_89 (by decide) (by decide) ?_
  refine y_aload_n (q := 1) rfl rfl dX5_init_92 ?_
  refine y_getR (b := (a + 3)) (C := RX5) (T := TX5) (xTo_o h0) (by omega) (by decide) rfl in_X5 2 (by decide) (by decide) fl_X5_20 (by simp [upr, upR] <;> omega) dX5_init_93 ?_
  refine y_iload_n (q := 0) rfl rfl dX5_init_96 ?_
  refine y_new (C := RX4) (T := TX4) tyX4 tyX4_ok (xTo_t h0 5 (by decide)) (by decide) rfl in_X4 nl_X5_18 (df_4 _) (by decide) (by decide) dX5_init_97 ?_
  refine y_dup rfl dX5_init_100 ?_
  refine y_call (a := (a + 10)) (y_X4_init _ _) (by have := xTo_le h0; omega) rfl (by decide) (by decide) yl_X5_43 cd3_X4_init xd3_X4_init (Nat.le_of_ble_eq_true rfl) (by decide) (by decide) dX5_init_101 ?_
  refine y_aast (q := 1) (j := 5) (C := RX4) (T := TX4) (xTo_3 h0) (by first | exact Or.inl ⟨rfl, rfl⟩ | exact Or.inr ⟨rfl, rfl⟩) (by omega) (by omega) (xTo_t h0 5 (by decide)) (by decide) rfl (by decide) (by decide) dX5_init_104 ?_
  refine y_iinc (q := 0) (v := 6) (lv' := [(1, .int 6), (0, .ref (g.1 a))]) dX5_init_105 rfl (by decide) (by decide) rfl ?_
  refine y_goto (tgt := 86) dX5_init_108 (by decide) ?_
  refine y_iload_n (q := 0) rfl rfl dX5_init_86 ?_
  refine y_bipush (v := (10)) (by decide) dX5_init_87 ?_
  refine y_geF (tgt := 111) dX5_init_89 (by decide) (by decide) ?_
  refine y_aload_n (q := 1) rfl rfl dX5_init_92 ?_
  refine y_getR (b := (a + 3)) (C := RX5) (T := TX5) (xTo_o h0) (by omega) (by decide) rfl in_X5 2 (by decide) (by decide) fl_X5_20 (by simp [upr, upR] <;> omega) dX5_init_93 ?_
  refine y_iload_n (q := 0) rfl rfl dX5_init_96 ?_
  refine y_new (C := RX4) (T := TX4) tyX4 tyX4_ok (xTo_t h0 6 (by decide)) (by decide) rfl in_X4 nl_X5_18 (df_4 _) (by decide) (by decide) dX5_init_97 ?_
  refine y_dup rfl dX5_init_100 ?_
  refine y_call (a := (a + 11)) (y_X4_init _ _) (by have := xTo_le h0; omega) rfl (by decide) (by decide) yl_X5_43 cd3_X4_init xd3_X4_init (Nat.le_of_ble_eq_true rfl) (by decide) (by decide) dX5_init_101 ?_
  refine y_aast (q := 1) (j := 6) (C := RX4) (T := TX4) (xTo_3 h0) (by first | exact Or.inl ⟨rfl, rfl⟩ | exact Or.inr ⟨rfl, rfl⟩) (by omega) (by omega) (xTo_t h0 6 (by decide)) (by decide) rfl (by decide) (by decide) dX5_init_104 ?_
  refine y_iinc (q := 0) (v := 7) (lv' := [(1, .int 7), (0, .ref (g.1 a))]) dX5_init_105 rfl (by decide) (by decide) rfl ?_
  refine y_goto (tgt := 86) dX5_init_108 (by decide) ?_
  refine y_iload_n (q := 0) rfl rfl dX5_init_86 ?_
  refine y_bipush (v := (10)) (by decide) dX5_init_87 ?_
  refine y_geF (tgt := 111) dX5_init_89 (by decide) (by decide) ?_
  refine y_aload_n (q := 1) rfl rfl dX5_init_92 ?_
  refine y_getR (b := (a + 3)) (C := RX5) (T := TX5) (xTo_o h0) (by omega) (by decide) rfl in_X5 2 (by decide) (by decide) fl_X5_20 (by simp [upr, upR] <;> omega) dX5_init_93 ?_
  refine y_iload_n (q := 0) rfl rfl dX5_init_96 ?_
  refine y_new (C := RX4) (T := TX4) tyX4 tyX4_ok (xTo_t h0 7 (by decide)) (by decide) rfl in_X4 nl_X5_18 (df_4 _) (by decide) (by decide) dX5_init_97 ?_
  refine y_dup rfl dX5_init_100 ?_
  refine y_call (a := (a + 12)) (y_X4_init _ _) (by have := xTo_le h0; omega) rfl (by decide) (by decide) yl_X5_43 cd3_X4_init xd3_X4_init (Nat.le_of_ble_eq_true rfl) (by decide) (by decide) dX5_init_101 ?_
  refine y_aast (q := 1) (j := 7) (C := RX4) (T := TX4) (xTo_3 h0) (by first | exact Or.inl ⟨rfl, rfl⟩ | exact Or.inr ⟨rfl, rfl⟩) (by omega) (by omega) (xTo_t h0 7 (by decide)) (by decide) rfl (by decide) (by decide) dX5_init_104 ?_
  refine y_iinc (q := 0) (v := 8) (lv' := [(1, .int 8), (0, .ref (g.1 a))]) dX5_init_105 rfl (by decide) (by decide) rfl ?_
  refine y_goto (tgt := 86) dX5_init_108 (by decide) ?_
  refine y_iload_n (q := 0) rfl rfl dX5_init_86 ?_
  refine y_bipush (v := (10)) (by decide) dX5_init_87 ?_
  refine y_geF (tgt := 111) dX5_init_89 (by decide) (by decide) ?_
  refine y_aload_n (q := 1) rfl rfl dX5_init_92 ?_
  refine y_getR (b := (a + 3)) (C := RX5) (T := TX5) (xTo_o h0) (by omega) (by decide) rfl in_X5 2 (by decide) (by decide) fl_X5_20 (by simp [upr, upR] <;> omega) dX5_init_93 ?_
  refine y_iload_n (q := 0) rfl rfl dX5_init_96 ?_
  refine y_new (C := RX4) (T := TX4) tyX4 tyX4_ok (xTo_t h0 8 (by decide)) (by decide) rfl in_X4 nl_X5_18 (df_4 _) (by decide) (by decide) dX5_init_97 ?_
  refine y_dup rfl dX5_init_100 ?_
  refine y_call (a := (a + 13)) (y_X4_init _ _) (by have := xTo_le h0; omega) rfl (by decide) (by decide) yl_X5_43 cd3_X4_init xd3_X4_init (Nat.le_of_ble_eq_true rfl) (by decide) (by decide) dX5_init_101 ?_
  refine y_aast (q := 1) (j := 8) (C := RX4) (T := TX4) (xTo_3 h0) (by first | exact Or.inl ⟨rfl, rfl⟩ | exact Or.inr ⟨rfl, rfl⟩) (by omega) (by omega) (xTo_t h0 8 (by decide)) (by decide) rfl (by decide) (by decide) dX5_init_104 ?_
  refine y_iinc (q := 0) (v := 9) (lv' := [(1, .int 9), (0, .ref (g.1 a))]) dX5_init_105 rfl (by decide) (by decide) rfl ?_
  refine y_goto (tgt := 86) dX5_init_108 (by decide) ?_
  refine y_iload_n (q := 0) rfl rfl dX5_init_86 ?_
  refine y_bipush (v := (10)) (by decide) dX5_init_87 ?_
  refine y_geF (tgt := 111) dX5_init_89 (by decide) (by decide) ?_
  refine y_aload_n (q := 1) rfl rfl dX5_init_92 ?_
  refine y_getR (b := (a + 3)) (C := RX5) (T := TX5) (xTo_o h0) (by omega) (by decide) rfl in_X5 2 (by decide) (by decide) fl_X5_20 (by simp [upr, upR] <;> omega) dX5_init_93 ?_
  refine y_iload_n (q := 0) rfl rfl dX5_init_96 ?_
  refine y_new (C := RX4) (T := TX4) tyX4 tyX4_ok (xTo_t h0 9 (by decide)) (by decide) rfl in_X4 nl_X5_18 (df_4 _) (by decide) (by decide) dX5_init_97 ?_
  refine y_dup rfl dX5_init_100 ?_
  refine y_call (a := (a + 14)) (y_X4_init _ _) (by have := xTo_le h0; omega) rfl (by decide) (by decide) yl_X5_43 cd3_X4_init xd3_X4_init (Nat.le_of_ble_eq_true rfl) (by decide) (by decide) dX5_init_101 ?_
  refine y_aast (q := 1) (j := 9) (C := RX4) (T := TX4) (xTo_3 h0) (by first | exact Or.inl ⟨rfl, rfl⟩ | exact Or.inr ⟨rfl, rfl⟩) (by omega) (by omega) (xTo_t h0 9 (by decide)) (by decide) rfl (by decide) (by decide) dX5_init_104 ?_
  refine y_iinc (q := 0) (v := 10) (lv' := [(1, .int 10), (0, .ref (g.1 a))]) dX5_init_105 rfl (by decide) (by decide) rfl ?_
  refine y_goto (tgt := 86) dX5_init_108 (by decide) ?_
  refine y_iload_n (q := 0) rfl rfl dX5_init_86 ?_
  refine y_bipush (v := (10)) (by decide) dX5_init_87 ?_
  refine y_geT (tgt := 111) dX5_init_89 (by decide) (by decide) ?_
  refine y_iconst (v := (0)) (by decide) dX5_init_111 ?_
  refine y_istore_n (lv' := [(1, .int 0), (0, .ref (g.1 a))]) rfl dX5_init_112 (by decide) rfl ?_
  refine y_iload_n (q := 0) rfl rfl dX5_init_113 ?_
  refine y_bipush (v := (10)) (by decide) dX5_init_114 ?_
  refine y_geF (tgt := 132) dX5_init_116 (by decide) (by decide) ?_
  refine y_aload_n (q := 1) rfl rfl dX5_init_119 ?_
  refine y_getR (b := (a + 4)) (C := RX5) (T := TX5) (xTo_o h0) (by omega) (by decide) rfl in_X5 3 (by decide) (by decide) fl_X5_24 (by simp [upr, upR] <;> omega) dX5_init_120 ?_
  refine y_iload_n (q := 0) rfl rfl dX5_init_123 ?_
  refine y_iconst (v := (-1)) (by decide) dX5_init_124 ?_
  refine y_iast (j := 0) (xTo_4 h0) (by omega) (by decide) (by decide) dX5_init_125 ?_
  refine y_iinc (q := 0) (v := 1) (lv' := [(1, .int 1), (0, .ref (g.1 a))]) dX5_init_126 rfl (by decide) (by decide) rfl ?_
  refine y_goto (tgt := 113) dX5_init_129 (by decide) ?_
  refine y_iload_n (q := 0) rfl rfl dX5_init_113 ?_
  refine y_bipush (v := (10)) (by decide) dX5_init_114 ?_
  refine y_geF (tgt := 132) dX5_init_116 (by decide) (by decide) ?_
  refine y_aload_n (q := 1) rfl rfl dX5_init_119 ?_
  refine y_getR (b := (a + 4)) (C := RX5) (T := TX5) (xTo_o h0) (by omega) (by decide) rfl in_X5 3 (by decide) (by decide) fl_X5_24 (by simp [upr, upR] <;> omega) dX5_init_120 ?_
  refine y_iload_n (q := 0) rfl rfl dX5_init_123 ?_
  refine y_iconst (v := (-1)) (by decide) dX5_init_124 ?_
  refine y_iast (j := 1) (xTo_4 h0) (by omega) (by decide) (by decide) dX5_init_125 ?_
  refine y_iinc (q := 0) (v := 2) (lv' := [(1, .int 2), (0, .ref (g.1 a))]) dX5_init_126 rfl (by decide) (by decide) rfl ?_
  refine y_goto (tgt := 113) dX5_init_129 (by decide) ?_
  refine y_iload_n (q := 0) rfl rfl dX5_init_113 ?_
  refine y_bipush (v := (10)) (by decide) dX5_init_114 ?_
  refine y_geF (tgt := 132) dX5_init_116 (by decide) (by decide) ?_
  refine y_aload_n (q := 1) rfl rfl dX5_init_119 ?_
  refine y_getR (b := (a + 4)) (C := RX5) (T := TX5) (xTo_o h0) (by omega) (by decide) rfl in_X5 3 (by decide) (by decide) fl_X5_24 (by simp [upr, upR] <;> omega) dX5_init_120 ?_
  refine y_iload_n (q := 0) rfl rfl dX5_init_123 ?_
  refine y_iconst (v := (-1)) (by decide) dX5_init_124 ?_
  refine y_iast (j := 2) (xTo_4 h0) (by omega) (by decide) (by decide) dX5_init_125 ?_
  refine y_iinc (q := 0) (v := 3) (lv' := [(1, .int 3), (0, .ref (g.1 a))]) dX5_init_126 rfl (by decide) (by decide) rfl ?_
  refine y_goto (tgt := 113) dX5_init_129 (by decide) ?_
  refine y_iload_n (q := 0) rfl rfl dX5_init_113 ?_
  refine y_bipush (v := (10)) (by decide) dX5_init_114 ?_
  refine y_geF (tgt := 132) dX5_init_116 (by decide) (by decide) ?_
  refine y_aload_n (q := 1) rfl rfl dX5_init_119 ?_
  refine y_getR (b := (a + 4)) (C := RX5) (T := TX5) (xTo_o h0) (by omega) (by decide) rfl in_X5 3 (by decide) (by decide) fl_X5_24 (by simp [upr, upR] <;> omega) dX5_init_120 ?_
  refine y_iload_n (q := 0) rfl rfl dX5_init_123 ?_
  refine y_iconst (v := (-1)) (by decide) dX5_init_124 ?_
  refine y_iast (j := 3) (xTo_4 h0) (by omega) (by decide) (by decide) dX5_init_125 ?_
  refine y_iinc (q := 0) (v := 4) (lv' := [(1, .int 4), (0, .ref (g.1 a))]) dX5_init_126 rfl (by decide) (by decide) rfl ?_
  refine y_goto (tgt := 113) dX5_init_129 (by decide) ?_
  refine y_iload_n (q := 0) rfl rfl dX5_init_113 ?_
  refine y_bipush (v := (10)) (by decide) dX5_init_114 ?_
  refine y_geF (tgt := 132) dX5_init_116 (by decide) (by decide) ?_
  refine y_aload_n (q := 1) rfl rfl dX5_init_119 ?_
  refine y_getR (b := (a + 4)) (C := RX5) (T := TX5) (xTo_o h0) (by omega) (by decide) rfl in_X5 3 (by decide) (by decide) fl_X5_24 (by simp [upr, upR] <;> omega) dX5_init_120 ?_
  refine y_iload_n (q := 0) rfl rfl dX5_init_123 ?_
  refine y_iconst (v := (-1)) (by decide) dX5_init_124 ?_
  refine y_iast (j := 4) (xTo_4 h0) (by omega) (by decide) (by decide) dX5_init_125 ?_
  refine y_iinc (q := 0) (v := 5) (lv' := [(1, .int 5), (0, .ref (g.1 a))]) dX5_init_126 rfl (by decide) (by decide) rfl ?_
  refine y_goto (tgt := 113) dX5_init_129 (by decide) ?_
  refine y_iload_n (q := 0) rfl rfl dX5_init_113 ?_
  refine y_bipush (v := (10)) (by decide) dX5_init_114 ?_
  refine y_geF (tgt := 132) dX5_init_116 (by decide) (by decide) ?_
  refine y_aload_n (q := 1) rfl rfl dX5_init_119 ?_
  refine y_getR (b := (a + 4)) (C := RX5) (T := TX5) (xTo_o h0) (by omega) (by decide) rfl in_X5 3 (by decide) (by decide) fl_X5_24 (by simp [upr, upR] <;> omega) dX5_init_120 ?_
  refine y_iload_n (q := 0) rfl rfl dX5_init_123 ?_
  refine y_iconst (v := (-1)) (by decide) dX5_init_124 ?_
  refine y_iast (j := 5) (xTo_4 h0) (by omega) (by decide) (by decide) dX5_init_125 ?_
  refine y_iinc (q := 0) (v := 6) (lv' := [(1, .int 6), (0, .ref (g.1 a))]) dX5_init_126 rfl (by decide) (by decide) rfl ?_
  refine y_goto (tgt := 113) dX5_init_129 (by decide) ?_
  refine y_iload_n (q := 0) rfl rfl dX5_init_113 ?_
  refine y_bipush (v := (10)) (by decide) dX5_init_114 ?_
  refine y_geF (tgt := 132) dX5_init_116 (by decide) (by decide) ?_
  refine y_aload_n (q := 1) rfl rfl dX5_init_119 ?_
  refine y_getR (b := (a + 4)) (C := RX5) (T := TX5) (xTo_o h0) (by omega) (by decide) rfl in_X5 3 (by decide) (by decide) fl_X5_24 (by simp [upr, upR] <;> omega) dX5_init_120 ?_
  refine y_iload_n (q := 0) rfl rfl dX5_init_123 ?_
  refine y_iconst (v := (-1)) (by decide) dX5_init_124 ?_
  refine y_iast (j := 6) (xTo_4 h0) (by omega) (by decide) (by decide) dX5_init_125 ?_
  refine y_iinc (q := 0) (v := 7) (lv' := [(1, .int 7), (0, .ref (g.1 a))]) dX5_init_126 rfl (by decide) (by decide) rfl ?_
  refine y_goto (tgt := 113) dX5_init_129 (by decide) ?_
  refine y_iload_n (q := 0) rfl rfl dX5_init_113 ?_
  refine y_bipush (v := (10)) (by decide) dX5_init_114 ?_
  refine y_geF (tgt := 132) dX5_init_116 (by decide) (by decide) ?_
  refine y_aload_n (q := 1) rfl rfl dX5_init_119 ?_
  refine y_getR (b := (a + 4)) (C := RX5) (T := TX5) (xTo_o h0) (by omega) (by decide) rfl in_X5 3 (by decide) (by decide) fl_X5_24 (by simp [upr, upR] <;> omega) dX5_init_120 ?_
  refine y_iload_n (q := 0) rfl rfl dX5_init_123 ?_
  refine y_iconst (v := (-1)) (by decide) dX5_init_124 ?_
  refine y_iast (j := 7) (xTo_4 h0) (by omega) (by decide) (by decide) dX5_init_125 ?_
  refine y_iinc (q := 0) (v := 8) (lv' := [(1, .int 8), (0, .ref (g.1 a))]) dX5_init_126 rfl (by decide) (by decide) rfl ?_
  refine y_goto (tgt := 113) dX5_init_129 (by decide) ?_
  refine y_iload_n (q := 0) rfl rfl dX5_init_113 ?_
  refine y_bipush (v := (10)) (by decide) dX5_init_114 ?_
  refine y_geF (tgt := 132) dX5_init_116 (by decide) (by decide) ?_
  refine y_aload_n (q := 1) rfl rfl dX5_init_119 ?_
  refine y_getR (b := (a + 4)) (C := RX5) (T := TX5) (xTo_o h0) (by omega) (by decide) rfl in_X5 3 (by decide) (by decide) fl_X5_24 (by simp [upr, upR] <;> omega) dX5_init_120 ?_
  refine y_iload_n (q := 0) rfl rfl dX5_init_123 ?_
  refine y_iconst (v := (-1)) (by decide) dX5_init_124 ?_
  refine y_iast (j := 8) (xTo_4 h0) (by omega) (by decide) (by decide) dX5_init_125 ?_
  refine y_iinc (q := 0) (v := 9) (lv' := [(1, .int 9), (0, .ref (g.1 a))]) dX5_init_126 rfl (by decide) (by decide) rfl ?_
  refine y_goto (tgt := 113) dX5_init_129 (by decide) ?_
  refine y_iload_n (q := 0) rfl rfl dX5_init_113 ?_
  refine y_bipush (v := (10)) (by decide) dX5_init_114 ?_
  refine y_geF (tgt := 132) dX5_init_116 (by decide) (by decide) ?_
  refine y_aload_n (q := 1) rfl rfl dX5_init_119 ?_
  refine y_getR (b := (a + 4)) (C := RX5) (T := TX5) (xTo_o h0) (by omega) (by decide) rfl in_X5 3 (by decide) (by decide) fl_X5_24 (by simp [upr, upR] <;> omega) dX5_init_120 ?_
  refine y_iload_n (q := 0) rfl rfl dX5_init_123 ?_
  refine y_iconst (v := (-1)) (by decide) dX5_init_124 ?_
  refine y_iast (j := 9) (xTo_4 h0) (by omega) (by decide) (by decide) dX5_init_125 ?_
  refine y_iinc (q := 0) (v := 10) (lv' := [(1, .int 10), (0, .ref (g.1 a))]) dX5_init_126 rfl (by decide) (by decide) rfl ?_
  refine y_goto (tgt := 113) dX5_init_129 (by decide) ?_
  refine y_iload_n (q := 0) rfl rfl dX5_init_113 ?_
  refine y_bipush (v := (10)) (by decide) dX5_init_114 ?_
  refine y_geT (tgt := 132) dX5_init_116 (by decide) (by decide) ?_
  exact y_ret rfl (by decide) (by decide) dX5_init_132
def cI_X7 (im : IM) : IM := up (up (up (up (up (up (up (up (up (up (up (up (up (up (up (up (up (up (up (up (up (up (up (up (up (up (up (up (up (up (up (up (up (up (up (up (up (up (up (up (up (up (up (upA (upA (upA (upA (upA (upA (upA (upA (upA (upA (upA (im) 83 (fun _ => 0)) 84 (fun _ => 0)) 85 (fun _ => 0)) 86 (fun _ => 0)) 87 (fun _ => 0)) 88 (fun _ => 0)) 89 (fun _ => 0)) 90 (fun _ => 0)) 91 (fun _ => 0)) 92 (fun _ => 0)) 93 (fun _ => 0)) 83 3 14) 83 4 1) 83 5 2) 83 6 2) 83 7 2) 83 8 2) 83 9 2) 83 10 2) 83 11 2) 83 12 2) 83 13 2) 83 14 2) 83 15 2) 83 16 2) 83 17 2) 83 18 2) 83 19 2) 83 20 2) 83 21 2) 83 22 2) 83 23 2) 83 24 2) 83 25 2) 83 26 2) 83 27 2) 83 28 2) 83 29 2) 83 30 2) 83 31 2) 83 32 2) 83 33 2) 83 34 2) 83 35 2) 83 157 (-1)) 83 158 (-1)) 83 159 (-1)) 83 160 (-1)) 83 161 (-1)) 83 162 (-1)) 83 163 (-1)) 83 164 (-1)) 83 165 (-1)) 83 166 (-1)
def cR_X7 (rm : RM) : RM := upr (upR (upr (upR (upr (upR (upr (upR (upr (upR (upr (upR (upr (upR (upr (upR (upr (upR (upr (upR (upr (upR (rm) 83 (fun _ => none)) 82 0 (some 83)) 84 (fun _ => none)) 82 1 (some 84)) 85 (fun _ => none)) 82 2 (some 85)) 86 (fun _ => none)) 82 3 (some 86)) 87 (fun _ => none)) 82 12 (some 87)) 88 (fun _ => none)) 82 13 (some 88)) 89 (fun _ => none)) 82 15 (some 89)) 90 (fun _ => none)) 82 23 (some 90)) 91 (fun _ => none)) 82 24 (some 91)) 92 (fun _ => none)) 82 25 (some 92)) 93 (fun _ => none)) 82 26 (some 93)
set_option maxRecDepth 100000 in
set_option maxHeartbeats 40000000 in
theorem y_X7_init {g : GX} (im : IM) (rm : RM) : yMet g 1 yX7_init cX7_init 2 11 1870 82 (83, im, rm) (94, cI_X7 im, cR_X7 rm) := by
  refine y_met (by decide) rfl (by decide) ?_
  refine y_aload_n (q := 0) rfl rfl dX7_init_0 ?_
  refine y_obj ol_X7_1 (by decide) (Nat.le_of_ble_eq_true rfl) dX7_init_1 ?_
  refine y_aload_n (q := 0) rfl rfl dX7_init_4 ?_
  refine y_sipush (v := (167)) (by decide) dX7_init_5 ?_
  refine y_newI sh_83 (by decide) (by decide) (by decide) (by decide) (by decide) dX7_init_8 ?_
  refine y_putR (C := RX7) (T := TX7) (ty := .array .int) tyX7 tyX7_ok nmX7 sh_82 (by omega) (by decide) rfl in_X7 0 (by decide) (by decide) fl_X7_7 rfl (by decide +kernel) (fun _ => rfl) (fun _ => rfl) dX7_init_10 ?_
  refine y_aload_n (q := 0) rfl rfl dX7_init_13 ?_
  refine y_sipush (v := (167)) (by decide) dX7_init_14 ?_
  refine y_newI sh_84 (by decide) (by decide) (by decide) (by decide) (by decide) dX7_init_17 ?_
  refine y_putR (C := RX7) (T := TX7) (ty := .array .int) tyX7 tyX7_ok nmX7 sh_82 (by omega) (by decide) rfl in_X7 1 (by decide) (by decide) fl_X7_13 rfl (by decide +kernel) (fun _ => rfl) (fun _ => rfl) dX7_init_19 ?_
  refine y_aload_n (q := 0) rfl rfl dX7_init_22 ?_
  refine y_sipush (v := (167)) (by decide) dX7_init_23 ?_
  refine y_newI sh_85 (by decide) (by decide) (by decide) (by decide) (by decide) dX7_init_26 ?_
  refine y_putR (C := RX7) (T := TX7) (ty := .array .int) tyX7 tyX7_ok nmX7 sh_82 (by omega) (by decide) rfl in_X7 2 (by decide) (by decide) fl_X7_16 rfl (by decide +kernel) (fun _ => rfl) (fun _ => rfl) dX7_init_28 ?_
  refine y_aload_n (q := 0) rfl rfl dX7_init_31 ?_
  refine y_bipush (v := (7)) (by decide) dX7_init_32 ?_
  refine y_newI sh_86 (by decide) (by decide) (by decide) (by decide) (by decide) dX7_init_34 ?_
  refine y_putR (C := RX7) (T := TX7) (ty := .array .int) tyX7 tyX7_ok nmX7 sh_82 (by omega) (by decide) rfl in_X7 3 (by decide) (by decide) fl_X7_19 rfl (by decide +kernel) (fun _ => rfl) (fun _ => rfl) dX7_init_36 ?_
  refine y_aload_n (q := 0) rfl rfl dX7_init_39 ?_
  refine y_sipush (v := (1024)) (by decide) dX7_init_40 ?_
  refine y_newI sh_87 (by decide) (by decide) (by decide) (by decide) (by decide) dX7_init_43 ?_
  refine y_putR (C := RX7) (T := TX7) (ty := .array .int) tyX7 tyX7_ok nmX7 sh_82 (by omega) (by decide) rfl in_X7 12 (by decide) (by decide) fl_X7_22 rfl (by decide +kernel) (fun _ => rfl) (fun _ => rfl) dX7_init_45 ?_
  refine y_aload_n (q := 0) rfl rfl dX7_init_48 ?_
  refine y_bipush (v := (10)) (by decide) dX7_init_49 ?_
  refine y_newI sh_88 (by decide) (by decide) (by decide) (by decide) (by decide) dX7_init_51 ?_
  refine y_putR (C := RX7) (T := TX7) (ty := .array .int) tyX7 tyX7_ok nmX7 sh_82 (by omega) (by decide) rfl in_X7 13 (by decide) (by decide) fl_X7_25 rfl (by decide +kernel) (fun _ => rfl) (fun _ => rfl) dX7_init_53 ?_
  refine y_aload_n (q := 0) rfl rfl dX7_init_56 ?_
  refine y_bipush (v := (120)) (by decide) dX7_init_57 ?_
  refine y_newI sh_89 (by decide) (by decide) (by decide) (by decide) (by decide) dX7_init_59 ?_
  refine y_putR (C := RX7) (T := TX7) (ty := .array .int) tyX7 tyX7_ok nmX7 sh_82 (by omega) (by decide) rfl in_X7 15 (by decide) (by decide) fl_X7_28 rfl (by decide +kernel) (fun _ => rfl) (fun _ => rfl) dX7_init_61 ?_
  refine y_aload_n (q := 0) rfl rfl dX7_init_64 ?_
  refine y_iconst (v := (4)) (by decide) dX7_init_65 ?_
  refine y_newI sh_90 (by decide) (by decide) (by decide) (by decide) (by decide) dX7_init_66 ?_
  refine y_putR (C := RX7) (T := TX7) (ty := .array .int) tyX7 tyX7_ok nmX7 sh_82 (by omega) (by decide) rfl in_X7 23 (by decide) (by decide) fl_X7_31 rfl (by decide +kernel) (fun _ => rfl) (fun _ => rfl) dX7_init_68 ?_
  refine y_aload_n (q := 0) rfl rfl dX7_init_71 ?_
  refine y_iconst (v := (4)) (by decide) dX7_init_72 ?_
  refine y_newI sh_91 (by decide) (by decide) (by decide) (by decide) (by decide) dX7_init_73 ?_
  refine y_putR (C := RX7) (T := TX7) (ty := .array .int) tyX7 tyX7_ok nmX7 sh_82 (by omega) (by decide) rfl in_X7 24 (by decide) (by decide) fl_X7_34 rfl (by decide +kernel) (fun _ => rfl) (fun _ => rfl) dX7_init_75 ?_
  refine y_aload_n (q := 0) rfl rfl dX7_init_78 ?_
  refine y_sipush (v := (160)) (by decide) dX7_init_79 ?_
  refine y_newI sh_92 (by decide) (by decide) (by decide) (by decide) (by decide) dX7_init_82 ?_
  refine y_putR (C := RX7) (T := TX7) (ty := .array .int) tyX7 tyX7_ok nmX7 sh_82 (by omega) (by decide) rfl in_X7 25 (by decide) (by decide) fl_X7_37 rfl (by decide +kernel) (fun _ => rfl) (fun _ => rfl) dX7_init_84 ?_
  refine y_aload_n (q := 0) rfl rfl dX7_init_87 ?_
  refine y_bipush (v := (40)) (by decide) dX7_init_88 ?_
  refine y_newI sh_93 (by decide) (by decide) (by decide) (by decide) (by decide) dX7_init_90 ?_
  refine y_putR (C := RX7) (T := TX7) (ty := .array .int) tyX7 tyX7_ok nmX7 sh_82 (by omega) (by decide) rfl in_X7 26 (by decide) (by decide) fl_X7_40 rfl (by decide +kernel) (fun _ => rfl) (fun _ => rfl) dX7_init_92 ?_
  refine y_aload_n (q := 0) rfl rfl dX7_init_95 ?_
  refine y_getR (b := 83) (C := RX7) (T := TX7) sh_82 (by omega) (by decide) rfl in_X7 0 (by decide) (by decide) fl_X7_7 (by simp [upr, upR] <;> omega) dX7_init_96 ?_
  refine y_iconst (v := (3)) (by decide) dX7_init_99 ?_
  refine y_bipush (v := (14)) (by decide) dX7_init_100 ?_
  refine y_iast (j := 3) sh_83 (by omega) (by decide) (by decide) dX7_init_102 ?_
  refine y_aload_n (q := 0) rfl rfl dX7_init_103 ?_
  refine y_getR (b := 83) (C := RX7) (T := TX7) sh_82 (by omega) (by decide) rfl in_X7 0 (by decide) (by decide) fl_X7_7 (by simp [upr, upR] <;> omega) dX7_init_104 ?_
  refine y_iconst (v := (4)) (by decide) dX7_init_107 ?_
  refine y_iconst (v := (1)) (by decide) dX7_init_108 ?_
  refine y_iast (j := 4) sh_83 (by omega) (by decide) (by decide) dX7_init_109 ?_
  refine y_iconst (v := (0)) (by decide) dX7_init_110 ?_
  refine y_istore_n (lv' := [(1, .int 0), (0, .ref (g.1 82))]) rfl dX7_init_111 (by decide) rfl ?_
  refine y_iload_n (q := 0) rfl rfl dX7_init_112 ?_
  refine y_bipush (v := (31)) (by decide) dX7_init_113 ?_
  refine y_geF (tgt := 133) dX7_init_115 (by decide) (by decide) ?_
  refine y_aload_n (q := 1) rfl rfl dX7_init_118 ?_
  refine y_getR (b := 83) (C := RX7) (T := TX7) sh_82 (by omega) (by decide) rfl in_X7 0 (by decide) (by decide) fl_X7_7 (by simp [upr, upR] <;> omega) dX7_init_119 ?_
  refine y_iconst (v := (5)) (by decide) dX7_init_122 ?_
  refine y_iload_n (q := 0) rfl rfl dX7_init_123 ?_
  refine y_iadd (v := 5) (by decide) dX7_init_124 ?_
  refine y_iconst (v := (2)) (by decide) dX7_init_125 ?_
  refine y_iast (j := 5) sh_83 (by omega) (by decide) (by decide) dX7_init_126 ?_
  refine y_iinc (q := 0) (v := 1) (lv' := [(1, .int 1), (0, .ref (g.1 82))]) dX7_init_127 rfl (by decide) (by decide) rfl ?_
  refine y_goto (tgt := 112) dX7_init_130 (by decide) ?_
  refine y_iload_n (q := 0) rfl rfl dX7_init_112 ?_
  refine y_bipush (v := (31)) (by decide) dX7_init_113 ?_
  refine y_geF (tgt := 133) dX7_init_115 (by decide) (by decide) ?_
  refine y_aload_n (q := 1) rfl rfl dX7_init_118 ?_
  refine y_getR (b := 83) (C := RX7) (T := TX7) sh_82 (by omega) (by decide) rfl in_X7 0 (by decide) (by decide) fl_X7_7 (by simp [upr, upR] <;> omega) dX7_init_119 ?_
  refine y_iconst (v := (5)) (by decide) dX7_init_122 ?_
  refine y_iload_n (q := 0) rfl rfl dX7_init_123 ?_
  refine y_iadd (v := 6) (by decide) dX7_init_124 ?_
  refine y_iconst (v := (2)) (by decide) dX7_init_125 ?_
  refine y_iast (j := 6) sh_83 (by omega) (by decide) (by decide) dX7_init_126 ?_
  refine y_iinc (q := 0) (v := 2) (lv' := [(1, .int 2), (0, .ref (g.1 82))]) dX7_init_127 rfl (by decide) (by decide) rfl ?_
  refine y_goto (tgt := 112) dX7_init_130 (by decide) ?_
  refine y_iload_n (q := 0) rfl rfl dX7_init_112 ?_
  refine y_bipush (v := (31)) (by decide) dX7_init_113 ?_
  refine y_geF (tgt := 133) dX7_init_115 (by decide) (by decide) ?_
  refine y_aload_n (q := 1) rfl rfl dX7_init_118 ?_
  refine y_getR (b := 83) (C := RX7) (T := TX7) sh_82 (by omega) (by decide) rfl in_X7 0 (by decide) (by decide) fl_X7_7 (by simp [upr, upR] <;> omega) dX7_init_119 ?_
  refine y_iconst (v := (5)) (by decide) dX7_init_122 ?_
  refine y_iload_n (q := 0) rfl rfl dX7_init_123 ?_
  refine y_iadd (v := 7) (by decide) dX7_init_124 ?_
  refine y_iconst (v := (2)) (by decide) dX7_init_125 ?_
  refine y_iast (j := 7) sh_83 (by omega) (by decide) (by decide) dX7_init_126 ?_
  refine y_iinc (q := 0) (v := 3) (lv' := [(1, .int 3), (0, .ref (g.1 82))]) dX7_init_127 rfl (by decide) (by decide) rfl ?_
  refine y_goto (tgt := 112) dX7_init_130 (by decide) ?_
  refine y_iload_n (q := 0) rfl rfl dX7_init_112 ?_
  refine y_bipush (v := (31)) (by decide) dX7_init_113 ?_
  refine y_geF (tgt := 133) dX7_init_115 (by decide) (by decide) ?_
  refine y_aload_n (q := 1) rfl rfl dX7_init_118 ?_
  refine y_getR (b := 83) (C := RX7) (T := TX7) sh_82 (by omega) (by decide) rfl in_X7 0 (by decide) (by decide) fl_X7_7 (by simp [upr, upR] <;> omega) dX7_init_119 ?_
  refine y_iconst (v := (5)) (by decide) dX7_init_122 ?_
  refine y_iload_n (q := 0) rfl rfl dX7_init_123 ?_
  refine y_iadd (v := 8) (by decide) dX7_init_124 ?_
  refine y_iconst (v := (2)) (by decide) dX7_init_125 ?_
  refine y_iast (j := 8) sh_83 (by omega) (by decide) (by decide) dX7_init_126 ?_
  refine y_iinc (q := 0) (v := 4) (lv' := [(1, .int 4), (0, .ref (g.1 82))]) dX7_init_127 rfl (by decide) (by decide) rfl ?_
  refine y_goto (tgt := 112) dX7_init_130 (by decide) ?_
  refine y_iload_n (q := 0) rfl rfl dX7_init_112 ?_
  refine y_bipush (v := (31)) (by decide) dX7_init_113 ?_
  refine y_geF (tgt := 133) dX7_init_115 (by decide) (by decide) ?_
  refine y_aload_n (q := 1) rfl rfl dX7_init_118 ?_
  refine y_getR (b := 83) (C := RX7) (T := TX7) sh_82 (by omega) (by decide) rfl in_X7 0 (by decide) (by decide) fl_X7_7 (by simp [upr, upR] <;> omega) dX7_init_119 ?_
  refine y_iconst (v := (5)) (by decide) dX7_init_122 ?_
  refine y_iload_n (q := 0) rfl rfl dX7_init_123 ?_
  refine y_iadd (v := 9) (by decide) dX7_init_124 ?_
  refine y_iconst (v := (2)) (by decide) dX7_init_125 ?_
  refine y_iast (j := 9) sh_83 (by omega) (by decide) (by decide) dX7_init_126 ?_
  refine y_iinc (q := 0) (v := 5) (lv' := [(1, .int 5), (0, .ref (g.1 82))]) dX7_init_127 rfl (by decide) (by decide) rfl ?_
  refine y_goto (tgt := 112) dX7_init_130 (by decide) ?_
  refine y_iload_n (q := 0) rfl rfl dX7_init_112 ?_
  refine y_bipush (v := (31)) (by decide) dX7_init_113 ?_
  refine y_geF (tgt := 133) dX7_init_115 (by decide) (by decide) ?_
  refine y_aload_n (q := 1) rfl rfl dX7_init_118 ?_
  refine y_getR (b := 83) (C := RX7) (T := TX7) sh_82 (by omega) (by decide) rfl in_X7 0 (by decide) (by decide) fl_X7_7 (by simp [upr, upR] <;> omega) dX7_init_119 ?_
  refine y_iconst (v := (5)) (by decide) dX7_init_122 ?_
  refine y_iload_n (q := 0) rfl rfl dX7_init_123 ?_
  refine y_iadd (v := 10) (by decide) dX7_init_124 ?_
  refine y_iconst (v := (2)) (by decide) dX7_init_125 ?_
  refine y_iast (j := 10) sh_83 (by omega) (by decide) (by decide) dX7_init_126 ?_
  refine y_iinc (q := 0) (v := 6) (lv' := [(1, .int 6), (0, .ref (g.1 82))]) dX7_init_127 rfl (by decide) (by decide) rfl ?_
  refine y_goto (tgt := 112) dX7_init_130 (by decide) ?_
  refine y_iload_n (q := 0) rfl rfl dX7_init_112 ?_
  refine y_bipush (v := (31)) (by decide) dX7_init_113 ?_
  refine y_geF (tgt := 133) dX7_init_115 (by decide) (by decide) ?_
  refine y_aload_n (q := 1) rfl rfl dX7_init_118 ?_
  refine y_getR (b := 83) (C := RX7) (T := TX7) sh_82 (by omega) (by decide) rfl in_X7 0 (by decide) (by decide) fl_X7_7 (by simp [upr, upR] <;> omega) dX7_init_119 ?_
  refine y_iconst (v := (5)) (by decide) dX7_init_122 ?_
  refine y_iload_n (q := 0) rfl rfl dX7_init_123 ?_
  refine y_iadd (v := 11) (by decide) dX7_init_124 ?_
  refine y_iconst (v := (2)) (by decide) dX7_init_125 ?_
  refine y_iast (j := 11) sh_83 (by omega) (by decide) (by decide) dX7_init_126 ?_
  refine y_iinc (q := 0) (v := 7) (lv' := [(1, .int 7), (0, .ref (g.1 82))]) dX7_init_127 rfl (by decide) (by decide) rfl ?_
  refine y_goto (tgt := 112) dX7_init_130 (by decide) ?_
  refine y_iload_n (q := 0) rfl rfl dX7_init_112 ?_
  refine y_bipush (v := (31)) (by decide) dX7_init_113 ?_
  refine y_geF (tgt := 133) dX7_init_115 (by decide) (by decide) ?_
  refine y_aload_n (q := 1) rfl rfl dX7_init_118 ?_
  refine y_getR (b := 83) (C := RX7) (T := TX7) sh_82 (by omega) (by decide) rfl in_X7 0 (by decide) (by decide) fl_X7_7 (by simp [upr, upR] <;> omega) dX7_init_119 ?_
  refine y_iconst (v := (5)) (by decide) dX7_init_122 ?_
  refine y_iload_n (q := 0) rfl rfl dX7_init_123 ?_
  refine y_iadd (v := 12) (by decide) dX7_init_124 ?_
  refine y_iconst (v := (2)) (by decide) dX7_init_125 ?_
  refine y_iast (j := 12) sh_83 (by omega) (by decide) (by decide) dX7_init_126 ?_
  refine y_iinc (q := 0) (v := 8) (lv' := [(1, .int 8), (0, .ref (g.1 82))]) dX7_init_127 rfl (by decide) (by decide) rfl ?_
  refine y_goto (tgt := 112) dX7_init_130 (by decide) ?_
  refine y_iload_n (q := 0) rfl rfl dX7_init_112 ?_
  refine y_bipush (v := (31)) (by decide) dX7_init_113 ?_
  refine y_geF (tgt := 133) dX7_init_115 (by decide) (by decide) ?_
  refine y_aload_n (q := 1) rfl rfl dX7_init_118 ?_
  refine y_getR (b := 83) (C := RX7) (T := TX7) sh_82 (by omega) (by decide) rfl in_X7 0 (by decide) (by decide) fl_X7_7 (by simp [upr, upR] <;> omega) dX7_init_119 ?_
  refine y_iconst (v := (5)) (by decide) dX7_init_122 ?_
  refine y_iload_n (q := 0) rfl rfl dX7_init_123 ?_
  refine y_iadd (v := 13) (by decide) dX7_init_124 ?_
  refine y_iconst (v := (2)) (by decide) dX7_init_125 ?_
  refine y_iast (j := 13) sh_83 (by omega) (by decide) (by decide) dX7_init_126 ?_
  refine y_iinc (q := 0) (v := 9) (lv' := [(1, .int 9), (0, .ref (g.1 82))]) dX7_init_127 rfl (by decide) (by decide) rfl ?_
  refine y_goto (tgt := 112) dX7_init_130 (by decide) ?_
  refine y_iload_n (q := 0) rfl rfl dX7_init_112 ?_
  refine y_bipush (v := (31)) (by decide) dX7_init_113 ?_
  refine y_geF (tgt := 133) dX7_init_115 (by decide) (by decide) ?_
  refine y_aload_n (q := 1) rfl rfl dX7_init_118 ?_
  refine y_getR (b := 83) (C := RX7) (T := TX7) sh_82 (by omega) (by decide) rfl in_X7 0 (by decide) (by decide) fl_X7_7 (by simp [upr, upR] <;> omega) dX7_init_119 ?_
  refine y_iconst (v := (5)) (by decide) dX7_init_122 ?_
  refine y_iload_n (q := 0) rfl rfl dX7_init_123 ?_
  refine y_iadd (v := 14) (by decide) dX7_init_124 ?_
  refine y_iconst (v := (2)) (by decide) dX7_init_125 ?_
  refine y_iast (j := 14) sh_83 (by omega) (by decide) (by decide) dX7_init_126 ?_
  refine y_iinc (q := 0) (v := 10) (lv' := [(1, .int 10), (0, .ref (g.1 82))]) dX7_init_127 rfl (by decide) (by decide) rfl ?_
  refine y_goto (tgt := 112) dX7_init_130 (by decide) ?_
  refine y_iload_n (q := 0) rfl rfl dX7_init_112 ?_
  refine y_bipush (v := (31)) (by decide) dX7_init_113 ?_
  refine y_geF (tgt := 133) dX7_init_115 (by decide) (by decide) ?_
  refine y_aload_n (q := 1) rfl rfl dX7_init_118 ?_
  refine y_getR (b := 83) (C := RX7) (T := TX7) sh_82 (by omega) (by decide) rfl in_X7 0 (by decide) (by decide) fl_X7_7 (by simp [upr, upR] <;> omega) dX7_init_119 ?_
  refine y_iconst (v := (5)) (by decide) dX7_init_122 ?_
  refine y_iload_n (q := 0) rfl rfl dX7_init_123 ?_
  refine y_iadd (v := 15) (by decide) dX7_init_124 ?_
  refine y_iconst (v := (2)) (by decide) dX7_init_125 ?_
  refine y_iast (j := 15) sh_83 (by omega) (by decide) (by decide) dX7_init_126 ?_
  refine y_iinc (q := 0) (v := 11) (lv' := [(1, .int 11), (0, .ref (g.1 82))]) dX7_init_127 rfl (by decide) (by decide) rfl ?_
  refine y_goto (tgt := 112) dX7_init_130 (by decide) ?_
  refine y_iload_n (q := 0) rfl rfl dX7_init_112 ?_
  refine y_bipush (v := (31)) (by decide) dX7_init_113 ?_
  refine y_geF (tgt := 133) dX7_init_115 (by decide) (by decide) ?_
  refine y_aload_n (q := 1) rfl rfl dX7_init_118 ?_
  refine y_getR (b := 83) (C := RX7) (T := TX7) sh_82 (by omega) (by decide) rfl in_X7 0 (by decide) (by decide) fl_X7_7 (by simp [upr, upR] <;> omega) dX7_init_119 ?_
  refine y_iconst (v := (5)) (by decide) dX7_init_122 ?_
  refine y_iload_n (q := 0) rfl rfl dX7_init_123 ?_
  refine y_iadd (v := 16) (by decide) dX7_init_124 ?_
  refine y_iconst (v := (2)) (by decide) dX7_init_125 ?_
  refine y_iast (j := 16) sh_83 (by omega) (by decide) (by decide) dX7_init_126 ?_
  refine y_iinc (q := 0) (v := 12) (lv' := [(1, .int 12), (0, .ref (g.1 82))]) dX7_init_127 rfl (by decide) (by decide) rfl ?_
  refine y_goto (tgt := 112) dX7_init_130 (by decide) ?_
  refine y_iload_n (q := 0) rfl rfl dX7_init_112 ?_
  refine y_bipush (v := (31)) (by decide) dX7_init_113 ?_
  refine y_geF (tgt := 133) dX7_init_115 (by decide) (by decide) ?_
  refine y_aload_n (q := 1) rfl rfl dX7_init_118 ?_
  refine y_getR (b := 83) (C := RX7) (T := TX7) sh_82 (by omega) (by decide) rfl in_X7 0 (by decide) (by decide) fl_X7_7 (by simp [upr, upR] <;> omega) dX7_init_119 ?_
  refine y_iconst (v := (5)) (by decide) dX7_init_122 ?_
  refine y_iload_n (q := 0) rfl rfl dX7_init_123 ?_
  refine y_iadd (v := 17) (by decide) dX7_init_124 ?_
  refine y_iconst (v := (2)) (by decide) dX7_init_125 ?_
  refine y_iast (j := 17) sh_83 (by omega) (by decide) (by decide) dX7_init_126 ?_
  refine y_iinc (q := 0) (v := 13) (lv' := [(1, .int 13), (0, .ref (g.1 82))]) dX7_init_127 rfl (by decide) (by decide) rfl ?_
  refine y_goto (tgt := 112) dX7_init_130 (by decide) ?_
  refine y_iload_n (q := 0) rfl rfl dX7_init_112 ?_
  refine y_bipush (v := (31)) (by decide) dX7_init_113 ?_
  refine y_geF (tgt := 133) dX7_init_115 (by decide) (by decide) ?_
  refine y_aload_n (q := 1) rfl rfl dX7_init_118 ?_
  refine y_getR (b := 83) (C := RX7) (T := TX7) sh_82 (by omega) (by decide) rfl in_X7 0 (by decide) (by decide) fl_X7_7 (by simp [upr, upR] <;> omega) dX7_init_119 ?_
  refine y_iconst (v := (5)) (by decide) dX7_init_122 ?_
  refine y_iload_n (q := 0) rfl rfl dX7_init_123 ?_
  refine y_iadd (v := 18) (by decide) dX7_init_124 ?_
  refine y_iconst (v := (2)) (by decide) dX7_init_125 ?_
  refine y_iast (j := 18) sh_83 (by omega) (by decide) (by decide) dX7_init_126 ?_
  refine y_iinc (q := 0) (v := 14) (lv' := [(1, .int 14), (0, .ref (g.1 82))]) dX7_init_127 rfl (by decide) (by decide) rfl ?_
  refine y_goto (tgt := 112) dX7_init_130 (by decide) ?_
  refine y_iload_n (q := 0) rfl rfl dX7_init_112 ?_
  refine y_bipush (v := (31)) (by decide) dX7_init_113 ?_
  refine y_geF (tgt := 133) dX7_init_115 (by decide) (by decide) ?_
  refine y_aload_n (q := 1) rfl rfl dX7_init_118 ?_
  refine y_getR (b := 83) (C := RX7) (T := TX7) sh_82 (by omega) (by decide) rfl in_X7 0 (by decide) (by decide) fl_X7_7 (by simp [upr, upR] <;> omega) dX7_init_119 ?_
  refine y_iconst (v := (5)) (by decide) dX7_init_122 ?_
  refine y_iload_n (q := 0) rfl rfl dX7_init_123 ?_
  refine y_iadd (v := 19) (by decide) dX7_init_124 ?_
  refine y_iconst (v := (2)) (by decide) dX7_init_125 ?_
  refine y_iast (j := 19) sh_83 (by omega) (by decide) (by decide) dX7_init_126 ?_
  refine y_iinc (q := 0) (v := 15) (lv' := [(1, .int 15), (0, .ref (g.1 82))]) dX7_init_127 rfl (by decide) (by decide) rfl ?_
  refine y_goto (tgt := 112) dX7_init_130 (by decide) ?_
  refine y_iload_n (q := 0) rfl rfl dX7_init_112 ?_
  refine y_bipush (v := (31)) (by decide) dX7_init_113 ?_
  refine y_geF (tgt := 133) dX7_init_115 (by decide) (by decide) ?_
  refine y_aload_n (q := 1) rfl rfl dX7_init_118 ?_
  refine y_getR (b := 83) (C := RX7) (T := TX7) sh_82 (by omega) (by decide) rfl in_X7 0 (by decide) (by decide) fl_X7_7 (by simp [upr, upR] <;> omega) dX7_init_119 ?_
  refine y_iconst (v := (5)) (by decide) dX7_init_122 ?_
  refine y_iload_n (q := 0) rfl rfl dX7_init_123 ?_
  refine y_iadd (v := 20) (by decide) dX7_init_124 ?_
  refine y_iconst (v := (2)) (by decide) dX7_init_125 ?_
  refine y_iast (j := 20) sh_83 (by omega) (by decide) (by decide) dX7_init_126 ?_
  refine y_iinc (q := 0) (v := 16) (lv' := [(1, .int 16), (0, .ref (g.1 82))]) dX7_init_127 rfl (by decide) (by decide) rfl ?_
  refine y_goto (tgt := 112) dX7_init_130 (by decide) ?_
  refine y_iload_n (q := 0) rfl rfl dX7_init_112 ?_
  refine y_bipush (v := (31)) (by decide) dX7_init_113 ?_
  refine y_geF (tgt := 133) dX7_init_115 (by decide) (by decide) ?_
  refine y_aload_n (q := 1) rfl rfl dX7_init_118 ?_
  refine y_getR (b := 83) (C := RX7) (T := TX7) sh_82 (by omega) (by decide) rfl in_X7 0 (by decide) (by decide) fl_X7_7 (by simp [upr, upR] <;> omega) dX7_init_119 ?_
  refine y_iconst (v := (5)) (by decide) dX7_init_122 ?_
  refine y_iload_n (q := 0) rfl rfl dX7_init_123 ?_
  refine y_iadd (v := 21) (by decide) dX7_init_124 ?_
  refine y_iconst (v := (2)) (by decide) dX7_init_125 ?_
  refine y_iast (j := 21) sh_83 (by omega) (by decide) (by decide) dX7_init_126 ?_
  refine y_iinc (q := 0) (v := 17) (lv' := [(1, .int 17), (0, .ref (g.1 82))]) dX7_init_127 rfl (by decide) (by decide) rfl ?_
  refine y_goto (tgt := 112) dX7_init_130 (by decide) ?_
  refine y_iload_n (q := 0) rfl rfl dX7_init_112 ?_
  refine y_bipush (v := (31)) (by decide) dX7_init_113 ?_
  refine y_geF (tgt := 133) dX7_init_115 (by decide) (by decide) ?_
  refine y_aload_n (q := 1) rfl rfl dX7_init_118 ?_
  refine y_getR (b := 83) (C := RX7) (T := TX7) sh_82 (by omega) (by decide) rfl in_X7 0 (by decide) (by decide) fl_X7_7 (by simp [upr, upR] <;> omega) dX7_init_119 ?_
  refine y_iconst (v := (5)) (by decide) dX7_init_122 ?_
  refine y_iload_n (q := 0) rfl rfl dX7_init_123 ?_
  refine y_iadd (v := 22) (by decide) dX7_init_124 ?_
  refine y_iconst (v := (2)) (by decide) dX7_init_125 ?_
  refine y_iast (j := 22) sh_83 (by omega) (by decide) (by decide) dX7_init_126 ?_
  refine y_iinc (q := 0) (v := 18) (lv' := [(1, .int 18), (0, .ref (g.1 82))]) dX7_init_127 rfl (by decide) (by decide) rfl ?_
  refine y_goto (tgt := 112) dX7_init_130 (by decide) ?_
  refine y_iload_n (q := 0) rfl rfl dX7_init_112 ?_
  refine y_bipush (v := (31)) (by decide) dX7_init_113 ?_
  refine y_geF (tgt := 133) dX7_init_115 (by decide) (by decide) ?_
  refine y_aload_n (q := 1) rfl rfl dX7_init_118 ?_
  refine y_getR (b := 83) (C := RX7) (T := TX7) sh_82 (by omega) (by decide) rfl in_X7 0 (by decide) (by decide) fl_X7_7 (by simp [upr, upR] <;> omega) dX7_init_119 ?_
  refine y_iconst (v := (5)) (by decide) dX7_init_122 ?_
  refine y_iload_n (q := 0) rfl rfl dX7_init_123 ?_
  refine y_iadd (v := 23) (by decide) dX7_init_124 ?_
  refine y_iconst (v := (2)) (by decide) dX7_init_125 ?_
  refine y_iast (j := 23) sh_83 (by omega) (by decide) (by decide) dX7_init_126 ?_
  refine y_iinc (q := 0) (v := 19) (lv' := [(1, .int 19), (0, .ref (g.1 82))]) dX7_init_127 rfl (by decide) (by decide) rfl ?_
  refine y_goto (tgt := 112) dX7_init_130 (by decide) ?_
  refine y_iload_n (q := 0) rfl rfl dX7_init_112 ?_
  refine y_bipush (v := (31)) (by decide) dX7_init_113 ?_
  refine y_geF (tgt := 133) dX7_init_115 (by decide) (by decide) ?_
  refine y_aload_n (q := 1) rfl rfl dX7_init_118 ?_
  refine y_getR (b := 83) (C := RX7) (T := TX7) sh_82 (by omega) (by decide) rfl in_X7 0 (by decide) (by decide) fl_X7_7 (by simp [upr, upR] <;> omega) dX7_init_119 ?_
  refine y_iconst (v := (5)) (by decide) dX7_init_122 ?_
  refine y_iload_n (q := 0) rfl rfl dX7_init_123 ?_
  refine y_iadd (v := 24) (by decide) dX7_init_124 ?_
  refine y_iconst (v := (2)) (by decide) dX7_init_125 ?_
  refine y_iast (j := 24) sh_83 (by omega) (by decide) (by decide) dX7_init_126 ?_
  refine y_iinc (q := 0) (v := 20) (lv' := [(1, .int 20), (0, .ref (g.1 82))]) dX7_init_127 rfl (by decide) (by decide) rfl ?_
  refine y_goto (tgt := 112) dX7_init_130 (by decide) ?_
  refine y_iload_n (q := 0) rfl rfl dX7_init_112 ?_
  refine y_bipush (v := (31)) (by decide) dX7_init_113 ?_
  refine y_geF (tgt := 133) dX7_init_115 (by decide) (by decide) ?_
  refine y_aload_n (q := 1) rfl rfl dX7_init_118 ?_
  refine y_getR (b := 83) (C := RX7) (T := TX7) sh_82 (by omega) (by decide) rfl in_X7 0 (by decide) (by decide) fl_X7_7 (by simp [upr, upR] <;> omega) dX7_init_119 ?_
  refine y_iconst (v := (5)) (by decide) dX7_init_122 ?_
  refine y_iload_n (q := 0) rfl rfl dX7_init_123 ?_
  refine y_iadd (v := 25) (by decide) dX7_init_124 ?_
  refine y_iconst (v := (2)) (by decide) dX7_init_125 ?_
  refine y_iast (j := 25) sh_83 (by omega) (by decide) (by decide) dX7_init_126 ?_
  refine y_iinc (q := 0) (v := 21) (lv' := [(1, .int 21), (0, .ref (g.1 82))]) dX7_init_127 rfl (by decide) (by decide) rfl ?_
  refine y_goto (tgt := 112) dX7_init_130 (by decide) ?_
  refine y_iload_n (q := 0) rfl rfl dX7_init_112 ?_
  refine y_bipush (v := (31)) (by decide) dX7_init_113 ?_
  refine y_geF (tgt := 133) dX7_init_115 (by decide) (by decide) ?_
  refine y_aload_n (q := 1) rfl rfl dX7_init_118 ?_
  refine y_getR (b := 83) (C := RX7) (T := TX7) sh_82 (by omega) (by decide) rfl in_X7 0 (by decide) (by decide) fl_X7_7 (by simp [upr, upR] <;> omega) dX7_init_119 ?_
  refine y_iconst (v := (5)) (by decide) dX7_init_122 ?_
  refine y_iload_n (q := 0) rfl rfl dX7_init_123 ?_
  refine y_iadd (v := 26) (by decide) dX7_init_124 ?_
  refine y_iconst (v := (2)) (by decide) dX7_init_125 ?_
  refine y_iast (j := 26) sh_83 (by omega) (by decide) (by decide) dX7_init_126 ?_
  refine y_iinc (q := 0) (v := 22) (lv' := [(1, .int 22), (0, .ref (g.1 82))]) dX7_init_127 rfl (by decide) (by decide) rfl ?_
  refine y_goto (tgt := 112) dX7_init_130 (by decide) ?_
  refine y_iload_n (q := 0) rfl rfl dX7_init_112 ?_
  refine y_bipush (v := (31)) (by decide) dX7_init_113 ?_
  refine y_geF (tgt := 133) dX7_init_115 (by decide) (by decide) ?_
  refine y_aload_n (q := 1) rfl rfl dX7_init_118 ?_
  refine y_getR (b := 83) (C := RX7) (T := TX7) sh_82 (by omega) (by decide) rfl in_X7 0 (by decide) (by decide) fl_X7_7 (by simp [upr, upR] <;> omega) dX7_init_119 ?_
  refine y_iconst (v := (5)) (by decide) dX7_init_122 ?_
  refine y_iload_n (q := 0) rfl rfl dX7_init_123 ?_
  refine y_iadd (v := 27) (by decide) dX7_init_124 ?_
  refine y_iconst (v := (2)) (by decide) dX7_init_125 ?_
  refine y_iast (j := 27) sh_83 (by omega) (by decide) (by decide) dX7_init_126 ?_
  refine y_iinc (q := 0) (v := 23) (lv' := [(1, .int 23), (0, .ref (g.1 82))]) dX7_init_127 rfl (by decide) (by decide) rfl ?_
  refine y_goto (tgt := 112) dX7_init_130 (by decide) ?_
  refine y_iload_n (q := 0) rfl rfl dX7_init_112 ?_
  refine y_bipush (v := (31)) (by decide) dX7_init_113 ?_
  refine y_geF (tgt := 133) dX7_init_115 (by decide) (by decide) ?_
  refine y_aload_n (q := 1) rfl rfl dX7_init_118 ?_
  refine y_getR (b := 83) (C := RX7) (T := TX7) sh_82 (by omega) (by decide) rfl in_X7 0 (by decide) (by decide) fl_X7_7 (by simp [upr, upR] <;> omega) dX7_init_119 ?_
  refine y_iconst (v := (5)) (by decide) dX7_init_122 ?_
  refine y_iload_n (q := 0) rfl rfl dX7_init_123 ?_
  refine y_iadd (v := 28) (by decide) dX7_init_124 ?_
  refine y_iconst (v := (2)) (by decide) dX7_init_125 ?_
  refine y_iast (j := 28) sh_83 (by omega) (by decide) (by decide) dX7_init_126 ?_
  refine y_iinc (q := 0) (v := 24) (lv' := [(1, .int 24), (0, .ref (g.1 82))]) dX7_init_127 rfl (by decide) (by decide) rfl ?_
  refine y_goto (tgt := 112) dX7_init_130 (by decide) ?_
  refine y_iload_n (q := 0) rfl rfl dX7_init_112 ?_
  refine y_bipush (v := (31)) (by decide) dX7_init_113 ?_
  refine y_geF (tgt := 133) dX7_init_115 (by decide) (by decide) ?_
  refine y_aload_n (q := 1) rfl rfl dX7_init_118 ?_
  refine y_getR (b := 83) (C := RX7) (T := TX7) sh_82 (by omega) (by decide) rfl in_X7 0 (by decide) (by decide) fl_X7_7 (by simp [upr, upR] <;> omega) dX7_init_119 ?_
  refine y_iconst (v := (5)) (by decide) dX7_init_122 ?_
  refine y_iload_n (q := 0) rfl rfl dX7_init_123 ?_
  refine y_iadd (v := 29) (by decide) dX7_init_124 ?_
  refine y_iconst (v := (2)) (by decide) dX7_init_125 ?_
  refine y_iast (j := 29) sh_83 (by omega) (by decide) (by decide) dX7_init_126 ?_
  refine y_iinc (q := 0) (v := 25) (lv' := [(1, .int 25), (0, .ref (g.1 82))]) dX7_init_127 rfl (by decide) (by decide) rfl ?_
  refine y_goto (tgt := 112) dX7_init_130 (by decide) ?_
  refine y_iload_n (q := 0) rfl rfl dX7_init_112 ?_
  refine y_bipush (v := (31)) (by decide) dX7_init_113 ?_
  refine y_geF (tgt := 133) dX7_init_115 (by decide) (by decide) ?_
  refine y_aload_n (q := 1) rfl rfl dX7_init_118 ?_
  refine y_getR (b := 83) (C := RX7) (T := TX7) sh_82 (by omega) (by decide) rfl in_X7 0 (by decide) (by decide) fl_X7_7 (by simp [upr, upR] <;> omega) dX7_init_119 ?_
  refine y_iconst (v := (5)) (by decide) dX7_init_122 ?_
  refine y_iload_n (q := 0) rfl rfl dX7_init_123 ?_
  refine y_iadd (v := 30) (by decide) dX7_init_124 ?_
  refine y_iconst (v := (2)) (by decide) dX7_init_125 ?_
  refine y_iast (j := 30) sh_83 (by omega) (by decide) (by decide) dX7_init_126 ?_
  refine y_iinc (q := 0) (v := 26) (lv' := [(1, .int 26), (0, .ref (g.1 82))]) dX7_init_127 rfl (by decide) (by decide) rfl ?_
  refine y_goto (tgt := 112) dX7_init_130 (by decide) ?_
  refine y_iload_n (q := 0) rfl rfl dX7_init_112 ?_
  refine y_bipush (v := (31)) (by decide) dX7_init_113 ?_
  refine y_geF (tgt := 133) dX7_init_115 (by decide) (by decide) ?_
  refine y_aload_n (q := 1) rfl rfl dX7_init_118 ?_
  refine y_getR (b := 83) (C := RX7) (T := TX7) sh_82 (by omega) (by decide) rfl in_X7 0 (by decide) (by decide) fl_X7_7 (by simp [upr, upR] <;> omega) dX7_init_119 ?_
  refine y_iconst (v := (5)) (by decide) dX7_init_122 ?_
  refine y_iload_n (q := 0) rfl rfl dX7_init_123 ?_
  refine y_iadd (v := 31) (by decide) dX7_init_124 ?_
  refine y_iconst (v := (2)) (by decide) dX7_init_125 ?_
  refine y_iast (j := 31) sh_83 (by omega) (by decide) (by decide) dX7_init_126 ?_
  refine y_iinc (q := 0) (v := 27) (lv' := [(1, .int 27), (0, .ref (g.1 82))]) dX7_init_127 rfl (by decide) (by decide) rfl ?_
  refine y_goto (tgt := 112) dX7_init_130 (by decide) ?_
  refine y_iload_n (q := 0) rfl rfl dX7_init_112 ?_
  refine y_bipush (v := (31)) (by decide) dX7_init_113 ?_
  refine y_geF (tgt := 133) dX7_init_115 (by decide) (by decide) ?_
  refine y_aload_n (q := 1) rfl rfl dX7_init_118 ?_
  refine y_getR (b := 83) (C := RX7) (T := TX7) sh_82 (by omega) (by decide) rfl in_X7 0 (by decide) (by decide) fl_X7_7 (by simp [upr, upR] <;> omega) dX7_init_119 ?_
  refine y_iconst (v := (5)) (by decide) dX7_init_122 ?_
  refine y_iload_n (q := 0) rfl rfl dX7_init_123 ?_
  refine y_iadd (v := 32) (by decide) dX7_init_124 ?_
  refine y_iconst (v := (2)) (by decide) dX7_init_125 ?_
  refine y_iast (j := 32) sh_83 (by omega) (by decide) (by decide) dX7_init_126 ?_
  refine y_iinc (q := 0) (v := 28) (lv' := [(1, .int 28), (0, .ref (g.1 82))]) dX7_init_127 rfl (by decide) (by decide) rfl ?_
  refine y_goto (tgt := 112) dX7_init_130 (by decide) ?_
  refine y_iload_n (q := 0) rfl rfl dX7_init_112 ?_
  refine y_bipush (v := (31)) (by decide) dX7_init_113 ?_
  refine y_geF (tgt := 133) dX7_init_115 (by decide) (by decide) ?_
  refine y_aload_n (q := 1) rfl rfl dX7_init_118 ?_
  refine y_getR (b := 83) (C := RX7) (T := TX7) sh_82 (by omega) (by decide) rfl in_X7 0 (by decide) (by decide) fl_X7_7 (by simp [upr, upR] <;> omega) dX7_init_119 ?_
  refine y_iconst (v := (5)) (by decide) dX7_init_122 ?_
  refine y_iload_n (q := 0) rfl rfl dX7_init_123 ?_
  refine y_iadd (v := 33) (by decide) dX7_init_124 ?_
  refine y_iconst (v := (2)) (by decide) dX7_init_125 ?_
  refine y_iast (j := 33) sh_83 (by omega) (by decide) (by decide) dX7_init_126 ?_
  refine y_iinc (q := 0) (v := 29) (lv' := [(1, .int 29), (0, .ref (g.1 82))]) dX7_init_127 rfl (by decide) (by decide) rfl ?_
  refine y_goto (tgt := 112) dX7_init_130 (by decide) ?_
  refine y_iload_n (q := 0) rfl rfl dX7_init_112 ?_
  refine y_bipush (v := (31)) (by decide) dX7_init_113 ?_
  refine y_geF (tgt := 133) dX7_init_115 (by decide) (by decide) ?_
  refine y_aload_n (q := 1) rfl rfl dX7_init_118 ?_
  refine y_getR (b := 83) (C := RX7) (T := TX7) sh_82 (by omega) (by decide) rfl in_X7 0 (by decide) (by decide) fl_X7_7 (by simp [upr, upR] <;> omega) dX7_init_119 ?_
  refine y_iconst (v := (5)) (by decide) dX7_init_122 ?_
  refine y_iload_n (q := 0) rfl rfl dX7_init_123 ?_
  refine y_iadd (v := 34) (by decide) dX7_init_124 ?_
  refine y_iconst (v := (2)) (by decide) dX7_init_125 ?_
  refine y_iast (j := 34) sh_83 (by omega) (by decide) (by decide) dX7_init_126 ?_
  refine y_iinc (q := 0) (v := 30) (lv' := [(1, .int 30), (0, .ref (g.1 82))]) dX7_init_127 rfl (by decide) (by decide) rfl ?_
  refine y_goto (tgt := 112) dX7_init_130 (by decide) ?_
  refine y_iload_n (q := 0) rfl rfl dX7_init_112 ?_
  refine y_bipush (v := (31)) (by decide) dX7_init_113 ?_
  refine y_geF (tgt := 133) dX7_init_115 (by decide) (by decide) ?_
  refine y_aload_n (q := 1) rfl rfl dX7_init_118 ?_
  refine y_getR (b := 83) (C := RX7) (T := TX7) sh_82 (by omega) (by decide) rfl in_X7 0 (by decide) (by decide) fl_X7_7 (by simp [upr, upR] <;> omega) dX7_init_119 ?_
  refine y_iconst (v := (5)) (by decide) dX7_init_122 ?_
  refine y_iload_n (q := 0) rfl rfl dX7_init_123 ?_
  refine y_iadd (v := 35) (by decide) dX7_init_124 ?_
  refine y_iconst (v := (2)) (by decide) dX7_init_125 ?_
  refine y_iast (j := 35) sh_83 (by omega) (by decide) (by decide) dX7_init_126 ?_
  refine y_iinc (q := 0) (v := 31) (lv' := [(1, .int 31), (0, .ref (g.1 82))]) dX7_init_127 rfl (by decide) (by decide) rfl ?_
  refine y_goto (tgt := 112) dX7_init_130 (by decide) ?_
  refine y_iload_n (q := 0) rfl rfl dX7_init_112 ?_
  refine y_bipush (v := (31)) (by decide) dX7_init_113 ?_
  refine y_geT (tgt := 133) dX7_init_115 (by decide) (by decide) ?_
  refine y_iconst (v := (0)) (by decide) dX7_init_133 ?_
  refine y_istore_n (lv' := [(1, .int 0), (0, .ref (g.1 82))]) rfl dX7_init_134 (by decide) rfl ?_
  refine y_iload_n (q := 0) rfl rfl dX7_init_135 ?_
  refine y_bipush (v := (10)) (by decide) dX7_init_136 ?_
  refine y_geF (tgt := 158) dX7_init_138 (by decide) (by decide) ?_
  refine y_aload_n (q := 1) rfl rfl dX7_init_141 ?_
  refine y_getR (b := 83) (C := RX7) (T := TX7) sh_82 (by omega) (by decide) rfl in_X7 0 (by decide) (by decide) fl_X7_7 (by simp [upr, upR] <;> omega) dX7_init_142 ?_
  refine y_sipush (v := (157)) (by decide) dX7_init_145 ?_
  refine y_iload_n (q := 0) rfl rfl dX7_init_148 ?_
  refine y_iadd (v := 157) (by decide) dX7_init_149 ?_
  refine y_iconst (v := (-1)) (by decide) dX7_init_150 ?_
  refine y_iast (j := 157) sh_83 (by omega) (by decide) (by decide) dX7_init_151 ?_
  refine y_iinc (q := 0) (v := 1) (lv' := [(1, .int 1), (0, .ref (g.1 82))]) dX7_init_152 rfl (by decide) (by decide) rfl ?_
  refine y_goto (tgt := 135) dX7_init_155 (by decide) ?_
  refine y_iload_n (q := 0) rfl rfl dX7_init_135 ?_
  refine y_bipush (v := (10)) (by decide) dX7_init_136 ?_
  refine y_geF (tgt := 158) dX7_init_138 (by decide) (by decide) ?_
  refine y_aload_n (q := 1) rfl rfl dX7_init_141 ?_
  refine y_getR (b := 83) (C := RX7) (T := TX7) sh_82 (by omega) (by decide) rfl in_X7 0 (by decide) (by decide) fl_X7_7 (by simp [upr, upR] <;> omega) dX7_init_142 ?_
  refine y_sipush (v := (157)) (by decide) dX7_init_145 ?_
  refine y_iload_n (q := 0) rfl rfl dX7_init_148 ?_
  refine y_iadd (v := 158) (by decide) dX7_init_149 ?_
  refine y_iconst (v := (-1)) (by decide) dX7_init_150 ?_
  refine y_iast (j := 158) sh_83 (by omega) (by decide) (by decide) dX7_init_151 ?_
  refine y_iinc (q := 0) (v := 2) (lv' := [(1, .int 2), (0, .ref (g.1 82))]) dX7_init_152 rfl (by decide) (by decide) rfl ?_
  refine y_goto (tgt := 135) dX7_init_155 (by decide) ?_
  refine y_iload_n (q := 0) rfl rfl dX7_init_135 ?_
  refine y_bipush (v := (10)) (by decide) dX7_init_136 ?_
  refine y_geF (tgt := 158) dX7_init_138 (by decide) (by decide) ?_
  refine y_aload_n (q := 1) rfl rfl dX7_init_141 ?_
  refine y_getR (b := 83) (C := RX7) (T := TX7) sh_82 (by omega) (by decide) rfl in_X7 0 (by decide) (by decide) fl_X7_7 (by simp [upr, upR] <;> omega) dX7_init_142 ?_
  refine y_sipush (v := (157)) (by decide) dX7_init_145 ?_
  refine y_iload_n (q := 0) rfl rfl dX7_init_148 ?_
  refine y_iadd (v := 159) (by decide) dX7_init_149 ?_
  refine y_iconst (v := (-1)) (by decide) dX7_init_150 ?_
  refine y_iast (j := 159) sh_83 (by omega) (by decide) (by decide) dX7_init_151 ?_
  refine y_iinc (q := 0) (v := 3) (lv' := [(1, .int 3), (0, .ref (g.1 82))]) dX7_init_152 rfl (by decide) (by decide) rfl ?_
  refine y_goto (tgt := 135) dX7_init_155 (by decide) ?_
  refine y_iload_n (q := 0) rfl rfl dX7_init_135 ?_
  refine y_bipush (v := (10)) (by decide) dX7_init_136 ?_
  refine y_geF (tgt := 158) dX7_init_138 (by decide) (by decide) ?_
  refine y_aload_n (q := 1) rfl rfl dX7_init_141 ?_
  refine y_getR (b := 83) (C := RX7) (T := TX7) sh_82 (by omega) (by decide) rfl in_X7 0 (by decide) (by decide) fl_X7_7 (by simp [upr, upR] <;> omega) dX7_init_142 ?_
  refine y_sipush (v := (157)) (by decide) dX7_init_145 ?_
  refine y_iload_n (q := 0) rfl rfl dX7_init_148 ?_
  refine y_iadd (v := 160) (by decide) dX7_init_149 ?_
  refine y_iconst (v := (-1)) (by decide) dX7_init_150 ?_
  refine y_iast (j := 160) sh_83 (by omega) (by decide) (by decide) dX7_init_151 ?_
  refine y_iinc (q := 0) (v := 4) (lv' := [(1, .int 4), (0, .ref (g.1 82))]) dX7_init_152 rfl (by decide) (by decide) rfl ?_
  refine y_goto (tgt := 135) dX7_init_155 (by decide) ?_
  refine y_iload_n (q := 0) rfl rfl dX7_init_135 ?_
  refine y_bipush (v := (10)) (by decide) dX7_init_136 ?_
  refine y_geF (tgt := 158) dX7_init_138 (by decide) (by decide) ?_
  refine y_aload_n (q := 1) rfl rfl dX7_init_141 ?_
  refine y_getR (b := 83) (C := RX7) (T := TX7) sh_82 (by omega) (by decide) rfl in_X7 0 (by decide) (by decide) fl_X7_7 (by simp [upr, upR] <;> omega) dX7_init_142 ?_
  refine y_sipush (v := (157)) (by decide) dX7_init_145 ?_
  refine y_iload_n (q := 0) rfl rfl dX7_init_148 ?_
  refine y_iadd (v := 161) (by decide) dX7_init_149 ?_
  refine y_iconst (v := (-1)) (by decide) dX7_init_150 ?_
  refine y_iast (j := 161) sh_83 (by omega) (by decide) (by decide) dX7_init_151 ?_
  refine y_iinc (q := 0) (v := 5) (lv' := [(1, .int 5), (0, .ref (g.1 82))]) dX7_init_152 rfl (by decide) (by decide) rfl ?_
  refine y_goto (tgt := 135) dX7_init_155 (by decide) ?_
  refine y_iload_n (q := 0) rfl rfl dX7_init_135 ?_
  refine y_bipush (v := (10)) (by decide) dX7_init_136 ?_
  refine y_geF (tgt := 158) dX7_init_138 (by decide) (by decide) ?_
  refine y_aload_n (q := 1) rfl rfl dX7_init_141 ?_
  refine y_getR (b := 83) (C := RX7) (T := TX7) sh_82 (by omega) (by decide) rfl in_X7 0 (by decide) (by decide) fl_X7_7 (by simp [upr, upR] <;> omega) dX7_init_142 ?_
  refine y_sipush (v := (157)) (by decide) dX7_init_145 ?_
  refine y_iload_n (q := 0) rfl rfl dX7_init_148 ?_
  refine y_iadd (v := 162) (by decide) dX7_init_149 ?_
  refine y_iconst (v := (-1)) (by decide) dX7_init_150 ?_
  refine y_iast (j := 162) sh_83 (by omega) (by decide) (by decide) dX7_init_151 ?_
  refine y_iinc (q := 0) (v := 6) (lv' := [(1, .int 6), (0, .ref (g.1 82))]) dX7_init_152 rfl (by decide) (by decide) rfl ?_
  refine y_goto (tgt := 135) dX7_init_155 (by decide) ?_
  refine y_iload_n (q := 0) rfl rfl dX7_init_135 ?_
  refine y_bipush (v := (10)) (by decide) dX7_init_136 ?_
  refine y_geF (tgt := 158) dX7_init_138 (by decide) (by decide) ?_
  refine y_aload_n (q := 1) rfl rfl dX7_init_141 ?_
  refine y_getR (b := 83) (C := RX7) (T := TX7) sh_82 (by omega) (by decide) rfl in_X7 0 (by decide) (by decide) fl_X7_7 (by simp [upr, upR] <;> omega) dX7_init_142 ?_
  refine y_sipush (v := (157)) (by decide) dX7_init_145 ?_
  refine y_iload_n (q := 0) rfl rfl dX7_init_148 ?_
  refine y_iadd (v := 163) (by decide) dX7_init_149 ?_
  refine y_iconst (v := (-1)) (by decide) dX7_init_150 ?_
  refine y_iast (j := 163) sh_83 (by omega) (by decide) (by decide) dX7_init_151 ?_
  refine y_iinc (q := 0) (v := 7) (lv' := [(1, .int 7), (0, .ref (g.1 82))]) dX7_init_152 rfl (by decide) (by decide) rfl ?_
  refine y_goto (tgt := 135) dX7_init_155 (by decide) ?_
  refine y_iload_n (q := 0) rfl rfl dX7_init_135 ?_
  refine y_bipush (v := (10)) (by decide) dX7_init_136 ?_
  refine y_geF (tgt := 158) dX7_init_138 (by decide) (by decide) ?_
  refine y_aload_n (q := 1) rfl rfl dX7_init_141 ?_
  refine y_getR (b := 83) (C := RX7) (T := TX7) sh_82 (by omega) (by decide) rfl in_X7 0 (by decide) (by decide) fl_X7_7 (by simp [upr, upR] <;> omega) dX7_init_142 ?_
  refine y_sipush (v := (157)) (by decide) dX7_init_145 ?_
  refine y_iload_n (q := 0) rfl rfl dX7_init_148 ?_
  refine y_iadd (v := 164) (by decide) dX7_init_149 ?_
  refine y_iconst (v := (-1)) (by decide) dX7_init_150 ?_
  refine y_iast (j := 164) sh_83 (by omega) (by decide) (by decide) dX7_init_151 ?_
  refine y_iinc (q := 0) (v := 8) (lv' := [(1, .int 8), (0, .ref (g.1 82))]) dX7_init_152 rfl (by decide) (by decide) rfl ?_
  refine y_goto (tgt := 135) dX7_init_155 (by decide) ?_
  refine y_iload_n (q := 0) rfl rfl dX7_init_135 ?_
  refine y_bipush (v := (10)) (by decide) dX7_init_136 ?_
  refine y_geF (tgt := 158) dX7_init_138 (by decide) (by decide) ?_
  refine y_aload_n (q := 1) rfl rfl dX7_init_141 ?_
  refine y_getR (b := 83) (C := RX7) (T := TX7) sh_82 (by omega) (by decide) rfl in_X7 0 (by decide) (by decide) fl_X7_7 (by simp [upr, upR] <;> omega) dX7_init_142 ?_
  refine y_sipush (v := (157)) (by decide) dX7_init_145 ?_
  refine y_iload_n (q := 0) rfl rfl dX7_init_148 ?_
  refine y_iadd (v := 165) (by decide) dX7_init_149 ?_
  refine y_iconst (v := (-1)) (by decide) dX7_init_150 ?_
  refine y_iast (j := 165) sh_83 (by omega) (by decide) (by decide) dX7_init_151 ?_
  refine y_iinc (q := 0) (v := 9) (lv' := [(1, .int 9), (0, .ref (g.1 82))]) dX7_init_152 rfl (by decide) (by decide) rfl ?_
  refine y_goto (tgt := 135) dX7_init_155 (by decide) ?_
  refine y_iload_n (q := 0) rfl rfl dX7_init_135 ?_
  refine y_bipush (v := (10)) (by decide) dX7_init_136 ?_
  refine y_geF (tgt := 158) dX7_init_138 (by decide) (by decide) ?_
  refine y_aload_n (q := 1) rfl rfl dX7_init_141 ?_
  refine y_getR (b := 83) (C := RX7) (T := TX7) sh_82 (by omega) (by decide) rfl in_X7 0 (by decide) (by decide) fl_X7_7 (by simp [upr, upR] <;> omega) dX7_init_142 ?_
  refine y_sipush (v := (157)) (by decide) dX7_init_145 ?_
  refine y_iload_n (q := 0) rfl rfl dX7_init_148 ?_
  refine y_iadd (v := 166) (by decide) dX7_init_149 ?_
  refine y_iconst (v := (-1)) (by decide) dX7_init_150 ?_
  refine y_iast (j := 166) sh_83 (by omega) (by decide) (by decide) dX7_init_151 ?_
  refine y_iinc (q := 0) (v := 10) (lv' := [(1, .int 10), (0, .ref (g.1 82))]) dX7_init_152 rfl (by decide) (by decide) rfl ?_
  refine y_goto (tgt := 135) dX7_init_155 (by decide) ?_
  refine y_iload_n (q := 0) rfl rfl dX7_init_135 ?_
  refine y_bipush (v := (10)) (by decide) dX7_init_136 ?_
  refine y_geT (tgt := 158) dX7_init_138 (by decide) (by decide) ?_
  exact y_ret rfl (by decide) (by decide) dX7_init_158
def cI_X6 (im : IM) : IM := cI_X3 80 (upA (cI_X3 78 (upA (cI_X3 76 (upA (cI_X3 74 (upA (upA (upA (cI_X1 (upA (upA (cI_X0 (upA (cI_X2 (upA (cI_X5 46 (upA (cI_X5 31 (upA (up (cI_X5 16 (upA (cI_X5 1 (upA (im) 1 (fun _ => 0))) 16 (fun _ => 0))) 0 2 0) 31 (fun _ => 0))) 46 (fun _ => 0))) 61 (fun _ => 0))) 63 (fun _ => 0))) 65 (fun _ => 0)) 66 (fun _ => 0))) 72 (fun _ => 0)) 73 (fun _ => 0)) 74 (fun _ => 0))) 76 (fun _ => 0))) 78 (fun _ => 0))) 80 (fun _ => 0))
def cR_X6 (rm : RM) : RM := upr (cR_X3 80 (upR (upr (cR_X3 78 (upR (upr (cR_X3 76 (upR (upr (cR_X3 74 (upR (upr (upR (upr (upR (upr (cR_X1 (upR (upr (upR (upr (cR_X0 (upR (upr (cR_X2 (upR (upr (cR_X5 46 (upR (upr (cR_X5 31 (upR (upr (cR_X5 16 (upR (upr (cR_X5 1 (upR (rm) 1 (fun _ => none))) 0 0 (some 1)) 16 (fun _ => none))) 0 1 (some 16)) 31 (fun _ => none))) 0 3 (some 31)) 46 (fun _ => none))) 0 4 (some 46)) 61 (fun _ => none))) 0 5 (some 61)) 63 (fun _ => none))) 0 6 (some 63)) 65 (fun _ => none)) 0 7 (some 65)) 66 (fun _ => none))) 0 8 (some 66)) 72 (fun _ => none)) 0 9 (some 72)) 73 (fun _ => none)) 0 10 (some 73)) 74 (fun _ => none))) 72 0 (some 74)) 76 (fun _ => none))) 72 1 (some 76)) 78 (fun _ => none))) 72 2 (some 78)) 80 (fun _ => none))) 72 3 (some 80)
set_option maxRecDepth 100000 in
set_option maxHeartbeats 40000000 in
theorem y_X6_init {g : GX} (im : IM) (rm : RM) : yMet g 3 yX6_init cX6_init 2 81 2529 0 (1, im, rm) (82, cI_X6 im, cR_X6 rm) := by
  refine y_met (by decide) rfl (by decide) ?_
  refine y_aload_n (q := 0) rfl rfl dX6_init_0 ?_
  refine y_obj ol_X6_3 (by decide) (Nat.le_of_ble_eq_true rfl) dX6_init_1 ?_
  refine y_aload_n (q := 0) rfl rfl dX6_init_4 ?_
  refine y_new (C := RX5) (T := TX5) tyX5 tyX5_ok sh_1 (by decide) rfl in_X5 nl_X6_9 (df_5 _) (by decide) (by decide) dX6_init_5 ?_
  refine y_dup rfl dX6_init_8 ?_
  refine y_call (a := 1) (y_X5_init xTo_c1 _ _) (Nat.le_of_ble_eq_true rfl) rfl (by decide) (by decide) yl_X6_11 cd3_X5_init xd3_X5_init (Nat.le_of_ble_eq_true rfl) (by decide) (by decide) dX6_init_9 ?_
  refine y_putR (C := RX6) (T := TX6) (ty := .object "RollTown$Town") tyX6 tyX6_ok nmX6 sh_0 (by omega) (by decide) rfl in_X6 0 (by decide) (by decide) fl_X6_12 rfl (by decide +kernel) (fun _ => rfl) (fun _ => rfl) dX6_init_12 ?_
  refine y_aload_n (q := 0) rfl rfl dX6_init_15 ?_
  refine y_new (C := RX5) (T := TX5) tyX5 tyX5_ok sh_16 (by decide) rfl in_X5 nl_X6_9 (df_5 _) (by decide) (by decide) dX6_init_16 ?_
  refine y_dup rfl dX6_init_19 ?_
  refine y_call (a := 16) (y_X5_init xTo_c16 _ _) (Nat.le_of_ble_eq_true rfl) rfl (by decide) (by decide) yl_X6_11 cd3_X5_init xd3_X5_init (Nat.le_of_ble_eq_true rfl) (by decide) (by decide) dX6_init_20 ?_
  refine y_putR (C := RX6) (T := TX6) (ty := .object "RollTown$Town") tyX6 tyX6_ok nmX6 sh_0 (by omega) (by decide) rfl in_X6 1 (by decide) (by decide) fl_X6_16 rfl (by decide +kernel) (fun _ => rfl) (fun _ => rfl) dX6_init_23 ?_
  refine y_aload_n (q := 0) rfl rfl dX6_init_26 ?_
  refine y_iconst (v := (0)) (by decide) dX6_init_27 ?_
  refine y_putI (C := RX6) (T := TX6) (ty := .boolean) tyX6 tyX6_ok nmX6 sh_0 (by omega) (by decide) rfl in_X6 2 (by decide) (by decide) fl_X6_19 rfl (by decide +kernel) (by decide) (by decide) dX6_init_28 ?_
  refine y_aload_n (q := 0) rfl rfl dX6_init_31 ?_
  refine y_new (C := RX5) (T := TX5) tyX5 tyX5_ok sh_31 (by decide) rfl in_X5 nl_X6_9 (df_5 _) (by decide) (by decide) dX6_init_32 ?_
  refine y_dup rfl dX6_init_35 ?_
  refine y_call (a := 31) (y_X5_init xTo_c31 _ _) (Nat.le_of_ble_eq_true rfl) rfl (by decide) (by decide) yl_X6_11 cd3_X5_init xd3_X5_init (Nat.le_of_ble_eq_true rfl) (by decide) (by decide) dX6_init_36 ?_
  refine y_putR (C := RX6) (T := TX6) (ty := .object "RollTown$Town") tyX6 tyX6_ok nmX6 sh_0 (by omega) (by decide) rfl in_X6 3 (by decide) (by decide) fl_X6_23 rfl (by decide +kernel) (fun _ => rfl) (fun _ => rfl) dX6_init_39 ?_
  refine y_aload_n (q := 0) rfl rfl dX6_init_42 ?_
  refine y_new (C := RX5) (T := TX5) tyX5 tyX5_ok sh_46 (by decide) rfl in_X5 nl_X6_9 (df_5 _) (by decide) (by decide) dX6_init_43 ?_
  refine y_dup rfl dX6_init_46 ?_
  refine y_call (a := 46) (y_X5_init xTo_c46 _ _) (Nat.le_of_ble_eq_true rfl) rfl (by decide) (by decide) yl_X6_11 cd3_X5_init xd3_X5_init (Nat.le_of_ble_eq_true rfl) (by decide) (by decide) dX6_init_47 ?_
  refine y_putR (C := RX6) (T := TX6) (ty := .object "RollTown$Town") tyX6 tyX6_ok nmX6 sh_0 (by omega) (by decide) rfl in_X6 4 (by decide) (by decide) fl_X6_26 rfl (by decide +kernel) (fun _ => rfl) (fun _ => rfl) dX6_init_50 ?_
  refine y_aload_n (q := 0) rfl rfl dX6_init_53 ?_
  refine y_new (C := RX2) (T := TX2) tyX2 tyX2_ok sh_61 (by decide) rfl in_X2 nl_X6_29 (df_2 _) (by decide) (by decide) dX6_init_54 ?_
  refine y_dup rfl dX6_init_57 ?_
  refine y_call (a := 61) (y_X2_init _ _) (Nat.le_of_ble_eq_true rfl) rfl (by decide) (by decide) yl_X6_31 cd3_X2_init xd3_X2_init (Nat.le_of_ble_eq_true rfl) (by decide) (by decide) dX6_init_58 ?_
  refine y_putR (C := RX6) (T := TX6) (ty := .object "RollTown$Roll") tyX6 tyX6_ok nmX6 sh_0 (by omega) (by decide) rfl in_X6 5 (by decide) (by decide) fl_X6_32 rfl (by decide +kernel) (fun _ => rfl) (fun _ => rfl) dX6_init_61 ?_
  refine y_aload_n (q := 0) rfl rfl dX6_init_64 ?_
  refine y_new (C := RX0) (T := TX0) tyX0 tyX0_ok sh_63 (by decide) rfl in_X0 nl_X6_36 (df_0 _) (by decide) (by decide) dX6_init_65 ?_
  refine y_dup rfl dX6_init_68 ?_
  refine y_call (a := 63) (y_X0_init _ _) (Nat.le_of_ble_eq_true rfl) rfl (by decide) (by decide) yl_X6_38 cd3_X0_init xd3_X0_init (Nat.le_of_ble_eq_true rfl) (by decide) (by decide) dX6_init_69 ?_
  refine y_putR (C := RX6) (T := TX6) (ty := .object "RollTown$Packing") tyX6 tyX6_ok nmX6 sh_0 (by omega) (by decide) rfl in_X6 6 (by decide) (by decide) fl_X6_39 rfl (by decide +kernel) (fun _ => rfl) (fun _ => rfl) dX6_init_72 ?_
  refine y_aload_n (q := 0) rfl rfl dX6_init_75 ?_
  refine y_bipush (v := (10)) (by decide) dX6_init_76 ?_
  refine y_newI sh_65 (by decide) (by decide) (by decide) (by decide) (by decide) dX6_init_78 ?_
  refine y_putR (C := RX6) (T := TX6) (ty := .array .int) tyX6 tyX6_ok nmX6 sh_0 (by omega) (by decide) rfl in_X6 7 (by decide) (by decide) fl_X6_43 rfl (by decide +kernel) (fun _ => rfl) (fun _ => rfl) dX6_init_80 ?_
  refine y_aload_n (q := 0) rfl rfl dX6_init_83 ?_
  refine y_new (C := RX1) (T := TX1) tyX1 tyX1_ok sh_66 (by decide) rfl in_X1 nl_X6_47 (df_1 _) (by decide) (by decide) dX6_init_84 ?_
  refine y_dup rfl dX6_init_87 ?_
  refine y_call (a := 66) (y_X1_init _ _) (Nat.le_of_ble_eq_true rfl) rfl (by decide) (by decide) yl_X6_49 cd3_X1_init xd3_X1_init (Nat.le_of_ble_eq_true rfl) (by decide) (by decide) dX6_init_88 ?_
  refine y_putR (C := RX6) (T := TX6) (ty := .object "RollTown$Reader") tyX6 tyX6_ok nmX6 sh_0 (by omega) (by decide) rfl in_X6 8 (by decide) (by decide) fl_X6_50 rfl (by decide +kernel) (fun _ => rfl) (fun _ => rfl) dX6_init_91 ?_
  refine y_aload_n (q := 0) rfl rfl dX6_init_94 ?_
  refine y_iconst (v := (4)) (by decide) dX6_init_95 ?_
  refine y_anew (q := 2) (C := RX3) sh_72 (by first | exact Or.inl ⟨rfl, rfl⟩ | exact Or.inr ⟨rfl, rfl⟩) kl_X6_54 (by decide) (by decide) (by decide) (by decide) (by decide) dX6_init_96 ?_
  refine y_putR (C := RX6) (T := TX6) (ty := .array (.object "RollTown$Sheet")) tyX6 tyX6_ok nmX6 sh_0 (by omega) (by decide) rfl in_X6 9 (by decide) (by decide) fl_X6_56 rfl (by decide +kernel) (fun _ => rfl) (fun _ => rfl) dX6_init_99 ?_
  refine y_aload_n (q := 0) rfl rfl dX6_init_102 ?_
  refine y_bipush (v := (7)) (by decide) dX6_init_103 ?_
  refine y_newI sh_73 (by decide) (by decide) (by decide) (by decide) (by decide) dX6_init_105 ?_
  refine y_putR (C := RX6) (T := TX6) (ty := .array .int) tyX6 tyX6_ok nmX6 sh_0 (by omega) (by decide) rfl in_X6 10 (by decide) (by decide) fl_X6_60 rfl (by decide +kernel) (fun _ => rfl) (fun _ => rfl) dX6_init_107 ?_
  refine y_iconst (v := (0)) (by decide) dX6_init_110 ?_
  refine y_istore_n (lv' := [(1, .int 0), (0, .ref (g.1 0))]) rfl dX6_init_111 (by decide) rfl ?_
  refine y_iload_n (q := 0) rfl rfl dX6_init_112 ?_
  refine y_iconst (v := (4)) (by decide) dX6_init_113 ?_
  refine y_geF (tgt := 136) dX6_init_114 (by decide) (by decide) ?_
  refine y_aload_n (q := 1) rfl rfl dX6_init_117 ?_
  refine y_getR (b := 72) (C := RX6) (T := TX6) sh_0 (by omega) (by decide) rfl in_X6 9 (by decide) (by decide) fl_X6_56 (by simp [upr, upR, cR_X5, cR_X3, cR_X2, cR_X1, cR_X0] <;> omega) dX6_init_118 ?_
  refine y_iload_n (q := 0) rfl rfl dX6_init_121 ?_
  refine y_new (C := RX3) (T := TX3) tyX3 tyX3_ok sh_74 (by decide) rfl in_X3 nl_X6_54 (df_3 _) (by decide) (by decide) dX6_init_122 ?_
  refine y_dup rfl dX6_init_125 ?_
  refine y_call (a := 74) (y_X3_init (a := 74) (by unfold xSs; decide) _ _) (Nat.le_of_ble_eq_true rfl) rfl (by decide) (by decide) yl_X6_63 cd3_X3_init xd3_X3_init (Nat.le_of_ble_eq_true rfl) (by decide) (by decide) dX6_init_126 ?_
  refine y_aast (q := 2) (j := 0) (C := RX3) (T := TX3) sh_72 (by first | exact Or.inl ⟨rfl, rfl⟩ | exact Or.inr ⟨rfl, rfl⟩) (by omega) (by omega) sh_74 (by decide) rfl (by decide) (by decide) dX6_init_129 ?_
  refine y_iinc (q := 0) (v := 1) (lv' := [(1, .int 1), (0, .ref (g.1 0))]) dX6_init_130 rfl (by decide) (by decide) rfl ?_
  refine y_goto (tgt := 112) dX6_init_133 (by decide) ?_
  refine y_iload_n (q := 0) rfl rfl dX6_init_112 ?_
  refine y_iconst (v := (4)) (by decide) dX6_init_113 ?_
  refine y_geF (tgt := 136) dX6_init_114 (by decide) (by decide) ?_
  refine y_aload_n (q := 1) rfl rfl dX6_init_117 ?_
  refine y_getR (b := 72) (C := RX6) (T := TX6) sh_0 (by omega) (by decide) rfl in_X6 9 (by decide) (by decide) fl_X6_56 (by simp [upr, upR, cR_X5, cR_X3, cR_X2, cR_X1, cR_X0] <;> omega) dX6_init_118 ?_
  refine y_iload_n (q := 0) rfl rfl dX6_init_121 ?_
  refine y_new (C := RX3) (T := TX3) tyX3 tyX3_ok sh_76 (by decide) rfl in_X3 nl_X6_54 (df_3 _) (by decide) (by decide) dX6_init_122 ?_
  refine y_dup rfl dX6_init_125 ?_
  refine y_call (a := 76) (y_X3_init (a := 76) (by unfold xSs; decide) _ _) (Nat.le_of_ble_eq_true rfl) rfl (by decide) (by decide) yl_X6_63 cd3_X3_init xd3_X3_init (Nat.le_of_ble_eq_true rfl) (by decide) (by decide) dX6_init_126 ?_
  refine y_aast (q := 2) (j := 1) (C := RX3) (T := TX3) sh_72 (by first | exact Or.inl ⟨rfl, rfl⟩ | exact Or.inr ⟨rfl, rfl⟩) (by omega) (by omega) sh_76 (by decide) rfl (by decide) (by decide) dX6_init_129 ?_
  refine y_iinc (q := 0) (v := 2) (lv' := [(1, .int 2), (0, .ref (g.1 0))]) dX6_init_130 rfl (by decide) (by decide) rfl ?_
  refine y_goto (tgt := 112) dX6_init_133 (by decide) ?_
  refine y_iload_n (q := 0) rfl rfl dX6_init_112 ?_
  refine y_iconst (v := (4)) (by decide) dX6_init_113 ?_
  refine y_geF (tgt := 136) dX6_init_114 (by decide) (by decide) ?_
  refine y_aload_n (q := 1) rfl rfl dX6_init_117 ?_
  refine y_getR (b := 72) (C := RX6) (T := TX6) sh_0 (by omega) (by decide) rfl in_X6 9 (by decide) (by decide) fl_X6_56 (by simp [upr, upR, cR_X5, cR_X3, cR_X2, cR_X1, cR_X0] <;> omega) dX6_init_118 ?_
  refine y_iload_n (q := 0) rfl rfl dX6_init_121 ?_
  refine y_new (C := RX3) (T := TX3) tyX3 tyX3_ok sh_78 (by decide) rfl in_X3 nl_X6_54 (df_3 _) (by decide) (by decide) dX6_init_122 ?_
  refine y_dup rfl dX6_init_125 ?_
  refine y_call (a := 78) (y_X3_init (a := 78) (by unfold xSs; decide) _ _) (Nat.le_of_ble_eq_true rfl) rfl (by decide) (by decide) yl_X6_63 cd3_X3_init xd3_X3_init (Nat.le_of_ble_eq_true rfl) (by decide) (by decide) dX6_init_126 ?_
  refine y_aast (q := 2) (j := 2) (C := RX3) (T := TX3) sh_72 (by first | exact Or.inl ⟨rfl, rfl⟩ | exact Or.inr ⟨rfl, rfl⟩) (by omega) (by omega) sh_78 (by decide) rfl (by decide) (by decide) dX6_init_129 ?_
  refine y_iinc (q := 0) (v := 3) (lv' := [(1, .int 3), (0, .ref (g.1 0))]) dX6_init_130 rfl (by decide) (by decide) rfl ?_
  refine y_goto (tgt := 112) dX6_init_133 (by decide) ?_
  refine y_iload_n (q := 0) rfl rfl dX6_init_112 ?_
  refine y_iconst (v := (4)) (by decide) dX6_init_113 ?_
  refine y_geF (tgt := 136) dX6_init_114 (by decide) (by decide) ?_
  refine y_aload_n (q := 1) rfl rfl dX6_init_117 ?_
  refine y_getR (b := 72) (C := RX6) (T := TX6) sh_0 (by omega) (by decide) rfl in_X6 9 (by decide) (by decide) fl_X6_56 (by simp [upr, upR, cR_X5, cR_X3, cR_X2, cR_X1, cR_X0] <;> omega) dX6_init_118 ?_
  refine y_iload_n (q := 0) rfl rfl dX6_init_121 ?_
  refine y_new (C := RX3) (T := TX3) tyX3 tyX3_ok sh_80 (by decide) rfl in_X3 nl_X6_54 (df_3 _) (by decide) (by decide) dX6_init_122 ?_
  refine y_dup rfl dX6_init_125 ?_
  refine y_call (a := 80) (y_X3_init (a := 80) (by unfold xSs; decide) _ _) (Nat.le_of_ble_eq_true rfl) rfl (by decide) (by decide) yl_X6_63 cd3_X3_init xd3_X3_init (Nat.le_of_ble_eq_true rfl) (by decide) (by decide) dX6_init_126 ?_
  refine y_aast (q := 2) (j := 3) (C := RX3) (T := TX3) sh_72 (by first | exact Or.inl ⟨rfl, rfl⟩ | exact Or.inr ⟨rfl, rfl⟩) (by omega) (by omega) sh_80 (by decide) rfl (by decide) (by decide) dX6_init_129 ?_
  refine y_iinc (q := 0) (v := 4) (lv' := [(1, .int 4), (0, .ref (g.1 0))]) dX6_init_130 rfl (by decide) (by decide) rfl ?_
  refine y_goto (tgt := 112) dX6_init_133 (by decide) ?_
  refine y_iload_n (q := 0) rfl rfl dX6_init_112 ?_
  refine y_iconst (v := (4)) (by decide) dX6_init_113 ?_
  refine y_geT (tgt := 136) dX6_init_114 (by decide) (by decide) ?_
  exact y_ret rfl (by decide) (by decide) dX6_init_136
