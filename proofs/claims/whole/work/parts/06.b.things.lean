abbrev md_X4_beginAs : xM := (0, 3, RX4, cX4_beginAs, none)
def f_X4_beginAs (a0 : Nat) (a1 : Int32) (a2 : Int32) (im : IM) : IM :=
  bnd (up im a0 0 a1) fun m1 =>
  bnd (up m1 a0 1 a2) fun m2 =>
  bnd (up m2 a0 2 4) fun m3 =>
  bnd (up m3 a0 3 0) fun m4 =>
  bnd (up m4 a0 4 0) fun m5 =>
  bnd (up m5 a0 5 0) fun m6 =>
  bnd (up m6 a0 6 0) fun m7 =>
  bnd (up m7 a0 7 0) fun m8 =>
  m8
set_option maxRecDepth 20000 in
set_option maxHeartbeats 4000000 in
theorem s_X4_beginAs {g : GX} {a0 : Nat} (h0 : xSH a0 = (4, 8))    (a1 : Int32) (a2 : Int32) (im : IM) : X g md_X4_beginAs eV 0 [(0, .ref (g.1 a0)), (1, .int a1), (2, .int a2)] [] im (some (f_X4_beginAs a0 a1 a2 im)) := by
  refine x_aload_n (q := 0) rfl rfl dX4_beginAs_0 ?_
  refine x_iload_n (q := 1) rfl rfl dX4_beginAs_1 ?_
  refine x_put (C := RX4) (T := TX4) (ty := .int) tyX4 tyX4_ok nmX4 h0 (by decide) rfl in_X4 0 (by decide) (by decide) fl_X4_9 rfl (by decide +kernel) rfl rfl dX4_beginAs_2 ?_
  refine x_bs (x_bm (fun m1 => ?_))
  refine x_aload_n (q := 0) rfl rfl dX4_beginAs_5 ?_
  refine x_iload_n (q := 2) rfl rfl dX4_beginAs_6 ?_
  refine x_put (C := RX4) (T := TX4) (ty := .int) tyX4 tyX4_ok nmX4 h0 (by decide) rfl in_X4 1 (by decide) (by decide) fl_X4_15 rfl (by decide +kernel) rfl rfl dX4_beginAs_7 ?_
  refine x_bs (x_bm (fun m2 => ?_))
  refine x_aload_n (q := 0) rfl rfl dX4_beginAs_10 ?_
  refine x_iconst (v := (4)) (by decide) dX4_beginAs_11 ?_
  refine x_put (C := RX4) (T := TX4) (ty := .int) tyX4 tyX4_ok nmX4 h0 (by decide) rfl in_X4 2 (by decide) (by decide) fl_X4_18 rfl (by decide +kernel) rfl rfl dX4_beginAs_12 ?_
  refine x_bs (x_bm (fun m3 => ?_))
  refine x_aload_n (q := 0) rfl rfl dX4_beginAs_15 ?_
  refine x_iconst (v := (0)) (by decide) dX4_beginAs_16 ?_
  refine x_put (C := RX4) (T := TX4) (ty := .int) tyX4 tyX4_ok nmX4 h0 (by decide) rfl in_X4 3 (by decide) (by decide) fl_X4_21 rfl (by decide +kernel) rfl rfl dX4_beginAs_17 ?_
  refine x_bs (x_bm (fun m4 => ?_))
  refine x_aload_n (q := 0) rfl rfl dX4_beginAs_20 ?_
  refine x_iconst (v := (0)) (by decide) dX4_beginAs_21 ?_
  refine x_put (C := RX4) (T := TX4) (ty := .int) tyX4 tyX4_ok nmX4 h0 (by decide) rfl in_X4 4 (by decide) (by decide) fl_X4_24 rfl (by decide +kernel) rfl rfl dX4_beginAs_22 ?_
  refine x_bs (x_bm (fun m5 => ?_))
  refine x_aload_n (q := 0) rfl rfl dX4_beginAs_25 ?_
  refine x_iconst (v := (0)) (by decide) dX4_beginAs_26 ?_
  refine x_put (C := RX4) (T := TX4) (ty := .int) tyX4 tyX4_ok nmX4 h0 (by decide) rfl in_X4 5 (by decide) (by decide) fl_X4_27 rfl (by decide +kernel) rfl rfl dX4_beginAs_27 ?_
  refine x_bs (x_bm (fun m6 => ?_))
  refine x_aload_n (q := 0) rfl rfl dX4_beginAs_30 ?_
  refine x_iconst (v := (0)) (by decide) dX4_beginAs_31 ?_
  refine x_put (C := RX4) (T := TX4) (ty := .int) tyX4 tyX4_ok nmX4 h0 (by decide) rfl in_X4 6 (by decide) (by decide) fl_X4_30 rfl (by decide +kernel) rfl rfl dX4_beginAs_32 ?_
  refine x_bs (x_bm (fun m7 => ?_))
  refine x_aload_n (q := 0) rfl rfl dX4_beginAs_35 ?_
  refine x_iconst (v := (0)) (by decide) dX4_beginAs_36 ?_
  refine x_put (C := RX4) (T := TX4) (ty := .int) tyX4 tyX4_ok nmX4 h0 (by decide) rfl in_X4 7 (by decide) (by decide) fl_X4_33 rfl (by decide +kernel) rfl rfl dX4_beginAs_37 ?_
  refine x_bs (x_bm (fun m8 => ?_))
  exact x_vret rfl rfl dX4_beginAs_40
theorem m_X4_beginAs {g : GX} {a0 : Nat} (h0 : xSH a0 = (4, 8))    (a1 : Int32) (a2 : Int32) (im : IM) : xMet g 0 yX4_beginAs cX4_beginAs 3 none [.ref (g.1 a0), .int a1, .int a2] im (eV (f_X4_beginAs a0 a1 a2 im)) := x_met (by decide) (Nat.le_of_ble_eq_true rfl) rfl (s_X4_beginAs h0 a1 a2 im) _ rfl
abbrev md_X4_become : xM := (0, 2, RX4, cX4_become, none)
def f_X4_become (a0 : Nat) (a1 : Nat) (im : IM) : IM :=
  bnd (up im a0 0 (im a1 0)) fun m1 =>
  bnd (up m1 a0 1 (m1 a1 1)) fun m2 =>
  bnd (up m2 a0 2 (m2 a1 2)) fun m3 =>
  bnd (up m3 a0 3 (m3 a1 3)) fun m4 =>
  bnd (up m4 a0 4 (m4 a1 4)) fun m5 =>
  bnd (up m5 a0 5 (m5 a1 5)) fun m6 =>
  bnd (up m6 a0 6 (m6 a1 6)) fun m7 =>
  bnd (up m7 a0 7 (m7 a1 7)) fun m8 =>
  m8
set_option maxRecDepth 20000 in
set_option maxHeartbeats 4000000 in
theorem s_X4_become {g : GX} {a0 : Nat} (h0 : xSH a0 = (4, 8)) {a1 : Nat} (h1 : xSH a1 = (4, 8))   (im : IM) : X g md_X4_become eV 0 [(0, .ref (g.1 a0)), (1, .ref (g.1 a1))] [] im (some (f_X4_become a0 a1 im)) := by
  refine x_aload_n (q := 0) rfl rfl dX4_become_0 ?_
  refine x_aload_n (q := 1) rfl rfl dX4_become_1 ?_
  refine x_get (C := RX4) (T := TX4) h1 (by decide) rfl in_X4 0 (by decide) fl_X4_9 xf_4_0 dX4_become_2 ?_
  refine x_put (C := RX4) (T := TX4) (ty := .int) tyX4 tyX4_ok nmX4 h0 (by decide) rfl in_X4 0 (by decide) (by decide) fl_X4_9 rfl (by decide +kernel) rfl rfl dX4_become_5 ?_
  refine x_bs (x_bm (fun m1 => ?_))
  refine x_aload_n (q := 0) rfl rfl dX4_become_8 ?_
  refine x_aload_n (q := 1) rfl rfl dX4_become_9 ?_
  refine x_get (C := RX4) (T := TX4) h1 (by decide) rfl in_X4 1 (by decide) fl_X4_15 xf_4_1 dX4_become_10 ?_
  refine x_put (C := RX4) (T := TX4) (ty := .int) tyX4 tyX4_ok nmX4 h0 (by decide) rfl in_X4 1 (by decide) (by decide) fl_X4_15 rfl (by decide +kernel) rfl rfl dX4_become_13 ?_
  refine x_bs (x_bm (fun m2 => ?_))
  refine x_aload_n (q := 0) rfl rfl dX4_become_16 ?_
  refine x_aload_n (q := 1) rfl rfl dX4_become_17 ?_
  refine x_get (C := RX4) (T := TX4) h1 (by decide) rfl in_X4 2 (by decide) fl_X4_18 xf_4_2 dX4_become_18 ?_
  refine x_put (C := RX4) (T := TX4) (ty := .int) tyX4 tyX4_ok nmX4 h0 (by decide) rfl in_X4 2 (by decide) (by decide) fl_X4_18 rfl (by decide +kernel) rfl rfl dX4_become_21 ?_
  refine x_bs (x_bm (fun m3 => ?_))
  refine x_aload_n (q := 0) rfl rfl dX4_become_24 ?_
  refine x_aload_n (q := 1) rfl rfl dX4_become_25 ?_
  refine x_get (C := RX4) (T := TX4) h1 (by decide) rfl in_X4 3 (by decide) fl_X4_21 xf_4_3 dX4_become_26 ?_
  refine x_put (C := RX4) (T := TX4) (ty := .int) tyX4 tyX4_ok nmX4 h0 (by decide) rfl in_X4 3 (by decide) (by decide) fl_X4_21 rfl (by decide +kernel) rfl rfl dX4_become_29 ?_
  refine x_bs (x_bm (fun m4 => ?_))
  refine x_aload_n (q := 0) rfl rfl dX4_become_32 ?_
  refine x_aload_n (q := 1) rfl rfl dX4_become_33 ?_
  refine x_get (C := RX4) (T := TX4) h1 (by decide) rfl in_X4 4 (by decide) fl_X4_24 xf_4_4 dX4_become_34 ?_
  refine x_put (C := RX4) (T := TX4) (ty := .int) tyX4 tyX4_ok nmX4 h0 (by decide) rfl in_X4 4 (by decide) (by decide) fl_X4_24 rfl (by decide +kernel) rfl rfl dX4_become_37 ?_
  refine x_bs (x_bm (fun m5 => ?_))
  refine x_aload_n (q := 0) rfl rfl dX4_become_40 ?_
  refine x_aload_n (q := 1) rfl rfl dX4_become_41 ?_
  refine x_get (C := RX4) (T := TX4) h1 (by decide) rfl in_X4 5 (by decide) fl_X4_27 xf_4_5 dX4_become_42 ?_
  refine x_put (C := RX4) (T := TX4) (ty := .int) tyX4 tyX4_ok nmX4 h0 (by decide) rfl in_X4 5 (by decide) (by decide) fl_X4_27 rfl (by decide +kernel) rfl rfl dX4_become_45 ?_
  refine x_bs (x_bm (fun m6 => ?_))
  refine x_aload_n (q := 0) rfl rfl dX4_become_48 ?_
  refine x_aload_n (q := 1) rfl rfl dX4_become_49 ?_
  refine x_get (C := RX4) (T := TX4) h1 (by decide) rfl in_X4 6 (by decide) fl_X4_30 xf_4_6 dX4_become_50 ?_
  refine x_put (C := RX4) (T := TX4) (ty := .int) tyX4 tyX4_ok nmX4 h0 (by decide) rfl in_X4 6 (by decide) (by decide) fl_X4_30 rfl (by decide +kernel) rfl rfl dX4_become_53 ?_
  refine x_bs (x_bm (fun m7 => ?_))
  refine x_aload_n (q := 0) rfl rfl dX4_become_56 ?_
  refine x_aload_n (q := 1) rfl rfl dX4_become_57 ?_
  refine x_get (C := RX4) (T := TX4) h1 (by decide) rfl in_X4 7 (by decide) fl_X4_33 xf_4_7 dX4_become_58 ?_
  refine x_put (C := RX4) (T := TX4) (ty := .int) tyX4 tyX4_ok nmX4 h0 (by decide) rfl in_X4 7 (by decide) (by decide) fl_X4_33 rfl (by decide +kernel) rfl rfl dX4_become_61 ?_
  refine x_bs (x_bm (fun m8 => ?_))
  exact x_vret rfl rfl dX4_become_64
theorem m_X4_become {g : GX} {a0 : Nat} (h0 : xSH a0 = (4, 8)) {a1 : Nat} (h1 : xSH a1 = (4, 8))   (im : IM) : xMet g 0 yX4_become cX4_become 2 none [.ref (g.1 a0), .ref (g.1 a1)] im (eV (f_X4_become a0 a1 im)) := x_met (by decide) (Nat.le_of_ble_eq_true rfl) rfl (s_X4_become h0 h1 im) _ rfl
abbrev md_X4_letGo : xM := (0, 2, RX4, cX4_letGo, none)
def f_X4_letGo (a0 : Nat) (a1 : Int32) (im : IM) : IM :=
  bnd (up im a0 6 1) fun m1 =>
  bnd (up m1 a0 5 a1) fun m2 =>
  m2
set_option maxRecDepth 20000 in
set_option maxHeartbeats 4000000 in
theorem s_X4_letGo {g : GX} {a0 : Nat} (h0 : xSH a0 = (4, 8))   (a1 : Int32) (im : IM) : X g md_X4_letGo eV 0 [(0, .ref (g.1 a0)), (1, .int a1)] [] im (some (f_X4_letGo a0 a1 im)) := by
  refine x_aload_n (q := 0) rfl rfl dX4_letGo_0 ?_
  refine x_iconst (v := (1)) (by decide) dX4_letGo_1 ?_
  refine x_put (C := RX4) (T := TX4) (ty := .int) tyX4 tyX4_ok nmX4 h0 (by decide) rfl in_X4 6 (by decide) (by decide) fl_X4_30 rfl (by decide +kernel) rfl rfl dX4_letGo_2 ?_
  refine x_bs (x_bm (fun m1 => ?_))
  refine x_aload_n (q := 0) rfl rfl dX4_letGo_5 ?_
  refine x_iload_n (q := 1) rfl rfl dX4_letGo_6 ?_
  refine x_put (C := RX4) (T := TX4) (ty := .int) tyX4 tyX4_ok nmX4 h0 (by decide) rfl in_X4 5 (by decide) (by decide) fl_X4_27 rfl (by decide +kernel) rfl rfl dX4_letGo_7 ?_
  refine x_bs (x_bm (fun m2 => ?_))
  exact x_vret rfl rfl dX4_letGo_10
theorem m_X4_letGo {g : GX} {a0 : Nat} (h0 : xSH a0 = (4, 8))   (a1 : Int32) (im : IM) : xMet g 0 yX4_letGo cX4_letGo 2 none [.ref (g.1 a0), .int a1] im (eV (f_X4_letGo a0 a1 im)) := x_met (by decide) (Nat.le_of_ble_eq_true rfl) rfl (s_X4_letGo h0 a1 im) _ rfl
abbrev md_X4_gainFrom : xM := (1, 3, RX4, cX4_gainFrom, (some .int))
def f_X4_gainFrom_j1 (a0 : Nat) (a1 : Int32)  (x2 : Int32) (im : IM) : Int32 :=
  (x2 + 2)
set_option maxRecDepth 20000 in
set_option maxHeartbeats 4000000 in
theorem s_X4_gainFrom_j1 {g : GX} {a0 : Nat} (h0 : xSH a0 = (4, 8)) (a1 : Int32)   (im : IM)  (x2 : Int32)  : X g md_X4_gainFrom (eR im) 48 [(2, .int x2)] [] im (some (f_X4_gainFrom_j1 a0 a1 x2 im)) := by
  refine x_iload_n (q := 0) rfl rfl dX4_gainFrom_48 ?_
  refine x_iconst (v := (2)) (by decide) dX4_gainFrom_49 ?_
  refine x_iadd dX4_gainFrom_50 ?_
  exact x_iret rfl rfl dX4_gainFrom_51
def f_X4_gainFrom_j2 (a0 : Nat) (a1 : Int32)  (x2 : Int32) (im : IM) : Int32 :=
  x2
set_option maxRecDepth 20000 in
set_option maxHeartbeats 4000000 in
theorem s_X4_gainFrom_j2 {g : GX} {a0 : Nat} (h0 : xSH a0 = (4, 8)) (a1 : Int32)   (im : IM)  (x2 : Int32)  : X g md_X4_gainFrom (eR im) 70 [(2, .int x2)] [] im (some (f_X4_gainFrom_j2 a0 a1 x2 im)) := by
  refine x_iload_n (q := 0) rfl rfl dX4_gainFrom_70 ?_
  exact x_iret rfl rfl dX4_gainFrom_71
def f_X4_gainFrom (a0 : Nat) (a1 : Int32) (im : IM) : Int32 :=
  bnd (a1 * (im a0 2)) fun v1 =>
  if (im a0 0) = 1 then
    f_X4_gainFrom_j1 a0 a1 v1 im
  else if (im a0 0) = 2 then
    f_X4_gainFrom_j2 a0 a1 v1 im
  else if (im a0 0) = 3 then
    ((v1 + 2) + ((im a0 1) / 10))
  else if (im a0 0) = 4 then
    f_X4_gainFrom_j2 a0 a1 v1 im
  else if (im a0 0) = 5 then
    f_X4_gainFrom_j1 a0 a1 v1 im
  else if (im a0 0) = 6 then
    (jmin v1 0)
  else 
    f_X4_gainFrom_j2 a0 a1 v1 im
set_option maxRecDepth 20000 in
set_option maxHeartbeats 4000000 in
theorem s_X4_gainFrom {g : GX} {a0 : Nat} (h0 : xSH a0 = (4, 8))   (a1 : Int32) (im : IM) : X g md_X4_gainFrom (eR im) 0 [(0, .ref (g.1 a0)), (1, .int a1)] [] im (some (f_X4_gainFrom a0 a1 im)) := by
  refine x_iload_n (q := 1) rfl rfl dX4_gainFrom_0 ?_
  refine x_aload_n (q := 0) rfl rfl dX4_gainFrom_1 ?_
  refine x_get (C := RX4) (T := TX4) h0 (by decide) rfl in_X4 2 (by decide) fl_X4_18 xf_4_2 dX4_gainFrom_2 ?_
  refine x_imul dX4_gainFrom_5 ?_
  refine x_bs (x_bi (fun v1 => ?_))
  refine x_istore_n (lv' := [(2, .int v1), (0, .ref (g.1 a0)), (1, .int a1)]) rfl dX4_gainFrom_6 (by decide) rfl ?_
  refine x_aload_n (q := 1) rfl rfl dX4_gainFrom_7 ?_
  refine x_get (C := RX4) (T := TX4) h0 (by decide) rfl in_X4 0 (by decide) fl_X4_9 xf_4_0 dX4_gainFrom_8 ?_
  refine x_cs (x_case (k := 1) (fun hx11_0 => ?_) (fun hx11_0 => ?_))
  · refine x_tsw (off := 37) (tgt := 48) dX4_gainFrom_11 (by rw [hx11_0]; decide) (by rw [hx11_0]; decide) (by rw [hx11_0]; rfl) (by decide) ?_
    refine x_sub [0] rfl ?_
    exact s_X4_gainFrom_j1 h0 a1 im v1
  refine x_cs (x_case (k := 2) (fun hx11_1 => ?_) (fun hx11_1 => ?_))
  · refine x_tsw (off := 59) (tgt := 70) dX4_gainFrom_11 (by rw [hx11_1]; decide) (by rw [hx11_1]; decide) (by rw [hx11_1]; rfl) (by decide) ?_
    refine x_sub [0] rfl ?_
    exact s_X4_gainFrom_j2 h0 a1 im v1
  refine x_cs (x_case (k := 3) (fun hx11_2 => ?_) (fun hx11_2 => ?_))
  · refine x_tsw (off := 41) (tgt := 52) dX4_gainFrom_11 (by rw [hx11_2]; decide) (by rw [hx11_2]; decide) (by rw [hx11_2]; rfl) (by decide) ?_
    refine x_iload_n (q := 0) rfl rfl dX4_gainFrom_52 ?_
    refine x_iconst (v := (2)) (by decide) dX4_gainFrom_53 ?_
    refine x_iadd dX4_gainFrom_54 ?_
    refine x_aload_n (q := 1) rfl rfl dX4_gainFrom_55 ?_
    refine x_get (C := RX4) (T := TX4) h0 (by decide) rfl in_X4 1 (by decide) fl_X4_15 xf_4_1 dX4_gainFrom_56 ?_
    refine x_bipush (v := (10)) (by decide) dX4_gainFrom_59 ?_
    refine x_idiv (by decide) dX4_gainFrom_61 ?_
    refine x_iadd dX4_gainFrom_62 ?_
    exact x_iret rfl rfl dX4_gainFrom_63
  refine x_cs (x_case (k := 4) (fun hx11_3 => ?_) (fun hx11_3 => ?_))
  · refine x_tsw (off := 59) (tgt := 70) dX4_gainFrom_11 (by rw [hx11_3]; decide) (by rw [hx11_3]; decide) (by rw [hx11_3]; rfl) (by decide) ?_
    refine x_sub [0] rfl ?_
    exact s_X4_gainFrom_j2 h0 a1 im v1
  refine x_cs (x_case (k := 5) (fun hx11_4 => ?_) (fun hx11_4 => ?_))
  · refine x_tsw (off := 37) (tgt := 48) dX4_gainFrom_11 (by rw [hx11_4]; decide) (by rw [hx11_4]; decide) (by rw [hx11_4]; rfl) (by decide) ?_
    refine x_sub [0] rfl ?_
    exact s_X4_gainFrom_j1 h0 a1 im v1
  refine x_cs (x_case (k := 6) (fun hx11_5 => ?_) (fun hx11_5 => ?_))
  · refine x_tsw (off := 53) (tgt := 64) dX4_gainFrom_11 (by rw [hx11_5]; decide) (by rw [hx11_5]; decide) (by rw [hx11_5]; rfl) (by decide) ?_
    refine x_iload_n (q := 0) rfl rfl dX4_gainFrom_64 ?_
    refine x_iconst (v := (0)) (by decide) dX4_gainFrom_65 ?_
    refine x_mmin lk_X4_36 (by decide) (Nat.le_of_ble_eq_true rfl) dX4_gainFrom_66 ?_
    exact x_iret rfl rfl dX4_gainFrom_69
  have ho11 : ((im a0 0)).toInt < 1 ∨ 6 < ((im a0 0)).toInt := by
    refine x_out (fun k h1 h2 => ?_)
    have hk : k = 1 ∨ k = 2 ∨ k = 3 ∨ k = 4 ∨ k = 5 ∨ k = 6 := by omega
    rcases hk with rfl | rfl | rfl | rfl | rfl | rfl
    · exact hx11_0
    · exact hx11_1
    · exact hx11_2
    · exact hx11_3
    · exact hx11_4
    · exact hx11_5
  refine x_tsd (tgt := 70) dX4_gainFrom_11 ho11 (by decide) ?_
  refine x_sub [0] rfl ?_
  exact s_X4_gainFrom_j2 h0 a1 im v1
theorem m_X4_gainFrom {g : GX} {a0 : Nat} (h0 : xSH a0 = (4, 8))   (a1 : Int32) (im : IM) : xMet g 1 yX4_gainFrom cX4_gainFrom 3 (some .int) [.ref (g.1 a0), .int a1] im ((eR im) (f_X4_gainFrom a0 a1 im)) := x_met (by decide) (Nat.le_of_ble_eq_true rfl) rfl (s_X4_gainFrom h0 a1 im) _ rfl
abbrev md_X4_dragOn : xM := (1, 3, RX4, cX4_dragOn, (some .int))
def f_X4_dragOn_j2 (a0 : Nat) (a1 : Int32)  (x2 : Int32) (im : IM) : Option (Int32) :=
  some x2
set_option maxRecDepth 20000 in
set_option maxHeartbeats 4000000 in
theorem s_X4_dragOn_j2 {g : GX} {a0 : Nat} (h0 : xSH a0 = (4, 8)) (a1 : Int32)   (im : IM)  (x2 : Int32)  : X g md_X4_dragOn (eR im) 82 [(2, .int x2)] [] im (f_X4_dragOn_j2 a0 a1 x2 im) := by
  refine x_iload_n (q := 0) rfl rfl dX4_dragOn_82 ?_
  exact x_iret rfl rfl dX4_dragOn_83
def f_X4_dragOn_j3 (a0 : Nat) (a1 : Int32)  (s0 : Int32) (s1 : Int32) (im : IM) : Option (Int32) :=
  some (s1 - s0)
set_option maxRecDepth 20000 in
set_option maxHeartbeats 4000000 in
theorem s_X4_dragOn_j3 {g : GX} {a0 : Nat} (h0 : xSH a0 = (4, 8)) (a1 : Int32)   (im : IM)  (s0 : Int32) (s1 : Int32)  : X g md_X4_dragOn (eR im) 76 [] [.int s0, .int s1] im (f_X4_dragOn_j3 a0 a1 s0 s1 im) := by
  refine x_isub dX4_dragOn_76 ?_
  exact x_iret rfl rfl dX4_dragOn_77
def f_X4_dragOn_j1 (a0 : Nat) (a1 : Int32)  (s0 : Int32) (im : IM) : Option (Int32) :=
  if (im a0 0) = 2 then
    some (s0 + (im a0 3))
  else if (im a0 0) = 3 then
    f_X4_dragOn_j2 a0 a1 s0 im
  else if (im a0 0) = 4 then
    if a1 = 2 then
      f_X4_dragOn_j3 a0 a1 10 (s0 + (im a0 3)) im
    else
      f_X4_dragOn_j3 a0 a1 0 (s0 + (im a0 3)) im
  else if (im a0 0) = 5 then
    some (s0 / 2)
  else 
    f_X4_dragOn_j2 a0 a1 s0 im
set_option maxRecDepth 20000 in
set_option maxHeartbeats 4000000 in
theorem s_X4_dragOn_j1 {g : GX} {a0 : Nat} (h0 : xSH a0 = (4, 8)) (a1 : Int32)   (im : IM)  (s0 : Int32)  : X g md_X4_dragOn (eR im) 18 [(0, .ref (g.1 a0)), (1, .int a1)] [.int s0] im (f_X4_dragOn_j1 a0 a1 s0 im) := by
  refine x_istore_n (lv' := [(2, .int s0), (0, .ref (g.1 a0)), (1, .int a1)]) rfl dX4_dragOn_18 (by decide) rfl ?_
  refine x_aload_n (q := 1) rfl rfl dX4_dragOn_19 ?_
  refine x_get (C := RX4) (T := TX4) h0 (by decide) rfl in_X4 0 (by decide) fl_X4_9 xf_4_0 dX4_dragOn_20 ?_
  refine x_case (k := 2) (fun hx23_0 => ?_) (fun hx23_0 => ?_)
  · refine x_tsw (off := 29) (tgt := 52) dX4_dragOn_23 (by rw [hx23_0]; decide) (by rw [hx23_0]; decide) (by rw [hx23_0]; rfl) (by decide) ?_
    refine x_iload_n (q := 0) rfl rfl dX4_dragOn_52 ?_
    refine x_aload_n (q := 1) rfl rfl dX4_dragOn_53 ?_
    refine x_get (C := RX4) (T := TX4) h0 (by decide) rfl in_X4 3 (by decide) fl_X4_21 xf_4_3 dX4_dragOn_54 ?_
    refine x_iadd dX4_dragOn_57 ?_
    exact x_iret rfl rfl dX4_dragOn_58
  refine x_case (k := 3) (fun hx23_1 => ?_) (fun hx23_1 => ?_)
  · refine x_tsw (off := 59) (tgt := 82) dX4_dragOn_23 (by rw [hx23_1]; decide) (by rw [hx23_1]; decide) (by rw [hx23_1]; rfl) (by decide) ?_
    refine x_sub [0] rfl ?_
    exact s_X4_dragOn_j2 h0 a1 im s0
  refine x_case (k := 4) (fun hx23_2 => ?_) (fun hx23_2 => ?_)
  · refine x_tsw (off := 36) (tgt := 59) dX4_dragOn_23 (by rw [hx23_2]; decide) (by rw [hx23_2]; decide) (by rw [hx23_2]; rfl) (by decide) ?_
    refine x_iload_n (q := 0) rfl rfl dX4_dragOn_59 ?_
    refine x_aload_n (q := 1) rfl rfl dX4_dragOn_60 ?_
    refine x_get (C := RX4) (T := TX4) h0 (by decide) rfl in_X4 3 (by decide) fl_X4_21 xf_4_3 dX4_dragOn_61 ?_
    refine x_iadd dX4_dragOn_64 ?_
    refine x_iload_n (q := 2) rfl rfl dX4_dragOn_65 ?_
    refine x_iconst (v := (2)) (by decide) dX4_dragOn_66 ?_
    refine x_icmp_ne (tgt := 75) dX4_dragOn_67 (by decide) ?_ ?_
    · refine x_iconst (v := (0)) (by decide) dX4_dragOn_75 ?_
      refine x_sub [] rfl ?_
      exact s_X4_dragOn_j3 h0 a1 im 0 (s0 + (im a0 3))
    · refine x_bipush (v := (10)) (by decide) dX4_dragOn_70 ?_
      refine x_goto (tgt := 76) dX4_dragOn_72 (by decide) ?_
      refine x_sub [] rfl ?_
      exact s_X4_dragOn_j3 h0 a1 im 10 (s0 + (im a0 3))
  refine x_case (k := 5) (fun hx23_3 => ?_) (fun hx23_3 => ?_)
  · refine x_tsw (off := 55) (tgt := 78) dX4_dragOn_23 (by rw [hx23_3]; decide) (by rw [hx23_3]; decide) (by rw [hx23_3]; rfl) (by decide) ?_
    refine x_iload_n (q := 0) rfl rfl dX4_dragOn_78 ?_
    refine x_iconst (v := (2)) (by decide) dX4_dragOn_79 ?_
    refine x_idiv (by decide) dX4_dragOn_80 ?_
    exact x_iret rfl rfl dX4_dragOn_81
  have ho23 : ((im a0 0)).toInt < 2 ∨ 5 < ((im a0 0)).toInt := by
    refine x_out (fun k h1 h2 => ?_)
    have hk : k = 2 ∨ k = 3 ∨ k = 4 ∨ k = 5 := by omega
    rcases hk with rfl | rfl | rfl | rfl
    · exact hx23_0
    · exact hx23_1
    · exact hx23_2
    · exact hx23_3
  refine x_tsd (tgt := 82) dX4_dragOn_23 ho23 (by decide) ?_
  refine x_sub [0] rfl ?_
  exact s_X4_dragOn_j2 h0 a1 im s0
def f_X4_dragOn (a0 : Nat) (a1 : Int32) (im : IM) : Option (Int32) :=
  if (f_X6_within a1 0 4) = 0 then
    f_X4_dragOn_j1 a0 a1 0 im
  else
    if inb a1 5 = true then
      f_X4_dragOn_j1 a0 a1 (xPD (ix a1)) im
    else none
set_option maxRecDepth 20000 in
set_option maxHeartbeats 4000000 in
theorem s_X4_dragOn {g : GX} {a0 : Nat} (h0 : xSH a0 = (4, 8))   (a1 : Int32) (im : IM) : X g md_X4_dragOn (eR im) 0 [(0, .ref (g.1 a0)), (1, .int a1)] [] im (f_X4_dragOn a0 a1 im) := by
  refine x_iload_n (q := 1) rfl rfl dX4_dragOn_0 ?_
  refine x_iconst (v := (0)) (by decide) dX4_dragOn_1 ?_
  refine x_iconst (v := (4)) (by decide) dX4_dragOn_2 ?_
  refine x_callSR (av := [.int a1, .int 0, .int 4]) (st := []) (m_X6_within  a1 0 4 im) rfl (by decide) (by decide) lk_X4_42 cd_X6_within xd_X6_within rfl (Nat.le_of_ble_eq_true rfl) dX4_dragOn_3 ?_
  refine x_if_eq (tgt := 17) dX4_dragOn_6 (by decide) ?_ ?_
  · refine x_iconst (v := (0)) (by decide) dX4_dragOn_17 ?_
    refine x_sub [0, 1] rfl ?_
    exact s_X4_dragOn_j1 h0 a1 im 0
  · refine x_getPD fl_X4_46 dX4_dragOn_9 ?_
    refine x_iload_n (q := 1) rfl rfl dX4_dragOn_12 ?_
    refine x_aldPD dX4_dragOn_13 ?_
    refine x_goto (tgt := 18) dX4_dragOn_14 (by decide) ?_
    refine x_sub [0, 1] rfl ?_
    exact s_X4_dragOn_j1 h0 a1 im (xPD (ix a1))
theorem m_X4_dragOn {g : GX} {a0 : Nat} (h0 : xSH a0 = (4, 8))   (a1 : Int32) (im : IM) (r : Int32) (hr : f_X4_dragOn a0 a1 im = some r) : xMet g 1 yX4_dragOn cX4_dragOn 3 (some .int) [.ref (g.1 a0), .int a1] im ((eR im) r) := x_met (by decide) (Nat.le_of_ble_eq_true rfl) rfl (s_X4_dragOn h0 a1 im) r hr
abbrev md_X4_stop : xM := (0, 1, RX4, cX4_stop, none)
def f_X4_stop (a0 : Nat) (im : IM) : IM :=
  bnd (up im a0 6 0) fun m1 =>
  bnd (up m1 a0 5 0) fun m2 =>
  m2
set_option maxRecDepth 20000 in
set_option maxHeartbeats 4000000 in
theorem s_X4_stop {g : GX} {a0 : Nat} (h0 : xSH a0 = (4, 8))  (im : IM) : X g md_X4_stop eV 0 [(0, .ref (g.1 a0))] [] im (some (f_X4_stop a0 im)) := by
  refine x_aload_n (q := 0) rfl rfl dX4_stop_0 ?_
  refine x_iconst (v := (0)) (by decide) dX4_stop_1 ?_
  refine x_put (C := RX4) (T := TX4) (ty := .int) tyX4 tyX4_ok nmX4 h0 (by decide) rfl in_X4 6 (by decide) (by decide) fl_X4_30 rfl (by decide +kernel) rfl rfl dX4_stop_2 ?_
  refine x_bs (x_bm (fun m1 => ?_))
  refine x_aload_n (q := 0) rfl rfl dX4_stop_5 ?_
  refine x_iconst (v := (0)) (by decide) dX4_stop_6 ?_
  refine x_put (C := RX4) (T := TX4) (ty := .int) tyX4 tyX4_ok nmX4 h0 (by decide) rfl in_X4 5 (by decide) (by decide) fl_X4_27 rfl (by decide +kernel) rfl rfl dX4_stop_7 ?_
  refine x_bs (x_bm (fun m2 => ?_))
  exact x_vret rfl rfl dX4_stop_10
theorem m_X4_stop {g : GX} {a0 : Nat} (h0 : xSH a0 = (4, 8))  (im : IM) : xMet g 0 yX4_stop cX4_stop 1 none [.ref (g.1 a0)] im (eV (f_X4_stop a0 im)) := x_met (by decide) (Nat.le_of_ble_eq_true rfl) rfl (s_X4_stop h0 im) _ rfl
abbrev md_X4_bendLimit : xM := (0, 1, RX4, cX4_bendLimit, (some .int))
def f_X4_bendLimit_j1 (a0 : Nat)   (im : IM) : Int32 :=
  30
set_option maxRecDepth 20000 in
set_option maxHeartbeats 4000000 in
theorem s_X4_bendLimit_j1 {g : GX} {a0 : Nat} (h0 : xSH a0 = (4, 8))   (im : IM)    : X g md_X4_bendLimit (eR im) 40 [] [] im (some (f_X4_bendLimit_j1 a0 im)) := by
  refine x_bipush (v := (30)) (by decide) dX4_bendLimit_40 ?_
  exact x_iret rfl rfl dX4_bendLimit_42
def f_X4_bendLimit_j2 (a0 : Nat)   (im : IM) : Int32 :=
  (40 - (3 * (im a0 3)))
set_option maxRecDepth 20000 in
set_option maxHeartbeats 4000000 in
theorem s_X4_bendLimit_j2 {g : GX} {a0 : Nat} (h0 : xSH a0 = (4, 8))   (im : IM)    : X g md_X4_bendLimit (eR im) 46 [(0, .ref (g.1 a0))] [] im (some (f_X4_bendLimit_j2 a0 im)) := by
  refine x_bipush (v := (40)) (by decide) dX4_bendLimit_46 ?_
  refine x_iconst (v := (3)) (by decide) dX4_bendLimit_48 ?_
  refine x_aload_n (q := 0) rfl rfl dX4_bendLimit_49 ?_
  refine x_get (C := RX4) (T := TX4) h0 (by decide) rfl in_X4 3 (by decide) fl_X4_21 xf_4_3 dX4_bendLimit_50 ?_
  refine x_imul dX4_bendLimit_53 ?_
  refine x_isub dX4_bendLimit_54 ?_
  exact x_iret rfl rfl dX4_bendLimit_55
def f_X4_bendLimit (a0 : Nat) (im : IM) : Int32 :=
  if (im a0 0) = 1 then
    f_X4_bendLimit_j1 a0 im
  else if (im a0 0) = 2 then
    f_X4_bendLimit_j2 a0 im
  else if (im a0 0) = 3 then
    55
  else if (im a0 0) = 4 then
    f_X4_bendLimit_j2 a0 im
  else if (im a0 0) = 5 then
    f_X4_bendLimit_j1 a0 im
  else 
    40
set_option maxRecDepth 20000 in
set_option maxHeartbeats 4000000 in
theorem s_X4_bendLimit {g : GX} {a0 : Nat} (h0 : xSH a0 = (4, 8))  (im : IM) : X g md_X4_bendLimit (eR im) 0 [(0, .ref (g.1 a0))] [] im (some (f_X4_bendLimit a0 im)) := by
  refine x_aload_n (q := 0) rfl rfl dX4_bendLimit_0 ?_
  refine x_get (C := RX4) (T := TX4) h0 (by decide) rfl in_X4 0 (by decide) fl_X4_9 xf_4_0 dX4_bendLimit_1 ?_
  refine x_cs (x_case (k := 1) (fun hx4_0 => ?_) (fun hx4_0 => ?_))
  · refine x_tsw (off := 36) (tgt := 40) dX4_bendLimit_4 (by rw [hx4_0]; decide) (by rw [hx4_0]; decide) (by rw [hx4_0]; rfl) (by decide) ?_
    refine x_sub [] rfl ?_
    exact s_X4_bendLimit_j1 h0 im
  refine x_cs (x_case (k := 2) (fun hx4_1 => ?_) (fun hx4_1 => ?_))
  · refine x_tsw (off := 42) (tgt := 46) dX4_bendLimit_4 (by rw [hx4_1]; decide) (by rw [hx4_1]; decide) (by rw [hx4_1]; rfl) (by decide) ?_
    refine x_sub [0] rfl ?_
    exact s_X4_bendLimit_j2 h0 im
  refine x_cs (x_case (k := 3) (fun hx4_2 => ?_) (fun hx4_2 => ?_))
  · refine x_tsw (off := 39) (tgt := 43) dX4_bendLimit_4 (by rw [hx4_2]; decide) (by rw [hx4_2]; decide) (by rw [hx4_2]; rfl) (by decide) ?_
    refine x_bipush (v := (55)) (by decide) dX4_bendLimit_43 ?_
    exact x_iret rfl rfl dX4_bendLimit_45
  refine x_cs (x_case (k := 4) (fun hx4_3 => ?_) (fun hx4_3 => ?_))
  · refine x_tsw (off := 42) (tgt := 46) dX4_bendLimit_4 (by rw [hx4_3]; decide) (by rw [hx4_3]; decide) (by rw [hx4_3]; rfl) (by decide) ?_
    refine x_sub [0] rfl ?_
    exact s_X4_bendLimit_j2 h0 im
  refine x_cs (x_case (k := 5) (fun hx4_4 => ?_) (fun hx4_4 => ?_))
  · refine x_tsw (off := 36) (tgt := 40) dX4_bendLimit_4 (by rw [hx4_4]; decide) (by rw [hx4_4]; decide) (by rw [hx4_4]; rfl) (by decide) ?_
    refine x_sub [] rfl ?_
    exact s_X4_bendLimit_j1 h0 im
  have ho4 : ((im a0 0)).toInt < 1 ∨ 5 < ((im a0 0)).toInt := by
    refine x_out (fun k h1 h2 => ?_)
    have hk : k = 1 ∨ k = 2 ∨ k = 3 ∨ k = 4 ∨ k = 5 := by omega
    rcases hk with rfl | rfl | rfl | rfl | rfl
    · exact hx4_0
    · exact hx4_1
    · exact hx4_2
    · exact hx4_3
    · exact hx4_4
  refine x_tsd (tgt := 56) dX4_bendLimit_4 ho4 (by decide) ?_
  refine x_bipush (v := (40)) (by decide) dX4_bendLimit_56 ?_
  exact x_iret rfl rfl dX4_bendLimit_58
theorem m_X4_bendLimit {g : GX} {a0 : Nat} (h0 : xSH a0 = (4, 8))  (im : IM) : xMet g 0 yX4_bendLimit cX4_bendLimit 1 (some .int) [.ref (g.1 a0)] im ((eR im) (f_X4_bendLimit a0 im)) := x_met (by decide) (Nat.le_of_ble_eq_true rfl) rfl (s_X4_bendLimit h0 im) _ rfl
abbrev md_X3_begin : xM := (0, 4, RX3, cX3_begin, none)
def f_X3_begin_l2b (a0 : Nat) (a1 : Int32) (a2 : Int32)   (k20 : Int32 → IM → Option (IM)) (x3 : Int32) (im : IM) : Option (IM) :=
  if 40 ≤ x3 then
    some im
  else
    if inb x3 40 = true then
      bnd (up im (a0 + 1) (ix x3) 0) fun m3 =>
      bnd (x3 + 1) fun v4 =>
      k20 v4 m3
    else none
def f_X3_begin_l2 (a0 : Nat) (a1 : Int32) (a2 : Int32)   : Nat → Int32 → IM → Option (IM)
  | 0, _, _ => none
  | n + 1, x3, im => f_X3_begin_l2b a0 a1 a2 (f_X3_begin_l2 a0 a1 a2 n) x3 im
set_option maxRecDepth 20000 in
set_option maxHeartbeats 4000000 in
theorem s_X3_begin_l2b {g : GX} {a0 : Nat} (h0 : xSs a0) (a1 : Int32) (a2 : Int32)    (k20 : Int32 → IM → Option (IM)) (hk20 : ∀ (x3 : Int32) (im : IM), X g md_X3_begin eV 20 [(0, .ref (g.1 a0)), (3, .int x3)] [] im (k20 x3 im)) (x3 : Int32)  (im : IM) : X g md_X3_begin eV 20 [(0, .ref (g.1 a0)), (3, .int x3)] [] im (f_X3_begin_l2b a0 a1 a2 k20 x3 im) := by
  refine x_iload_n (q := 1) rfl rfl dX3_begin_20 ?_
  refine x_bipush (v := (40)) (by decide) dX3_begin_21 ?_
  refine x_icmp_ge (tgt := 39) dX3_begin_23 (by decide) ?_ ?_
  · exact x_vret rfl rfl dX3_begin_39
  · refine x_aload_n (q := 0) rfl rfl dX3_begin_26 ?_
    refine x_get (C := RX3) (T := TX3) (xSs_o h0) (by decide) rfl in_X3 0 (by decide) fl_X3_9 xf_3_0 dX3_begin_27 ?_
    refine x_iload_n (q := 1) rfl rfl dX3_begin_30 ?_
    refine x_iconst (v := (0)) (by decide) dX3_begin_31 ?_
    refine x_iast (xSs_1 h0) dX3_begin_32 ?_
    refine x_bm (fun m3 => ?_)
    refine x_iinc (q := 1) (a := 1) (lv' := fun v4 => [(3, .int v4), (0, .ref (g.1 a0))]) dX3_begin_33 rfl (by decide) (by decide) (fun _ => rfl) (fun v4 => ?_)
    refine x_goto (tgt := 20) dX3_begin_36 (by decide) ?_
    refine x_sub [1, 0] rfl ?_
    exact hk20 v4 m3
set_option maxRecDepth 20000 in
set_option maxHeartbeats 4000000 in
theorem s_X3_begin_l2 {g : GX} {a0 : Nat} (h0 : xSs a0) (a1 : Int32) (a2 : Int32)    (n : Nat) : ∀ (x3 : Int32) (im : IM), X g md_X3_begin eV 20 [(0, .ref (g.1 a0)), (3, .int x3)] [] im (f_X3_begin_l2 a0 a1 a2 n x3 im) := by
  induction n with
  | zero => intro x3 im; exact x_none
  | succ n ih => intro x3 im; exact s_X3_begin_l2b h0 a1 a2 (f_X3_begin_l2 a0 a1 a2 n) ih x3 im
def f_X3_begin_j1 (a0 : Nat) (a1 : Int32) (a2 : Int32)  (s0 : Int32) (im : IM) : Option (IM) :=
  bnd (up im a0 2 s0) fun m2 =>
  f_X3_begin_l2 a0 a1 a2 xF 0 m2
set_option maxRecDepth 20000 in
set_option maxHeartbeats 4000000 in
theorem s_X3_begin_j1 {g : GX} {a0 : Nat} (h0 : xSs a0) (a1 : Int32) (a2 : Int32)    (s0 : Int32)  (im : IM) : X g md_X3_begin eV 15 [(0, .ref (g.1 a0))] [.int s0, .ref (g.1 a0)] im (f_X3_begin_j1 a0 a1 a2 s0 im) := by
  refine x_put (C := RX3) (T := TX3) (ty := .int) tyX3 tyX3_ok nmX3 (xSs_o h0) (by decide) rfl in_X3 2 (by decide) (by decide) fl_X3_19 rfl (by decide +kernel) rfl rfl dX3_begin_15 ?_
  refine x_bm (fun m2 => ?_)
  refine x_iconst (v := (0)) (by decide) dX3_begin_18 ?_
  refine x_istore_n (lv' := [(3, .int 0), (0, .ref (g.1 a0))]) rfl dX3_begin_19 (by decide) rfl ?_
  refine x_sub [1, 0] rfl ?_
  exact s_X3_begin_l2 h0 a1 a2 xF 0 m2
def f_X3_begin (a0 : Nat) (a1 : Int32) (a2 : Int32) (im : IM) : Option (IM) :=
  bnd (up im a0 1 a1) fun m1 =>
  if a1 = 0 then
    f_X3_begin_j1 a0 a1 a2 0 m1
  else
    f_X3_begin_j1 a0 a1 a2 a2 m1
set_option maxRecDepth 20000 in
set_option maxHeartbeats 4000000 in
theorem s_X3_begin {g : GX} {a0 : Nat} (h0 : xSs a0)    (a1 : Int32) (a2 : Int32) (im : IM) : X g md_X3_begin eV 0 [(0, .ref (g.1 a0)), (1, .int a1), (2, .int a2)] [] im (f_X3_begin a0 a1 a2 im) := by
  refine x_aload_n (q := 0) rfl rfl dX3_begin_0 ?_
  refine x_iload_n (q := 1) rfl rfl dX3_begin_1 ?_
  refine x_put (C := RX3) (T := TX3) (ty := .int) tyX3 tyX3_ok nmX3 (xSs_o h0) (by decide) rfl in_X3 1 (by decide) (by decide) fl_X3_15 rfl (by decide +kernel) rfl rfl dX3_begin_2 ?_
  refine x_bm (fun m1 => ?_)
  refine x_aload_n (q := 0) rfl rfl dX3_begin_5 ?_
  refine x_iload_n (q := 1) rfl rfl dX3_begin_6 ?_
  refine x_if_ne (tgt := 14) dX3_begin_7 (by decide) ?_ ?_
  · refine x_iload_n (q := 2) rfl rfl dX3_begin_14 ?_
    refine x_sub [0] rfl ?_
    exact s_X3_begin_j1 h0 a1 a2 a2 m1
  · refine x_iconst (v := (0)) (by decide) dX3_begin_10 ?_
    refine x_goto (tgt := 15) dX3_begin_11 (by decide) ?_
    refine x_sub [0] rfl ?_
    exact s_X3_begin_j1 h0 a1 a2 0 m1
theorem m_X3_begin {g : GX} {a0 : Nat} (h0 : xSs a0)    (a1 : Int32) (a2 : Int32) (im : IM) (r : IM) (hr : f_X3_begin a0 a1 a2 im = some r) : xMet g 0 yX3_begin cX3_begin 4 none [.ref (g.1 a0), .int a1, .int a2] im (eV r) := x_met (by decide) (Nat.le_of_ble_eq_true rfl) rfl (s_X3_begin h0 a1 a2 im) r hr
abbrev md_X3_isMissing : xM := (0, 1, RX3, cX3_isMissing, (some .boolean))
def f_X3_isMissing (a0 : Nat) (im : IM) : Int32 :=
  if (im a0 1) = 0 then
    1
  else
    0
set_option maxRecDepth 20000 in
set_option maxHeartbeats 4000000 in
theorem s_X3_isMissing {g : GX} {a0 : Nat} (h0 : xSs a0)  (im : IM) : X g md_X3_isMissing (eR im) 0 [(0, .ref (g.1 a0))] [] im (some (f_X3_isMissing a0 im)) := by
  refine x_aload_n (q := 0) rfl rfl dX3_isMissing_0 ?_
  refine x_get (C := RX3) (T := TX3) (xSs_o h0) (by decide) rfl in_X3 1 (by decide) fl_X3_15 xf_3_1 dX3_isMissing_1 ?_
  refine x_cs ?_
  refine x_if_ne (tgt := 11) dX3_isMissing_4 (by decide) ?_ ?_
  · refine x_iconst (v := (0)) (by decide) dX3_isMissing_11 ?_
    exact x_nret (y := 0) rfl rfl (by decide) dX3_isMissing_12
  · refine x_iconst (v := (1)) (by decide) dX3_isMissing_7 ?_
    refine x_goto (tgt := 12) dX3_isMissing_8 (by decide) ?_
    exact x_nret (y := 1) rfl rfl (by decide) dX3_isMissing_12
theorem m_X3_isMissing {g : GX} {a0 : Nat} (h0 : xSs a0)  (im : IM) : xMet g 0 yX3_isMissing cX3_isMissing 1 (some .boolean) [.ref (g.1 a0)] im ((eR im) (f_X3_isMissing a0 im)) := x_met (by decide) (Nat.le_of_ble_eq_true rfl) rfl (s_X3_isMissing h0 im) _ rfl
abbrev md_X3_hasPart : xM := (0, 3, RX3, cX3_hasPart, (some .boolean))
def f_X3_hasPart_j1 (a0 : Nat) (a1 : Int32) (a2 : Int32)   (im : IM) : Int32 :=
  0
set_option maxRecDepth 20000 in
set_option maxHeartbeats 4000000 in
theorem s_X3_hasPart_j1 {g : GX} {a0 : Nat} (h0 : xSs a0) (a1 : Int32) (a2 : Int32)   (im : IM)    : X g md_X3_hasPart (eR im) 30 [] [] im (some (f_X3_hasPart_j1 a0 a1 a2 im)) := by
  refine x_iconst (v := (0)) (by decide) dX3_hasPart_30 ?_
  exact x_nret (y := 0) rfl rfl (by decide) dX3_hasPart_31
def f_X3_hasPart (a0 : Nat) (a1 : Int32) (a2 : Int32) (im : IM) : Int32 :=
  if a1 < 0 then
    f_X3_hasPart_j1 a0 a1 a2 im
  else
    if a2 < 0 then
      f_X3_hasPart_j1 a0 a1 a2 im
    else
      if (im a0 2) < a2 then
        f_X3_hasPart_j1 a0 a1 a2 im
      else
        if ((im a0 2) - a2) < a1 then
          f_X3_hasPart_j1 a0 a1 a2 im
        else
          1
set_option maxRecDepth 20000 in
set_option maxHeartbeats 4000000 in
theorem s_X3_hasPart {g : GX} {a0 : Nat} (h0 : xSs a0)    (a1 : Int32) (a2 : Int32) (im : IM) : X g md_X3_hasPart (eR im) 0 [(0, .ref (g.1 a0)), (1, .int a1), (2, .int a2)] [] im (some (f_X3_hasPart a0 a1 a2 im)) := by
  refine x_iload_n (q := 1) rfl rfl dX3_hasPart_0 ?_
  refine x_cs ?_
  refine x_if_lt (tgt := 30) dX3_hasPart_1 (by decide) ?_ ?_
  · refine x_sub [] rfl ?_
    exact s_X3_hasPart_j1 h0 a1 a2 im
  · refine x_iload_n (q := 2) rfl rfl dX3_hasPart_4 ?_
    refine x_cs ?_
    refine x_if_lt (tgt := 30) dX3_hasPart_5 (by decide) ?_ ?_
    · refine x_sub [] rfl ?_
      exact s_X3_hasPart_j1 h0 a1 a2 im
    · refine x_iload_n (q := 2) rfl rfl dX3_hasPart_8 ?_
      refine x_aload_n (q := 0) rfl rfl dX3_hasPart_9 ?_
      refine x_get (C := RX3) (T := TX3) (xSs_o h0) (by decide) rfl in_X3 2 (by decide) fl_X3_19 xf_3_2 dX3_hasPart_10 ?_
      refine x_cs ?_
      refine x_icmp_gt (tgt := 30) dX3_hasPart_13 (by decide) ?_ ?_
      · refine x_sub [] rfl ?_
        exact s_X3_hasPart_j1 h0 a1 a2 im
      · refine x_iload_n (q := 1) rfl rfl dX3_hasPart_16 ?_
        refine x_aload_n (q := 0) rfl rfl dX3_hasPart_17 ?_
        refine x_get (C := RX3) (T := TX3) (xSs_o h0) (by decide) rfl in_X3 2 (by decide) fl_X3_19 xf_3_2 dX3_hasPart_18 ?_
        refine x_iload_n (q := 2) rfl rfl dX3_hasPart_21 ?_
        refine x_isub dX3_hasPart_22 ?_
        refine x_cs ?_
        refine x_icmp_gt (tgt := 30) dX3_hasPart_23 (by decide) ?_ ?_
        · refine x_sub [] rfl ?_
          exact s_X3_hasPart_j1 h0 a1 a2 im
        · refine x_iconst (v := (1)) (by decide) dX3_hasPart_26 ?_
          refine x_goto (tgt := 31) dX3_hasPart_27 (by decide) ?_
          exact x_nret (y := 1) rfl rfl (by decide) dX3_hasPart_31
theorem m_X3_hasPart {g : GX} {a0 : Nat} (h0 : xSs a0)    (a1 : Int32) (a2 : Int32) (im : IM) : xMet g 0 yX3_hasPart cX3_hasPart 3 (some .boolean) [.ref (g.1 a0), .int a1, .int a2] im ((eR im) (f_X3_hasPart a0 a1 a2 im)) := x_met (by decide) (Nat.le_of_ble_eq_true rfl) rfl (s_X3_hasPart h0 a1 a2 im) _ rfl
abbrev md_X3_cutToBits : xM := (0, 2, RX3, cX3_cutToBits, (some .int))
def f_X3_cutToBits (a0 : Nat) (a1 : Int32) (im : IM) : Int32 :=
  if (im a0 1) = 8 then
    a1.toInt8.toInt32
  else if (im a0 1) = 16 then
    a1.toInt16.toInt32
  else 
    a1
set_option maxRecDepth 20000 in
set_option maxHeartbeats 4000000 in
theorem s_X3_cutToBits {g : GX} {a0 : Nat} (h0 : xSs a0)   (a1 : Int32) (im : IM) : X g md_X3_cutToBits (eR im) 0 [(0, .ref (g.1 a0)), (1, .int a1)] [] im (some (f_X3_cutToBits a0 a1 im)) := by
  refine x_aload_n (q := 0) rfl rfl dX3_cutToBits_0 ?_
  refine x_get (C := RX3) (T := TX3) (xSs_o h0) (by decide) rfl in_X3 1 (by decide) fl_X3_15 xf_3_1 dX3_cutToBits_1 ?_
  refine x_cs (x_case (k := 8) (fun hx4_0 => ?_) (fun hx4_0 => ?_))
  · refine x_lsw (off := 28) (tgt := 32) dX3_cutToBits_4 (by decide) (by rw [hx4_0]; decide) (by decide) ?_
    refine x_iload_n (q := 1) rfl rfl dX3_cutToBits_32 ?_
    refine x_i2b dX3_cutToBits_33 ?_
    exact x_iret rfl rfl dX3_cutToBits_34
  refine x_cs (x_case (k := 16) (fun hx4_1 => ?_) (fun hx4_1 => ?_))
  · refine x_lsw (off := 31) (tgt := 35) dX3_cutToBits_4 (by decide) (by rw [hx4_1]; decide) (by decide) ?_
    refine x_iload_n (q := 1) rfl rfl dX3_cutToBits_35 ?_
    refine x_i2s dX3_cutToBits_36 ?_
    exact x_iret rfl rfl dX3_cutToBits_37
  refine x_lsw (off := 34) (tgt := 38) dX3_cutToBits_4 (by decide) ((lv_osw hx4_0 (by decide)).trans ((lv_osw hx4_1 (by decide)).trans (rfl))) (by decide) ?_
  refine x_iload_n (q := 1) rfl rfl dX3_cutToBits_38 ?_
  exact x_iret rfl rfl dX3_cutToBits_39
theorem m_X3_cutToBits {g : GX} {a0 : Nat} (h0 : xSs a0)   (a1 : Int32) (im : IM) : xMet g 0 yX3_cutToBits cX3_cutToBits 2 (some .int) [.ref (g.1 a0), .int a1] im ((eR im) (f_X3_cutToBits a0 a1 im)) := x_met (by decide) (Nat.le_of_ble_eq_true rfl) rfl (s_X3_cutToBits h0 a1 im) _ rfl
abbrev md_X4_isOfKind : xM := (1, 4, RX4, cX4_isOfKind, (some .boolean))
def f_X4_isOfKind_j2 (a0 : Nat) (a1 : Int32)   (im : IM) : Option (Int32) :=
  some 0
set_option maxRecDepth 20000 in
set_option maxHeartbeats 4000000 in
theorem s_X4_isOfKind_j2 {g : GX} {a0 : Nat} (h0 : xSH a0 = (4, 8)) (a1 : Int32)   (im : IM)    : X g md_X4_isOfKind (eR im) 42 [] [] im (f_X4_isOfKind_j2 a0 a1 im) := by
  refine x_iconst (v := (0)) (by decide) dX4_isOfKind_42 ?_
  exact x_nret (y := 0) rfl rfl (by decide) dX4_isOfKind_43
def f_X4_isOfKind_l1b (a0 : Nat) (a1 : Int32)  (im : IM) (k7 : Int32 → Int32 → Option (Int32)) (x2 : Int32) (x3 : Int32)  : Option (Int32) :=
  if 7 ≤ x3 then
    f_X4_isOfKind_j2 a0 a1 im
  else
    if (f_X6_within x2 0 6) = 0 then
      f_X4_isOfKind_j2 a0 a1 im
    else
      if x2 = a1 then
        some 1
      else
        if inb x2 7 = true then
          bnd (xKA (ix x2)) fun v2 =>
          bnd (x3 + 1) fun v3 =>
          k7 v2 v3
        else none
def f_X4_isOfKind_l1 (a0 : Nat) (a1 : Int32)  (im : IM) : Nat → Int32 → Int32 → Option (Int32)
  | 0, _, _ => none
  | n + 1, x2, x3 => f_X4_isOfKind_l1b a0 a1 im (f_X4_isOfKind_l1 a0 a1 im n) x2 x3
set_option maxRecDepth 20000 in
set_option maxHeartbeats 4000000 in
theorem s_X4_isOfKind_l1b {g : GX} {a0 : Nat} (h0 : xSH a0 = (4, 8)) (a1 : Int32)   (im : IM)  (k7 : Int32 → Int32 → Option (Int32)) (hk7 : ∀ (x2 : Int32) (x3 : Int32), X g md_X4_isOfKind (eR im) 7 [(1, .int a1), (2, .int x2), (3, .int x3)] [] im (k7 x2 x3)) (x2 : Int32) (x3 : Int32)  : X g md_X4_isOfKind (eR im) 7 [(1, .int a1), (2, .int x2), (3, .int x3)] [] im (f_X4_isOfKind_l1b a0 a1 im k7 x2 x3) := by
  refine x_iload_n (q := 2) rfl rfl dX4_isOfKind_7 ?_
  refine x_bipush (v := (7)) (by decide) dX4_isOfKind_8 ?_
  refine x_icmp_ge (tgt := 42) dX4_isOfKind_10 (by decide) ?_ ?_
  · refine x_sub [] rfl ?_
    exact s_X4_isOfKind_j2 h0 a1 im
  · refine x_iload_n (q := 1) rfl rfl dX4_isOfKind_13 ?_
    refine x_iconst (v := (0)) (by decide) dX4_isOfKind_14 ?_
    refine x_bipush (v := (6)) (by decide) dX4_isOfKind_15 ?_
    refine x_callSR (av := [.int x2, .int 0, .int 6]) (st := []) (m_X6_within  x2 0 6 im) rfl (by decide) (by decide) lk_X4_42 cd_X6_within xd_X6_within rfl (Nat.le_of_ble_eq_true rfl) dX4_isOfKind_17 ?_
    refine x_if_eq (tgt := 42) dX4_isOfKind_20 (by decide) ?_ ?_
    · refine x_sub [] rfl ?_
      exact s_X4_isOfKind_j2 h0 a1 im
    · refine x_iload_n (q := 1) rfl rfl dX4_isOfKind_23 ?_
      refine x_iload_n (q := 0) rfl rfl dX4_isOfKind_24 ?_
      refine x_icmp_ne (tgt := 30) dX4_isOfKind_25 (by decide) ?_ ?_
      · refine x_getKA fl_X4_50 dX4_isOfKind_30 ?_
        refine x_iload_n (q := 1) rfl rfl dX4_isOfKind_33 ?_
        refine x_aldKA dX4_isOfKind_34 ?_
        refine x_bi (fun v2 => ?_)
        refine x_istore_n (lv' := [(2, .int v2), (1, .int a1), (3, .int x3)]) rfl dX4_isOfKind_35 (by decide) rfl ?_
        refine x_iinc (q := 2) (a := 1) (lv' := fun v3 => [(3, .int v3), (2, .int v2), (1, .int a1)]) dX4_isOfKind_36 rfl (by decide) (by decide) (fun _ => rfl) (fun v3 => ?_)
        refine x_goto (tgt := 7) dX4_isOfKind_39 (by decide) ?_
        refine x_sub [2, 1, 0] rfl ?_
        exact hk7 v2 v3
      · refine x_iconst (v := (1)) (by decide) dX4_isOfKind_28 ?_
        exact x_nret (y := 1) rfl rfl (by decide) dX4_isOfKind_29
set_option maxRecDepth 20000 in
set_option maxHeartbeats 4000000 in
theorem s_X4_isOfKind_l1 {g : GX} {a0 : Nat} (h0 : xSH a0 = (4, 8)) (a1 : Int32)   (im : IM)  (n : Nat) : ∀ (x2 : Int32) (x3 : Int32), X g md_X4_isOfKind (eR im) 7 [(1, .int a1), (2, .int x2), (3, .int x3)] [] im (f_X4_isOfKind_l1 a0 a1 im n x2 x3) := by
  induction n with
  | zero => intro x2 x3; exact x_none
  | succ n ih => intro x2 x3; exact s_X4_isOfKind_l1b h0 a1 im (f_X4_isOfKind_l1 a0 a1 im n) ih x2 x3
def f_X4_isOfKind (a0 : Nat) (a1 : Int32) (im : IM) : Option (Int32) :=
  bnd (im a0 0) fun v1 =>
  f_X4_isOfKind_l1 a0 a1 im xF v1 0
set_option maxRecDepth 20000 in
set_option maxHeartbeats 4000000 in
theorem s_X4_isOfKind {g : GX} {a0 : Nat} (h0 : xSH a0 = (4, 8))   (a1 : Int32) (im : IM) : X g md_X4_isOfKind (eR im) 0 [(0, .ref (g.1 a0)), (1, .int a1)] [] im (f_X4_isOfKind a0 a1 im) := by
  refine x_aload_n (q := 0) rfl rfl dX4_isOfKind_0 ?_
  refine x_get (C := RX4) (T := TX4) h0 (by decide) rfl in_X4 0 (by decide) fl_X4_9 xf_4_0 dX4_isOfKind_1 ?_
  refine x_bi (fun v1 => ?_)
  refine x_istore_n (lv' := [(2, .int v1), (0, .ref (g.1 a0)), (1, .int a1)]) rfl dX4_isOfKind_4 (by decide) rfl ?_
  refine x_iconst (v := (0)) (by decide) dX4_isOfKind_5 ?_
  refine x_istore_n (lv' := [(3, .int 0), (2, .int v1), (0, .ref (g.1 a0)), (1, .int a1)]) rfl dX4_isOfKind_6 (by decide) rfl ?_
  refine x_sub [3, 1, 0] rfl ?_
  exact s_X4_isOfKind_l1 h0 a1 im xF v1 0
theorem m_X4_isOfKind {g : GX} {a0 : Nat} (h0 : xSH a0 = (4, 8))   (a1 : Int32) (im : IM) (r : Int32) (hr : f_X4_isOfKind a0 a1 im = some r) : xMet g 1 yX4_isOfKind cX4_isOfKind 4 (some .boolean) [.ref (g.1 a0), .int a1] im ((eR im) r) := x_met (by decide) (Nat.le_of_ble_eq_true rfl) rfl (s_X4_isOfKind h0 a1 im) r hr
abbrev md_X4_isStanding : xM := (0, 1, RX4, cX4_isStanding, (some .boolean))
def f_X4_isStanding_j1 (a0 : Nat)   (im : IM) : Int32 :=
  1
set_option maxRecDepth 20000 in
set_option maxHeartbeats 4000000 in
theorem s_X4_isStanding_j1 {g : GX} {a0 : Nat} (h0 : xSH a0 = (4, 8))   (im : IM)    : X g md_X4_isStanding (eR im) 15 [] [] im (some (f_X4_isStanding_j1 a0 im)) := by
  refine x_iconst (v := (1)) (by decide) dX4_isStanding_15 ?_
  refine x_goto (tgt := 20) dX4_isStanding_16 (by decide) ?_
  exact x_nret (y := 1) rfl rfl (by decide) dX4_isStanding_20
def f_X4_isStanding (a0 : Nat) (im : IM) : Int32 :=
  if (im a0 6) = 0 then
    f_X4_isStanding_j1 a0 im
  else
    if (im a0 6) = 1 then
      f_X4_isStanding_j1 a0 im
    else
      0
set_option maxRecDepth 20000 in
set_option maxHeartbeats 4000000 in
theorem s_X4_isStanding {g : GX} {a0 : Nat} (h0 : xSH a0 = (4, 8))  (im : IM) : X g md_X4_isStanding (eR im) 0 [(0, .ref (g.1 a0))] [] im (some (f_X4_isStanding a0 im)) := by
  refine x_aload_n (q := 0) rfl rfl dX4_isStanding_0 ?_
  refine x_get (C := RX4) (T := TX4) h0 (by decide) rfl in_X4 6 (by decide) fl_X4_30 xf_4_6 dX4_isStanding_1 ?_
  refine x_cs ?_
  refine x_if_eq (tgt := 15) dX4_isStanding_4 (by decide) ?_ ?_
  · refine x_sub [] rfl ?_
    exact s_X4_isStanding_j1 h0 im
  · refine x_aload_n (q := 0) rfl rfl dX4_isStanding_7 ?_
    refine x_get (C := RX4) (T := TX4) h0 (by decide) rfl in_X4 6 (by decide) fl_X4_30 xf_4_6 dX4_isStanding_8 ?_
    refine x_iconst (v := (1)) (by decide) dX4_isStanding_11 ?_
    refine x_cs ?_
    refine x_icmp_ne (tgt := 19) dX4_isStanding_12 (by decide) ?_ ?_
    · refine x_iconst (v := (0)) (by decide) dX4_isStanding_19 ?_
      exact x_nret (y := 0) rfl rfl (by decide) dX4_isStanding_20
    · refine x_sub [] rfl ?_
      exact s_X4_isStanding_j1 h0 im
theorem m_X4_isStanding {g : GX} {a0 : Nat} (h0 : xSH a0 = (4, 8))  (im : IM) : xMet g 0 yX4_isStanding cX4_isStanding 1 (some .boolean) [.ref (g.1 a0)] im ((eR im) (f_X4_isStanding a0 im)) := x_met (by decide) (Nat.le_of_ble_eq_true rfl) rfl (s_X4_isStanding h0 im) _ rfl
abbrev md_X4_canBeLetGo : xM := (0, 1, RX4, cX4_canBeLetGo, (some .boolean))
def f_X4_canBeLetGo_j1 (a0 : Nat)   (im : IM) : Int32 :=
  0
set_option maxRecDepth 20000 in
set_option maxHeartbeats 4000000 in
theorem s_X4_canBeLetGo_j1 {g : GX} {a0 : Nat} (h0 : xSH a0 = (4, 8))   (im : IM)    : X g md_X4_canBeLetGo (eR im) 20 [] [] im (some (f_X4_canBeLetGo_j1 a0 im)) := by
  refine x_iconst (v := (0)) (by decide) dX4_canBeLetGo_20 ?_
  exact x_nret (y := 0) rfl rfl (by decide) dX4_canBeLetGo_21
def f_X4_canBeLetGo (a0 : Nat) (im : IM) : Int32 :=
  if (im a0 6) = 0 then
    if (im a0 4) = 30 then
      f_X4_canBeLetGo_j1 a0 im
    else
      1
  else
    f_X4_canBeLetGo_j1 a0 im
set_option maxRecDepth 20000 in
set_option maxHeartbeats 4000000 in
theorem s_X4_canBeLetGo {g : GX} {a0 : Nat} (h0 : xSH a0 = (4, 8))  (im : IM) : X g md_X4_canBeLetGo (eR im) 0 [(0, .ref (g.1 a0))] [] im (some (f_X4_canBeLetGo a0 im)) := by
  refine x_aload_n (q := 0) rfl rfl dX4_canBeLetGo_0 ?_
  refine x_get (C := RX4) (T := TX4) h0 (by decide) rfl in_X4 6 (by decide) fl_X4_30 xf_4_6 dX4_canBeLetGo_1 ?_
  refine x_cs ?_
  refine x_if_ne (tgt := 20) dX4_canBeLetGo_4 (by decide) ?_ ?_
  · refine x_sub [] rfl ?_
    exact s_X4_canBeLetGo_j1 h0 im
  · refine x_aload_n (q := 0) rfl rfl dX4_canBeLetGo_7 ?_
    refine x_get (C := RX4) (T := TX4) h0 (by decide) rfl in_X4 4 (by decide) fl_X4_24 xf_4_4 dX4_canBeLetGo_8 ?_
    refine x_bipush (v := (30)) (by decide) dX4_canBeLetGo_11 ?_
    refine x_cs ?_
    refine x_icmp_eq (tgt := 20) dX4_canBeLetGo_13 (by decide) ?_ ?_
    · refine x_sub [] rfl ?_
      exact s_X4_canBeLetGo_j1 h0 im
    · refine x_iconst (v := (1)) (by decide) dX4_canBeLetGo_16 ?_
      refine x_goto (tgt := 21) dX4_canBeLetGo_17 (by decide) ?_
      exact x_nret (y := 1) rfl rfl (by decide) dX4_canBeLetGo_21
theorem m_X4_canBeLetGo {g : GX} {a0 : Nat} (h0 : xSH a0 = (4, 8))  (im : IM) : xMet g 0 yX4_canBeLetGo cX4_canBeLetGo 1 (some .boolean) [.ref (g.1 a0)] im ((eR im) (f_X4_canBeLetGo a0 im)) := x_met (by decide) (Nat.le_of_ble_eq_true rfl) rfl (s_X4_canBeLetGo h0 im) _ rfl
abbrev md_X4_wheelTime : xM := (0, 1, RX4, cX4_wheelTime, (some .int))
def f_X4_wheelTime (a0 : Nat) (im : IM) : Int32 :=
  (((im a0 1) / 10) + 1)
set_option maxRecDepth 20000 in
set_option maxHeartbeats 4000000 in
theorem s_X4_wheelTime {g : GX} {a0 : Nat} (h0 : xSH a0 = (4, 8))  (im : IM) : X g md_X4_wheelTime (eR im) 0 [(0, .ref (g.1 a0))] [] im (some (f_X4_wheelTime a0 im)) := by
  refine x_aload_n (q := 0) rfl rfl dX4_wheelTime_0 ?_
  refine x_get (C := RX4) (T := TX4) h0 (by decide) rfl in_X4 1 (by decide) fl_X4_15 xf_4_1 dX4_wheelTime_1 ?_
  refine x_bipush (v := (10)) (by decide) dX4_wheelTime_4 ?_
  refine x_idiv (by decide) dX4_wheelTime_6 ?_
  refine x_iconst (v := (1)) (by decide) dX4_wheelTime_7 ?_
  refine x_iadd dX4_wheelTime_8 ?_
  exact x_iret rfl rfl dX4_wheelTime_9
theorem m_X4_wheelTime {g : GX} {a0 : Nat} (h0 : xSH a0 = (4, 8))  (im : IM) : xMet g 0 yX4_wheelTime cX4_wheelTime 1 (some .int) [.ref (g.1 a0)] im ((eR im) (f_X4_wheelTime a0 im)) := x_met (by decide) (Nat.le_of_ble_eq_true rfl) rfl (s_X4_wheelTime h0 im) _ rfl
