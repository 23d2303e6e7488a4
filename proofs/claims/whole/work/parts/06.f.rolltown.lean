abbrev md_X6_refuse : xM := (1, 3, RX6, cX6_refuse, (some .int))
def f_X6_refuse_j1 (a1 : Int32)   (im : IM) : Option (Int32 × IM) :=
  some ((a1, im))
set_option maxRecDepth 20000 in
set_option maxHeartbeats 4000000 in
theorem s_X6_refuse_j1 {g : GX} (a1 : Int32)      (im : IM) : X g md_X6_refuse eI 25 [(1, .int a1)] [] im (f_X6_refuse_j1 a1 im) := by
  refine x_iload_n (q := 0) rfl rfl dX6_refuse_25 ?_
  exact x_iret rfl rfl dX6_refuse_26
def f_X6_refuse (a1 : Int32) (im : IM) : Option (Int32 × IM) :=
  bnd (((-1000001)) - a1) fun v1 =>
  if (f_X6_within v1 0 6) = 0 then
    f_X6_refuse_j1 a1 im
  else
    if inb v1 7 = true then
      if inb v1 7 = true then
        bnd (up im 73 (ix v1) ((im 73 (ix v1)) + 1)) fun m2 =>
        f_X6_refuse_j1 a1 m2
      else none
    else none
set_option maxRecDepth 20000 in
set_option maxHeartbeats 4000000 in
theorem s_X6_refuse {g : GX}  (a1 : Int32) (im : IM) : X g md_X6_refuse eI 0 [(0, .ref (g.1 0)), (1, .int a1)] [] im (f_X6_refuse a1 im) := by
  refine x_ldc co_X6_71 dX6_refuse_0 ?_
  refine x_iload_n (q := 1) rfl rfl dX6_refuse_2 ?_
  refine x_isub dX6_refuse_3 ?_
  refine x_bi (fun v1 => ?_)
  refine x_istore_n (lv' := [(2, .int v1), (0, .ref (g.1 0)), (1, .int a1)]) rfl dX6_refuse_4 (by decide) rfl ?_
  refine x_iload_n (q := 0) rfl rfl dX6_refuse_5 ?_
  refine x_iconst (v := (0)) (by decide) dX6_refuse_6 ?_
  refine x_bipush (v := (6)) (by decide) dX6_refuse_7 ?_
  refine x_callSR (av := [.int v1, .int 0, .int 6]) (st := []) (m_X6_within  v1 0 6 im) rfl (by decide) (by decide) lk_X6_79 cd_X6_within xd_X6_within rfl (Nat.le_of_ble_eq_true rfl) dX6_refuse_9 ?_
  refine x_if_eq (tgt := 25) dX6_refuse_12 (by decide) ?_ ?_
  · refine x_sub [2] rfl ?_
    exact s_X6_refuse_j1 a1 im
  · refine x_aload_n (q := 1) rfl rfl dX6_refuse_15 ?_
    refine x_get (C := RX6) (T := TX6) sh_0 (by decide) rfl in_X6 10 (by decide) fl_X6_60 xf_6_10 dX6_refuse_16 ?_
    refine x_iload_n (q := 0) rfl rfl dX6_refuse_19 ?_
    refine x_dup2 rfl rfl dX6_refuse_20 ?_
    refine x_iald sh_73 dX6_refuse_21 ?_
    refine x_iconst (v := (1)) (by decide) dX6_refuse_22 ?_
    refine x_iadd dX6_refuse_23 ?_
    refine x_iast sh_73 dX6_refuse_24 ?_
    refine x_bm (fun m2 => ?_)
    refine x_sub [2] rfl ?_
    exact s_X6_refuse_j1 a1 m2
theorem m_X6_refuse {g : GX}  (a1 : Int32) (im : IM) (r : Int32 × IM) (hr : f_X6_refuse a1 im = some r) : xMet g 1 yX6_refuse cX6_refuse 3 (some .int) [.ref (g.1 0), .int a1] im (eI r) := x_met (by decide) (Nat.le_of_ble_eq_true rfl) rfl (s_X6_refuse a1 im) r hr
abbrev md_X6_fall : xM := (2, 4, RX6, cX6_fall, (some .int))
def f_X6_fall_j1 (a1 : Int32) (a2 : Int32)   (im : IM) : Option (Int32 × IM) :=
  (f_X6_refuse ((-1000001)) im).bind fun r1 =>
  some ((r1.1, r1.2))
set_option maxRecDepth 20000 in
set_option maxHeartbeats 4000000 in
theorem s_X6_fall_j1 {g : GX} (a1 : Int32) (a2 : Int32)      (im : IM) : X g md_X6_fall eI 14 [(0, .ref (g.1 0))] [] im (f_X6_fall_j1 a1 a2 im) := by
  refine x_aload_n (q := 0) rfl rfl dX6_fall_14 ?_
  refine x_ldc co_X6_71 dX6_fall_15 ?_
  refine x_bind (fun r1 er1 => ?_)
  refine x_callVI (av := [.int ((-1000001))]) (st := []) (m_X6_refuse  (((-1000001))) im r1 er1) sh_0 (by decide) rfl rfl (by decide) (by decide) lk_X6_72 cd_X6_refuse xd_X6_refuse rfl (Nat.le_of_ble_eq_true rfl) dX6_fall_17 ?_
  exact x_iret rfl rfl dX6_fall_20
def f_X6_fall (a1 : Int32) (a2 : Int32) (im : IM) : Option (Int32 × IM) :=
  if (f_X6_isCell a1) = 0 then
    f_X6_fall_j1 a1 a2 im
  else
    if (f_X6_isFall a2) = 0 then
      f_X6_fall_j1 a1 a2 im
    else
      if inb a1 31 = true then
        bnd (im 2 (ix a1)) fun v2 =>
        if inb a1 31 = true then
          bnd (up im 2 (ix a1) a2) fun m3 =>
          some ((v2, m3))
        else none
      else none
set_option maxRecDepth 20000 in
set_option maxHeartbeats 4000000 in
theorem s_X6_fall {g : GX}   (a1 : Int32) (a2 : Int32) (im : IM) : X g md_X6_fall eI 0 [(0, .ref (g.1 0)), (1, .int a1), (2, .int a2)] [] im (f_X6_fall a1 a2 im) := by
  refine x_iload_n (q := 1) rfl rfl dX6_fall_0 ?_
  refine x_callSR (av := [.int a1]) (st := []) (m_X6_isCell  a1 im) rfl (by decide) (by decide) lk_X6_64 cd_X6_isCell xd_X6_isCell rfl (Nat.le_of_ble_eq_true rfl) dX6_fall_1 ?_
  refine x_if_eq (tgt := 14) dX6_fall_4 (by decide) ?_ ?_
  · refine x_sub [0] rfl ?_
    exact s_X6_fall_j1 a1 a2 im
  · refine x_iload_n (q := 2) rfl rfl dX6_fall_7 ?_
    refine x_callSR (av := [.int a2]) (st := []) (m_X6_isFall  a2 im) rfl (by decide) (by decide) lk_X6_68 cd_X6_isFall xd_X6_isFall rfl (Nat.le_of_ble_eq_true rfl) dX6_fall_8 ?_
    refine x_if_ne (tgt := 21) dX6_fall_11 (by decide) ?_ ?_
    · refine x_aload_n (q := 0) rfl rfl dX6_fall_21 ?_
      refine x_get (C := RX6) (T := TX6) sh_0 (by decide) rfl in_X6 0 (by decide) fl_X6_12 xf_6_0 dX6_fall_22 ?_
      refine x_get (C := RX5) (T := TX5) sh_1 (by decide) rfl in_X5 0 (by decide) fl_X6_76 xf_5_0 dX6_fall_25 ?_
      refine x_iload_n (q := 1) rfl rfl dX6_fall_28 ?_
      refine x_iald sh_2 dX6_fall_29 ?_
      refine x_bi (fun v2 => ?_)
      refine x_istore_n (lv' := [(3, .int v2), (0, .ref (g.1 0)), (1, .int a1), (2, .int a2)]) rfl dX6_fall_30 (by decide) rfl ?_
      refine x_aload_n (q := 1) rfl rfl dX6_fall_31 ?_
      refine x_get (C := RX6) (T := TX6) sh_0 (by decide) rfl in_X6 0 (by decide) fl_X6_12 xf_6_0 dX6_fall_32 ?_
      refine x_get (C := RX5) (T := TX5) sh_1 (by decide) rfl in_X5 0 (by decide) fl_X6_76 xf_5_0 dX6_fall_35 ?_
      refine x_iload_n (q := 2) rfl rfl dX6_fall_38 ?_
      refine x_iload_n (q := 3) rfl rfl dX6_fall_39 ?_
      refine x_iast sh_2 dX6_fall_40 ?_
      refine x_bm (fun m3 => ?_)
      refine x_iload_n (q := 0) rfl rfl dX6_fall_41 ?_
      exact x_iret rfl rfl dX6_fall_42
    · refine x_sub [0] rfl ?_
      exact s_X6_fall_j1 a1 a2 im
theorem m_X6_fall {g : GX}   (a1 : Int32) (a2 : Int32) (im : IM) (r : Int32 × IM) (hr : f_X6_fall a1 a2 im = some r) : xMet g 2 yX6_fall cX6_fall 4 (some .int) [.ref (g.1 0), .int a1, .int a2] im (eI r) := x_met (by decide) (Nat.le_of_ble_eq_true rfl) rfl (s_X6_fall a1 a2 im) r hr
abbrev md_X6_ground : xM := (2, 4, RX6, cX6_ground, (some .int))
def f_X6_ground_j1 (a1 : Int32) (a2 : Int32)   (im : IM) : Option (Int32 × IM) :=
  (f_X6_refuse ((-1000001)) im).bind fun r1 =>
  some ((r1.1, r1.2))
set_option maxRecDepth 20000 in
set_option maxHeartbeats 4000000 in
theorem s_X6_ground_j1 {g : GX} (a1 : Int32) (a2 : Int32)      (im : IM) : X g md_X6_ground eI 16 [(0, .ref (g.1 0))] [] im (f_X6_ground_j1 a1 a2 im) := by
  refine x_aload_n (q := 0) rfl rfl dX6_ground_16 ?_
  refine x_ldc co_X6_71 dX6_ground_17 ?_
  refine x_bind (fun r1 er1 => ?_)
  refine x_callVI (av := [.int ((-1000001))]) (st := []) (m_X6_refuse  (((-1000001))) im r1 er1) sh_0 (by decide) rfl rfl (by decide) (by decide) lk_X6_72 cd_X6_refuse xd_X6_refuse rfl (Nat.le_of_ble_eq_true rfl) dX6_ground_19 ?_
  exact x_iret rfl rfl dX6_ground_22
def f_X6_ground (a1 : Int32) (a2 : Int32) (im : IM) : Option (Int32 × IM) :=
  if (f_X6_isCell a1) = 0 then
    f_X6_ground_j1 a1 a2 im
  else
    if (f_X6_within a2 0 4) = 0 then
      f_X6_ground_j1 a1 a2 im
    else
      if inb a1 31 = true then
        bnd (im 3 (ix a1)) fun v2 =>
        if inb a1 31 = true then
          bnd (up im 3 (ix a1) a2) fun m3 =>
          some ((v2, m3))
        else none
      else none
set_option maxRecDepth 20000 in
set_option maxHeartbeats 4000000 in
theorem s_X6_ground {g : GX}   (a1 : Int32) (a2 : Int32) (im : IM) : X g md_X6_ground eI 0 [(0, .ref (g.1 0)), (1, .int a1), (2, .int a2)] [] im (f_X6_ground a1 a2 im) := by
  refine x_iload_n (q := 1) rfl rfl dX6_ground_0 ?_
  refine x_callSR (av := [.int a1]) (st := []) (m_X6_isCell  a1 im) rfl (by decide) (by decide) lk_X6_64 cd_X6_isCell xd_X6_isCell rfl (Nat.le_of_ble_eq_true rfl) dX6_ground_1 ?_
  refine x_if_eq (tgt := 16) dX6_ground_4 (by decide) ?_ ?_
  · refine x_sub [0] rfl ?_
    exact s_X6_ground_j1 a1 a2 im
  · refine x_iload_n (q := 2) rfl rfl dX6_ground_7 ?_
    refine x_iconst (v := (0)) (by decide) dX6_ground_8 ?_
    refine x_iconst (v := (4)) (by decide) dX6_ground_9 ?_
    refine x_callSR (av := [.int a2, .int 0, .int 4]) (st := []) (m_X6_within  a2 0 4 im) rfl (by decide) (by decide) lk_X6_79 cd_X6_within xd_X6_within rfl (Nat.le_of_ble_eq_true rfl) dX6_ground_10 ?_
    refine x_if_ne (tgt := 23) dX6_ground_13 (by decide) ?_ ?_
    · refine x_aload_n (q := 0) rfl rfl dX6_ground_23 ?_
      refine x_get (C := RX6) (T := TX6) sh_0 (by decide) rfl in_X6 0 (by decide) fl_X6_12 xf_6_0 dX6_ground_24 ?_
      refine x_get (C := RX5) (T := TX5) sh_1 (by decide) rfl in_X5 1 (by decide) fl_X6_83 xf_5_1 dX6_ground_27 ?_
      refine x_iload_n (q := 1) rfl rfl dX6_ground_30 ?_
      refine x_iald sh_3 dX6_ground_31 ?_
      refine x_bi (fun v2 => ?_)
      refine x_istore_n (lv' := [(3, .int v2), (0, .ref (g.1 0)), (1, .int a1), (2, .int a2)]) rfl dX6_ground_32 (by decide) rfl ?_
      refine x_aload_n (q := 1) rfl rfl dX6_ground_33 ?_
      refine x_get (C := RX6) (T := TX6) sh_0 (by decide) rfl in_X6 0 (by decide) fl_X6_12 xf_6_0 dX6_ground_34 ?_
      refine x_get (C := RX5) (T := TX5) sh_1 (by decide) rfl in_X5 1 (by decide) fl_X6_83 xf_5_1 dX6_ground_37 ?_
      refine x_iload_n (q := 2) rfl rfl dX6_ground_40 ?_
      refine x_iload_n (q := 3) rfl rfl dX6_ground_41 ?_
      refine x_iast sh_3 dX6_ground_42 ?_
      refine x_bm (fun m3 => ?_)
      refine x_iload_n (q := 0) rfl rfl dX6_ground_43 ?_
      exact x_iret rfl rfl dX6_ground_44
    · refine x_sub [0] rfl ?_
      exact s_X6_ground_j1 a1 a2 im
theorem m_X6_ground {g : GX}   (a1 : Int32) (a2 : Int32) (im : IM) (r : Int32 × IM) (hr : f_X6_ground a1 a2 im = some r) : xMet g 2 yX6_ground cX6_ground 4 (some .int) [.ref (g.1 0), .int a1, .int a2] im (eI r) := x_met (by decide) (Nat.le_of_ble_eq_true rfl) rfl (s_X6_ground a1 a2 im) r hr
abbrev md_X6_gate : xM := (2, 4, RX6, cX6_gate, (some .int))
def f_X6_gate_j1 (a1 : Int32) (a2 : Int32)   (im : IM) : Option (Int32 × IM) :=
  (f_X6_refuse ((-1000001)) im).bind fun r1 =>
  some ((r1.1, r1.2))
set_option maxRecDepth 20000 in
set_option maxHeartbeats 4000000 in
theorem s_X6_gate_j1 {g : GX} (a1 : Int32) (a2 : Int32)      (im : IM) : X g md_X6_gate eI 16 [(0, .ref (g.1 0))] [] im (f_X6_gate_j1 a1 a2 im) := by
  refine x_aload_n (q := 0) rfl rfl dX6_gate_16 ?_
  refine x_ldc co_X6_71 dX6_gate_17 ?_
  refine x_bind (fun r1 er1 => ?_)
  refine x_callVI (av := [.int ((-1000001))]) (st := []) (m_X6_refuse  (((-1000001))) im r1 er1) sh_0 (by decide) rfl rfl (by decide) (by decide) lk_X6_72 cd_X6_refuse xd_X6_refuse rfl (Nat.le_of_ble_eq_true rfl) dX6_gate_19 ?_
  exact x_iret rfl rfl dX6_gate_22
def f_X6_gate_j3 (a1 : Int32) (a2 : Int32)  (x3 : Int32) (im : IM) : Option (Int32 × IM) :=
  some ((x3, im))
set_option maxRecDepth 20000 in
set_option maxHeartbeats 4000000 in
theorem s_X6_gate_j3 {g : GX} (a1 : Int32) (a2 : Int32)    (x3 : Int32)  (im : IM) : X g md_X6_gate eI 68 [(3, .int x3)] [] im (f_X6_gate_j3 a1 a2 x3 im) := by
  refine x_iload_n (q := 0) rfl rfl dX6_gate_68 ?_
  exact x_iret rfl rfl dX6_gate_69
def f_X6_gate_j2 (a1 : Int32) (a2 : Int32)  (s0 : Int32) (im : IM) : Option (Int32 × IM) :=
  if a1 = 0 then
    bnd (up im 1 5 a2) fun m3 =>
    f_X6_gate_j3 a1 a2 s0 m3
  else
    bnd (up im 1 6 a2) fun m2 =>
    f_X6_gate_j3 a1 a2 s0 m2
set_option maxRecDepth 20000 in
set_option maxHeartbeats 4000000 in
theorem s_X6_gate_j2 {g : GX} (a1 : Int32) (a2 : Int32)    (s0 : Int32)  (im : IM) : X g md_X6_gate eI 44 [(0, .ref (g.1 0)), (1, .int a1), (2, .int a2)] [.int s0] im (f_X6_gate_j2 a1 a2 s0 im) := by
  refine x_istore_n (lv' := [(3, .int s0), (0, .ref (g.1 0)), (1, .int a1), (2, .int a2)]) rfl dX6_gate_44 (by decide) rfl ?_
  refine x_iload_n (q := 2) rfl rfl dX6_gate_45 ?_
  refine x_if_ne (tgt := 60) dX6_gate_46 (by decide) ?_ ?_
  · refine x_aload_n (q := 1) rfl rfl dX6_gate_60 ?_
    refine x_get (C := RX6) (T := TX6) sh_0 (by decide) rfl in_X6 0 (by decide) fl_X6_12 xf_6_0 dX6_gate_61 ?_
    refine x_iload_n (q := 3) rfl rfl dX6_gate_64 ?_
    refine x_put (C := RX5) (T := TX5) (ty := .int) tyX5 tyX5_ok nmX5 sh_1 (by decide) rfl in_X5 6 (by decide) (by decide) fl_X6_93 rfl (by decide +kernel) rfl rfl dX6_gate_65 ?_
    refine x_bm (fun m2 => ?_)
    refine x_sub [0] rfl ?_
    exact s_X6_gate_j3 a1 a2 s0 m2
  · refine x_aload_n (q := 1) rfl rfl dX6_gate_49 ?_
    refine x_get (C := RX6) (T := TX6) sh_0 (by decide) rfl in_X6 0 (by decide) fl_X6_12 xf_6_0 dX6_gate_50 ?_
    refine x_iload_n (q := 3) rfl rfl dX6_gate_53 ?_
    refine x_put (C := RX5) (T := TX5) (ty := .int) tyX5 tyX5_ok nmX5 sh_1 (by decide) rfl in_X5 5 (by decide) (by decide) fl_X6_89 rfl (by decide +kernel) rfl rfl dX6_gate_54 ?_
    refine x_bm (fun m3 => ?_)
    refine x_goto (tgt := 68) dX6_gate_57 (by decide) ?_
    refine x_sub [0] rfl ?_
    exact s_X6_gate_j3 a1 a2 s0 m3
def f_X6_gate (a1 : Int32) (a2 : Int32) (im : IM) : Option (Int32 × IM) :=
  if (f_X6_within a1 0 1) = 0 then
    f_X6_gate_j1 a1 a2 im
  else
    if (f_X6_isMinuteOfHour a2) = 0 then
      f_X6_gate_j1 a1 a2 im
    else
      if a1 = 0 then
        f_X6_gate_j2 a1 a2 (im 1 5) im
      else
        f_X6_gate_j2 a1 a2 (im 1 6) im
set_option maxRecDepth 20000 in
set_option maxHeartbeats 4000000 in
theorem s_X6_gate {g : GX}   (a1 : Int32) (a2 : Int32) (im : IM) : X g md_X6_gate eI 0 [(0, .ref (g.1 0)), (1, .int a1), (2, .int a2)] [] im (f_X6_gate a1 a2 im) := by
  refine x_iload_n (q := 1) rfl rfl dX6_gate_0 ?_
  refine x_iconst (v := (0)) (by decide) dX6_gate_1 ?_
  refine x_iconst (v := (1)) (by decide) dX6_gate_2 ?_
  refine x_callSR (av := [.int a1, .int 0, .int 1]) (st := []) (m_X6_within  a1 0 1 im) rfl (by decide) (by decide) lk_X6_79 cd_X6_within xd_X6_within rfl (Nat.le_of_ble_eq_true rfl) dX6_gate_3 ?_
  refine x_if_eq (tgt := 16) dX6_gate_6 (by decide) ?_ ?_
  · refine x_sub [0] rfl ?_
    exact s_X6_gate_j1 a1 a2 im
  · refine x_iload_n (q := 2) rfl rfl dX6_gate_9 ?_
    refine x_callSR (av := [.int a2]) (st := []) (m_X6_isMinuteOfHour  a2 im) rfl (by decide) (by decide) lk_X6_86 cd_X6_isMinuteOfHour xd_X6_isMinuteOfHour rfl (Nat.le_of_ble_eq_true rfl) dX6_gate_10 ?_
    refine x_if_ne (tgt := 23) dX6_gate_13 (by decide) ?_ ?_
    · refine x_iload_n (q := 1) rfl rfl dX6_gate_23 ?_
      refine x_if_ne (tgt := 37) dX6_gate_24 (by decide) ?_ ?_
      · refine x_aload_n (q := 0) rfl rfl dX6_gate_37 ?_
        refine x_get (C := RX6) (T := TX6) sh_0 (by decide) rfl in_X6 0 (by decide) fl_X6_12 xf_6_0 dX6_gate_38 ?_
        refine x_get (C := RX5) (T := TX5) sh_1 (by decide) rfl in_X5 6 (by decide) fl_X6_93 xf_5_6 dX6_gate_41 ?_
        refine x_sub [0, 1, 2] rfl ?_
        exact s_X6_gate_j2 a1 a2 (im 1 6) im
      · refine x_aload_n (q := 0) rfl rfl dX6_gate_27 ?_
        refine x_get (C := RX6) (T := TX6) sh_0 (by decide) rfl in_X6 0 (by decide) fl_X6_12 xf_6_0 dX6_gate_28 ?_
        refine x_get (C := RX5) (T := TX5) sh_1 (by decide) rfl in_X5 5 (by decide) fl_X6_89 xf_5_5 dX6_gate_31 ?_
        refine x_goto (tgt := 44) dX6_gate_34 (by decide) ?_
        refine x_sub [0, 1, 2] rfl ?_
        exact s_X6_gate_j2 a1 a2 (im 1 5) im
    · refine x_sub [0] rfl ?_
      exact s_X6_gate_j1 a1 a2 im
theorem m_X6_gate {g : GX}   (a1 : Int32) (a2 : Int32) (im : IM) (r : Int32 × IM) (hr : f_X6_gate a1 a2 im = some r) : xMet g 2 yX6_gate cX6_gate 4 (some .int) [.ref (g.1 0), .int a1, .int a2] im (eI r) := x_met (by decide) (Nat.le_of_ble_eq_true rfl) rfl (s_X6_gate a1 a2 im) r hr
abbrev md_X6_shut : xM := (2, 2, RX6, cX6_shut, (some .int))
def f_X6_shut (a1 : Int32) (im : IM) : Option (Int32 × IM) :=
  if (f_X6_within a1 0 9999) = 0 then
    (f_X6_refuse ((-1000001)) im).bind fun r1 =>
    some ((r1.1, r1.2))
  else
    if (f_X5_gatesAreShut 1 a1 im) = 0 then
      some ((0, im))
    else
      some ((1, im))
set_option maxRecDepth 20000 in
set_option maxHeartbeats 4000000 in
theorem s_X6_shut {g : GX}  (a1 : Int32) (im : IM) : X g md_X6_shut eI 0 [(0, .ref (g.1 0)), (1, .int a1)] [] im (f_X6_shut a1 im) := by
  refine x_iload_n (q := 1) rfl rfl dX6_shut_0 ?_
  refine x_iconst (v := (0)) (by decide) dX6_shut_1 ?_
  refine x_sipush (v := (9999)) (by decide) dX6_shut_2 ?_
  refine x_callSR (av := [.int a1, .int 0, .int 9999]) (st := []) (m_X6_within  a1 0 9999 im) rfl (by decide) (by decide) lk_X6_79 cd_X6_within xd_X6_within rfl (Nat.le_of_ble_eq_true rfl) dX6_shut_5 ?_
  refine x_if_ne (tgt := 18) dX6_shut_8 (by decide) ?_ ?_
  · refine x_aload_n (q := 0) rfl rfl dX6_shut_18 ?_
    refine x_get (C := RX6) (T := TX6) sh_0 (by decide) rfl in_X6 0 (by decide) fl_X6_12 xf_6_0 dX6_shut_19 ?_
    refine x_iload_n (q := 1) rfl rfl dX6_shut_22 ?_
    refine x_callVR (av := [.int a1]) (st := []) (m_X5_gatesAreShut xTo_c1 a1 im) sh_1 (by decide) rfl rfl (by decide) (by decide) lk_X6_96 cd_X5_gatesAreShut xd_X5_gatesAreShut rfl (Nat.le_of_ble_eq_true rfl) dX6_shut_23 ?_
    refine x_if_eq (tgt := 33) dX6_shut_26 (by decide) ?_ ?_
    · refine x_iconst (v := (0)) (by decide) dX6_shut_33 ?_
      exact x_iret rfl rfl dX6_shut_34
    · refine x_iconst (v := (1)) (by decide) dX6_shut_29 ?_
      refine x_goto (tgt := 34) dX6_shut_30 (by decide) ?_
      exact x_iret rfl rfl dX6_shut_34
  · refine x_aload_n (q := 0) rfl rfl dX6_shut_11 ?_
    refine x_ldc co_X6_71 dX6_shut_12 ?_
    refine x_bind (fun r1 er1 => ?_)
    refine x_callVI (av := [.int ((-1000001))]) (st := []) (m_X6_refuse  (((-1000001))) im r1 er1) sh_0 (by decide) rfl rfl (by decide) (by decide) lk_X6_72 cd_X6_refuse xd_X6_refuse rfl (Nat.le_of_ble_eq_true rfl) dX6_shut_14 ?_
    exact x_iret rfl rfl dX6_shut_17
theorem m_X6_shut {g : GX}  (a1 : Int32) (im : IM) (r : Int32 × IM) (hr : f_X6_shut a1 im = some r) : xMet g 2 yX6_shut cX6_shut 2 (some .int) [.ref (g.1 0), .int a1] im (eI r) := x_met (by decide) (Nat.le_of_ble_eq_true rfl) rfl (s_X6_shut a1 im) r hr
abbrev md_X6_thing : xM := (2, 3, RX6, cX6_thing, (some .int))
def f_X6_thing_j1 (a1 : Int32) (a2 : Int32)   (im : IM) : Option (Int32 × IM) :=
  (f_X6_refuse ((-1000001)) im).bind fun r1 =>
  some ((r1.1, r1.2))
set_option maxRecDepth 20000 in
set_option maxHeartbeats 4000000 in
theorem s_X6_thing_j1 {g : GX} (a1 : Int32) (a2 : Int32)      (im : IM) : X g md_X6_thing eI 14 [(0, .ref (g.1 0))] [] im (f_X6_thing_j1 a1 a2 im) := by
  refine x_aload_n (q := 0) rfl rfl dX6_thing_14 ?_
  refine x_ldc co_X6_71 dX6_thing_15 ?_
  refine x_bind (fun r1 er1 => ?_)
  refine x_callVI (av := [.int ((-1000001))]) (st := []) (m_X6_refuse  (((-1000001))) im r1 er1) sh_0 (by decide) rfl rfl (by decide) (by decide) lk_X6_72 cd_X6_refuse xd_X6_refuse rfl (Nat.le_of_ble_eq_true rfl) dX6_thing_17 ?_
  exact x_iret rfl rfl dX6_thing_20
def f_X6_thing (a1 : Int32) (a2 : Int32) (im : IM) : Option (Int32 × IM) :=
  if (f_X6_isKind a1) = 0 then
    f_X6_thing_j1 a1 a2 im
  else
    if (f_X6_isWeight a2) = 0 then
      f_X6_thing_j1 a1 a2 im
    else
      if (f_X5_isFull 1 im) = 0 then
        (f_X5_addThing 1 a1 a2 im).bind fun r2 =>
        some (((r2 1 4) - 1, r2))
      else
        (f_X6_refuse ((-1000002)) im).bind fun r3 =>
        some ((r3.1, r3.2))
set_option maxRecDepth 20000 in
set_option maxHeartbeats 4000000 in
theorem s_X6_thing {g : GX}   (a1 : Int32) (a2 : Int32) (im : IM) : X g md_X6_thing eI 0 [(0, .ref (g.1 0)), (1, .int a1), (2, .int a2)] [] im (f_X6_thing a1 a2 im) := by
  refine x_iload_n (q := 1) rfl rfl dX6_thing_0 ?_
  refine x_callSR (av := [.int a1]) (st := []) (m_X6_isKind  a1 im) rfl (by decide) (by decide) lk_X6_99 cd_X6_isKind xd_X6_isKind rfl (Nat.le_of_ble_eq_true rfl) dX6_thing_1 ?_
  refine x_if_eq (tgt := 14) dX6_thing_4 (by decide) ?_ ?_
  · refine x_sub [0] rfl ?_
    exact s_X6_thing_j1 a1 a2 im
  · refine x_iload_n (q := 2) rfl rfl dX6_thing_7 ?_
    refine x_callSR (av := [.int a2]) (st := []) (m_X6_isWeight  a2 im) rfl (by decide) (by decide) lk_X6_102 cd_X6_isWeight xd_X6_isWeight rfl (Nat.le_of_ble_eq_true rfl) dX6_thing_8 ?_
    refine x_if_ne (tgt := 21) dX6_thing_11 (by decide) ?_ ?_
    · refine x_aload_n (q := 0) rfl rfl dX6_thing_21 ?_
      refine x_get (C := RX6) (T := TX6) sh_0 (by decide) rfl in_X6 0 (by decide) fl_X6_12 xf_6_0 dX6_thing_22 ?_
      refine x_callVR (av := []) (st := []) (m_X5_isFull xTo_c1  im) sh_1 (by decide) rfl rfl (by decide) (by decide) lk_X6_105 cd_X5_isFull xd_X5_isFull rfl (Nat.le_of_ble_eq_true rfl) dX6_thing_25 ?_
      refine x_if_eq (tgt := 38) dX6_thing_28 (by decide) ?_ ?_
      · refine x_aload_n (q := 0) rfl rfl dX6_thing_38 ?_
        refine x_get (C := RX6) (T := TX6) sh_0 (by decide) rfl in_X6 0 (by decide) fl_X6_12 xf_6_0 dX6_thing_39 ?_
        refine x_iload_n (q := 1) rfl rfl dX6_thing_42 ?_
        refine x_iload_n (q := 2) rfl rfl dX6_thing_43 ?_
        refine x_bind (fun r2 er2 => ?_)
        refine x_callVV (av := [.int a1, .int a2]) (st := []) (m_X5_addThing xTo_c1 a1 a2 im r2 er2) sh_1 (by decide) rfl rfl (by decide) (by decide) lk_X6_110 cd_X5_addThing xd_X5_addThing rfl (Nat.le_of_ble_eq_true rfl) dX6_thing_44 ?_
        refine x_aload_n (q := 0) rfl rfl dX6_thing_47 ?_
        refine x_get (C := RX6) (T := TX6) sh_0 (by decide) rfl in_X6 0 (by decide) fl_X6_12 xf_6_0 dX6_thing_48 ?_
        refine x_get (C := RX5) (T := TX5) sh_1 (by decide) rfl in_X5 4 (by decide) fl_X6_114 xf_5_4 dX6_thing_51 ?_
        refine x_iconst (v := (1)) (by decide) dX6_thing_54 ?_
        refine x_isub dX6_thing_55 ?_
        exact x_iret rfl rfl dX6_thing_56
      · refine x_aload_n (q := 0) rfl rfl dX6_thing_31 ?_
        refine x_ldc co_X6_109 dX6_thing_32 ?_
        refine x_bind (fun r3 er3 => ?_)
        refine x_callVI (av := [.int ((-1000002))]) (st := []) (m_X6_refuse  (((-1000002))) im r3 er3) sh_0 (by decide) rfl rfl (by decide) (by decide) lk_X6_72 cd_X6_refuse xd_X6_refuse rfl (Nat.le_of_ble_eq_true rfl) dX6_thing_34 ?_
        exact x_iret rfl rfl dX6_thing_37
    · refine x_sub [0] rfl ?_
      exact s_X6_thing_j1 a1 a2 im
theorem m_X6_thing {g : GX}   (a1 : Int32) (a2 : Int32) (im : IM) (r : Int32 × IM) (hr : f_X6_thing a1 a2 im = some r) : xMet g 2 yX6_thing cX6_thing 3 (some .int) [.ref (g.1 0), .int a1, .int a2] im (eI r) := x_met (by decide) (Nat.le_of_ble_eq_true rfl) rfl (s_X6_thing a1 a2 im) r hr
abbrev md_X6_isThing : xM := (1, 2, RX6, cX6_isThing, (some .boolean))
def f_X6_isThing (a1 : Int32) (im : IM) : Int32 :=
  (zb (f_X6_within a1 0 ((im 1 4) - 1)))
set_option maxRecDepth 20000 in
set_option maxHeartbeats 4000000 in
theorem s_X6_isThing {g : GX}  (a1 : Int32) (im : IM) : X g md_X6_isThing (eR im) 0 [(0, .ref (g.1 0)), (1, .int a1)] [] im (some (f_X6_isThing a1 im)) := by
  refine x_iload_n (q := 1) rfl rfl dX6_isThing_0 ?_
  refine x_iconst (v := (0)) (by decide) dX6_isThing_1 ?_
  refine x_aload_n (q := 0) rfl rfl dX6_isThing_2 ?_
  refine x_get (C := RX6) (T := TX6) sh_0 (by decide) rfl in_X6 0 (by decide) fl_X6_12 xf_6_0 dX6_isThing_3 ?_
  refine x_get (C := RX5) (T := TX5) sh_1 (by decide) rfl in_X5 4 (by decide) fl_X6_114 xf_5_4 dX6_isThing_6 ?_
  refine x_iconst (v := (1)) (by decide) dX6_isThing_9 ?_
  refine x_isub dX6_isThing_10 ?_
  refine x_callSR (av := [.int a1, .int 0, .int ((im 1 4) - 1)]) (st := []) (m_X6_within  a1 0 (((im 1 4) - 1)) im) rfl (by decide) (by decide) lk_X6_79 cd_X6_within xd_X6_within rfl (Nat.le_of_ble_eq_true rfl) dX6_isThing_11 ?_
  exact x_nret (y := zb (f_X6_within a1 0 ((im 1 4) - 1))) rfl rfl rfl dX6_isThing_14
theorem m_X6_isThing {g : GX}  (a1 : Int32) (im : IM) : xMet g 1 yX6_isThing cX6_isThing 2 (some .boolean) [.ref (g.1 0), .int a1] im ((eR im) (f_X6_isThing a1 im)) := x_met (by decide) (Nat.le_of_ble_eq_true rfl) rfl (s_X6_isThing a1 im) _ rfl
abbrev md_X6_of : xM := (2, 4, RX6, cX6_of, (some .int))
def f_X6_of_j1 (a1 : Int32) (a2 : Int32)   (im : IM) : Option (Int32 × IM) :=
  (f_X6_refuse ((-1000001)) im).bind fun r1 =>
  some ((r1.1, r1.2))
set_option maxRecDepth 20000 in
set_option maxHeartbeats 4000000 in
theorem s_X6_of_j1 {g : GX} (a1 : Int32) (a2 : Int32)      (im : IM) : X g md_X6_of eI 18 [(0, .ref (g.1 0))] [] im (f_X6_of_j1 a1 a2 im) := by
  refine x_aload_n (q := 0) rfl rfl dX6_of_18 ?_
  refine x_ldc co_X6_71 dX6_of_19 ?_
  refine x_bind (fun r1 er1 => ?_)
  refine x_callVI (av := [.int ((-1000001))]) (st := []) (m_X6_refuse  (((-1000001))) im r1 er1) sh_0 (by decide) rfl rfl (by decide) (by decide) lk_X6_72 cd_X6_refuse xd_X6_refuse rfl (Nat.le_of_ble_eq_true rfl) dX6_of_21 ?_
  exact x_iret rfl rfl dX6_of_24
def f_X6_of (a1 : Int32) (a2 : Int32) (im : IM) : Option (Int32 × IM) :=
  if (f_X6_isThing a1 im) = 0 then
    f_X6_of_j1 a1 a2 im
  else
    if (f_X6_within a2 0 8) = 0 then
      f_X6_of_j1 a1 a2 im
    else
      if inb a1 10 = true then
        if a2 = 0 then
          some ((im (6 + ix a1) 0, im))
        else if a2 = 1 then
          some ((im (6 + ix a1) 1, im))
        else if a2 = 2 then
          some ((im (6 + ix a1) 2, im))
        else if a2 = 3 then
          some ((im (6 + ix a1) 3, im))
        else if a2 = 4 then
          some ((im (6 + ix a1) 4, im))
        else if a2 = 5 then
          some ((im (6 + ix a1) 5, im))
        else if a2 = 6 then
          some ((im (6 + ix a1) 6, im))
        else if a2 = 7 then
          some ((im (6 + ix a1) 7, im))
        else 
          some ((f_X4_bendLimit (6 + ix a1) im, im))
      else none
set_option maxRecDepth 20000 in
set_option maxHeartbeats 4000000 in
theorem s_X6_of {g : GX}   (a1 : Int32) (a2 : Int32) (im : IM) : X g md_X6_of eI 0 [(0, .ref (g.1 0)), (1, .int a1), (2, .int a2)] [] im (f_X6_of a1 a2 im) := by
  refine x_aload_n (q := 0) rfl rfl dX6_of_0 ?_
  refine x_iload_n (q := 1) rfl rfl dX6_of_1 ?_
  refine x_callVR (av := [.int a1]) (st := []) (m_X6_isThing  a1 im) sh_0 (by decide) rfl rfl (by decide) (by decide) lk_X6_117 cd_X6_isThing xd_X6_isThing rfl (Nat.le_of_ble_eq_true rfl) dX6_of_2 ?_
  refine x_if_eq (tgt := 18) dX6_of_5 (by decide) ?_ ?_
  · refine x_sub [0] rfl ?_
    exact s_X6_of_j1 a1 a2 im
  · refine x_iload_n (q := 2) rfl rfl dX6_of_8 ?_
    refine x_iconst (v := (0)) (by decide) dX6_of_9 ?_
    refine x_bipush (v := (8)) (by decide) dX6_of_10 ?_
    refine x_callSR (av := [.int a2, .int 0, .int 8]) (st := []) (m_X6_within  a2 0 8 im) rfl (by decide) (by decide) lk_X6_79 cd_X6_within xd_X6_within rfl (Nat.le_of_ble_eq_true rfl) dX6_of_12 ?_
    refine x_if_ne (tgt := 25) dX6_of_15 (by decide) ?_ ?_
    · refine x_aload_n (q := 0) rfl rfl dX6_of_25 ?_
      refine x_get (C := RX6) (T := TX6) sh_0 (by decide) rfl in_X6 0 (by decide) fl_X6_12 xf_6_0 dX6_of_26 ?_
      refine x_get (C := RX5) (T := TX5) sh_1 (by decide) rfl in_X5 2 (by decide) fl_X6_120 xf_5_2 dX6_of_29 ?_
      refine x_iload_n (q := 1) rfl rfl dX6_of_32 ?_
      refine x_aldT sh_4 dX6_of_33 (fun hi2 => ?_)
      refine x_astore_n (lv' := [(3, .ref (g.1 ((6 + ix a1)))), (0, .ref (g.1 0)), (1, .int a1), (2, .int a2)]) rfl dX6_of_34 (by decide) rfl ?_
      refine x_iload_n (q := 3) rfl rfl dX6_of_35 ?_
      refine x_case (k := 0) (fun hx36_0 => ?_) (fun hx36_0 => ?_)
      · refine x_tsw (off := 48) (tgt := 84) dX6_of_36 (by rw [hx36_0]; decide) (by rw [hx36_0]; decide) (by rw [hx36_0]; rfl) (by decide) ?_
        refine x_aload_n (q := 0) rfl rfl dX6_of_84 ?_
        refine x_get (C := RX4) (T := TX4) (xTh xTo_c1 hi2) (by decide) rfl in_X4 0 (by decide) fl_X6_124 xf_4_0 dX6_of_85 ?_
        exact x_iret rfl rfl dX6_of_88
      refine x_case (k := 1) (fun hx36_1 => ?_) (fun hx36_1 => ?_)
      · refine x_tsw (off := 53) (tgt := 89) dX6_of_36 (by rw [hx36_1]; decide) (by rw [hx36_1]; decide) (by rw [hx36_1]; rfl) (by decide) ?_
        refine x_aload_n (q := 0) rfl rfl dX6_of_89 ?_
        refine x_get (C := RX4) (T := TX4) (xTh xTo_c1 hi2) (by decide) rfl in_X4 1 (by decide) fl_X6_129 xf_4_1 dX6_of_90 ?_
        exact x_iret rfl rfl dX6_of_93
      refine x_case (k := 2) (fun hx36_2 => ?_) (fun hx36_2 => ?_)
      · refine x_tsw (off := 58) (tgt := 94) dX6_of_36 (by rw [hx36_2]; decide) (by rw [hx36_2]; decide) (by rw [hx36_2]; rfl) (by decide) ?_
        refine x_aload_n (q := 0) rfl rfl dX6_of_94 ?_
        refine x_get (C := RX4) (T := TX4) (xTh xTo_c1 hi2) (by decide) rfl in_X4 2 (by decide) fl_X6_132 xf_4_2 dX6_of_95 ?_
        exact x_iret rfl rfl dX6_of_98
      refine x_case (k := 3) (fun hx36_3 => ?_) (fun hx36_3 => ?_)
      · refine x_tsw (off := 63) (tgt := 99) dX6_of_36 (by rw [hx36_3]; decide) (by rw [hx36_3]; decide) (by rw [hx36_3]; rfl) (by decide) ?_
        refine x_aload_n (q := 0) rfl rfl dX6_of_99 ?_
        refine x_get (C := RX4) (T := TX4) (xTh xTo_c1 hi2) (by decide) rfl in_X4 3 (by decide) fl_X6_135 xf_4_3 dX6_of_100 ?_
        exact x_iret rfl rfl dX6_of_103
      refine x_case (k := 4) (fun hx36_4 => ?_) (fun hx36_4 => ?_)
      · refine x_tsw (off := 68) (tgt := 104) dX6_of_36 (by rw [hx36_4]; decide) (by rw [hx36_4]; decide) (by rw [hx36_4]; rfl) (by decide) ?_
        refine x_aload_n (q := 0) rfl rfl dX6_of_104 ?_
        refine x_get (C := RX4) (T := TX4) (xTh xTo_c1 hi2) (by decide) rfl in_X4 4 (by decide) fl_X6_138 xf_4_4 dX6_of_105 ?_
        exact x_iret rfl rfl dX6_of_108
      refine x_case (k := 5) (fun hx36_5 => ?_) (fun hx36_5 => ?_)
      · refine x_tsw (off := 73) (tgt := 109) dX6_of_36 (by rw [hx36_5]; decide) (by rw [hx36_5]; decide) (by rw [hx36_5]; rfl) (by decide) ?_
        refine x_aload_n (q := 0) rfl rfl dX6_of_109 ?_
        refine x_get (C := RX4) (T := TX4) (xTh xTo_c1 hi2) (by decide) rfl in_X4 5 (by decide) fl_X6_141 xf_4_5 dX6_of_110 ?_
        exact x_iret rfl rfl dX6_of_113
      refine x_case (k := 6) (fun hx36_6 => ?_) (fun hx36_6 => ?_)
      · refine x_tsw (off := 78) (tgt := 114) dX6_of_36 (by rw [hx36_6]; decide) (by rw [hx36_6]; decide) (by rw [hx36_6]; rfl) (by decide) ?_
        refine x_aload_n (q := 0) rfl rfl dX6_of_114 ?_
        refine x_get (C := RX4) (T := TX4) (xTh xTo_c1 hi2) (by decide) rfl in_X4 6 (by decide) fl_X6_144 xf_4_6 dX6_of_115 ?_
        exact x_iret rfl rfl dX6_of_118
      refine x_case (k := 7) (fun hx36_7 => ?_) (fun hx36_7 => ?_)
      · refine x_tsw (off := 83) (tgt := 119) dX6_of_36 (by rw [hx36_7]; decide) (by rw [hx36_7]; decide) (by rw [hx36_7]; rfl) (by decide) ?_
        refine x_aload_n (q := 0) rfl rfl dX6_of_119 ?_
        refine x_get (C := RX4) (T := TX4) (xTh xTo_c1 hi2) (by decide) rfl in_X4 7 (by decide) fl_X6_147 xf_4_7 dX6_of_120 ?_
        exact x_iret rfl rfl dX6_of_123
      have ho36 : (a2).toInt < 0 ∨ 7 < (a2).toInt := by
        refine x_out (fun k h1 h2 => ?_)
        have hk : k = 0 ∨ k = 1 ∨ k = 2 ∨ k = 3 ∨ k = 4 ∨ k = 5 ∨ k = 6 ∨ k = 7 := by omega
        rcases hk with rfl | rfl | rfl | rfl | rfl | rfl | rfl | rfl
        · exact hx36_0
        · exact hx36_1
        · exact hx36_2
        · exact hx36_3
        · exact hx36_4
        · exact hx36_5
        · exact hx36_6
        · exact hx36_7
      refine x_tsd (tgt := 124) dX6_of_36 ho36 (by decide) ?_
      refine x_aload_n (q := 0) rfl rfl dX6_of_124 ?_
      refine x_callVR (av := []) (st := []) (m_X4_bendLimit (xTh xTo_c1 hi2)  im) (xTh xTo_c1 hi2) (by decide) rfl rfl (by decide) (by decide) lk_X6_150 cd_X4_bendLimit xd_X4_bendLimit rfl (Nat.le_of_ble_eq_true rfl) dX6_of_125 ?_
      exact x_iret rfl rfl dX6_of_128
    · refine x_sub [0] rfl ?_
      exact s_X6_of_j1 a1 a2 im
theorem m_X6_of {g : GX}   (a1 : Int32) (a2 : Int32) (im : IM) (r : Int32 × IM) (hr : f_X6_of a1 a2 im = some r) : xMet g 2 yX6_of cX6_of 4 (some .int) [.ref (g.1 0), .int a1, .int a2] im (eI r) := x_met (by decide) (Nat.le_of_ble_eq_true rfl) rfl (s_X6_of a1 a2 im) r hr
abbrev md_X6_change : xM := (2, 6, RX6, cX6_change, (some .int))
def f_X6_change_j4 (a1 : Int32) (a2 : Int32) (a3 : Int32)   (im : IM) : Option (Int32 × IM) :=
  (f_X6_refuse ((-1000001)) im).bind fun r2 =>
  some ((r2.1, r2.2))
set_option maxRecDepth 20000 in
set_option maxHeartbeats 4000000 in
theorem s_X6_change_j4 {g : GX} (a1 : Int32) (a2 : Int32) (a3 : Int32)      (im : IM) : X g md_X6_change eI 137 [(0, .ref (g.1 0))] [] im (f_X6_change_j4 a1 a2 a3 im) := by
  refine x_aload_n (q := 0) rfl rfl dX6_change_137 ?_
  refine x_ldc co_X6_71 dX6_change_138 ?_
  refine x_bind (fun r2 er2 => ?_)
  refine x_callVI (av := [.int ((-1000001))]) (st := []) (m_X6_refuse  (((-1000001))) im r2 er2) sh_0 (by decide) rfl rfl (by decide) (by decide) lk_X6_72 cd_X6_refuse xd_X6_refuse rfl (Nat.le_of_ble_eq_true rfl) dX6_change_140 ?_
  exact x_iret rfl rfl dX6_change_143
def f_X6_change_j5 (a1 : Int32) (a2 : Int32) (a3 : Int32)  (x5 : Int32) (im : IM) : Option (Int32 × IM) :=
  some ((x5, im))
set_option maxRecDepth 20000 in
set_option maxHeartbeats 4000000 in
theorem s_X6_change_j5 {g : GX} (a1 : Int32) (a2 : Int32) (a3 : Int32)    (x5 : Int32)  (im : IM) : X g md_X6_change eI 144 [(5, .int x5)] [] im (f_X6_change_j5 a1 a2 a3 x5 im) := by
  refine x_iload (q := 0) rfl dX6_change_144 ?_
  exact x_iret rfl rfl dX6_change_146
def f_X6_change_j3 (a1 : Int32) (a2 : Int32) (a3 : Int32)  (x4 : Nat) (im : IM) : Option (Int32 × IM) :=
  if a2 = 3 then
    if (f_X6_isLean a3) = 0 then
      f_X6_change_j4 a1 a2 a3 im
    else
      bnd (im x4 3) fun v3 =>
      bnd (up im x4 3 a3) fun m4 =>
      f_X6_change_j5 a1 a2 a3 v3 m4
  else
    f_X6_change_j4 a1 a2 a3 im
set_option maxRecDepth 20000 in
set_option maxHeartbeats 4000000 in
theorem s_X6_change_j3 {g : GX} (a1 : Int32) (a2 : Int32) (a3 : Int32)    (x4 : Nat) (hx4 : xSH x4 = (4, 8)) (im : IM) : X g md_X6_change eI 109 [(0, .ref (g.1 0)), (2, .int a2), (3, .int a3), (4, .ref (g.1 x4))] [] im (f_X6_change_j3 a1 a2 a3 x4 im) := by
  refine x_iload_n (q := 1) rfl rfl dX6_change_109 ?_
  refine x_iconst (v := (3)) (by decide) dX6_change_110 ?_
  refine x_icmp_ne (tgt := 137) dX6_change_111 (by decide) ?_ ?_
  · refine x_sub [0] rfl ?_
    exact s_X6_change_j4 a1 a2 a3 im
  · refine x_iload_n (q := 2) rfl rfl dX6_change_114 ?_
    refine x_callSR (av := [.int a3]) (st := []) (m_X6_isLean  a3 im) rfl (by decide) (by decide) lk_X6_157 cd_X6_isLean xd_X6_isLean rfl (Nat.le_of_ble_eq_true rfl) dX6_change_115 ?_
    refine x_if_eq (tgt := 137) dX6_change_118 (by decide) ?_ ?_
    · refine x_sub [0] rfl ?_
      exact s_X6_change_j4 a1 a2 a3 im
    · refine x_aload (q := 3) rfl dX6_change_121 ?_
      refine x_get (C := RX4) (T := TX4) hx4 (by decide) rfl in_X4 3 (by decide) fl_X6_135 xf_4_3 dX6_change_123 ?_
      refine x_bi (fun v3 => ?_)
      refine x_istore (lv' := [(5, .int v3), (0, .ref (g.1 0)), (2, .int a2), (3, .int a3), (4, .ref (g.1 x4))]) dX6_change_126 (by decide) rfl ?_
      refine x_aload (q := 4) rfl dX6_change_128 ?_
      refine x_iload_n (q := 3) rfl rfl dX6_change_130 ?_
      refine x_put (C := RX4) (T := TX4) (ty := .int) tyX4 tyX4_ok nmX4 hx4 (by decide) rfl in_X4 3 (by decide) (by decide) fl_X6_135 rfl (by decide +kernel) rfl rfl dX6_change_131 ?_
      refine x_bm (fun m4 => ?_)
      refine x_goto (tgt := 144) dX6_change_134 (by decide) ?_
      refine x_sub [0] rfl ?_
      exact s_X6_change_j5 a1 a2 a3 v3 m4
def f_X6_change_j2 (a1 : Int32) (a2 : Int32) (a3 : Int32)  (x4 : Nat) (im : IM) : Option (Int32 × IM) :=
  if a2 = 2 then
    if (f_X6_isRolls a3) = 0 then
      f_X6_change_j3 a1 a2 a3 x4 im
    else
      bnd (im x4 2) fun v5 =>
      bnd (up im x4 2 a3) fun m6 =>
      f_X6_change_j5 a1 a2 a3 v5 m6
  else
    f_X6_change_j3 a1 a2 a3 x4 im
set_option maxRecDepth 20000 in
set_option maxHeartbeats 4000000 in
theorem s_X6_change_j2 {g : GX} (a1 : Int32) (a2 : Int32) (a3 : Int32)    (x4 : Nat) (hx4 : xSH x4 = (4, 8)) (im : IM) : X g md_X6_change eI 81 [(0, .ref (g.1 0)), (2, .int a2), (3, .int a3), (4, .ref (g.1 x4))] [] im (f_X6_change_j2 a1 a2 a3 x4 im) := by
  refine x_iload_n (q := 1) rfl rfl dX6_change_81 ?_
  refine x_iconst (v := (2)) (by decide) dX6_change_82 ?_
  refine x_icmp_ne (tgt := 109) dX6_change_83 (by decide) ?_ ?_
  · refine x_sub [0, 1, 2, 3] rfl ?_
    exact s_X6_change_j3 a1 a2 a3 x4 hx4 im
  · refine x_iload_n (q := 2) rfl rfl dX6_change_86 ?_
    refine x_callSR (av := [.int a3]) (st := []) (m_X6_isRolls  a3 im) rfl (by decide) (by decide) lk_X6_154 cd_X6_isRolls xd_X6_isRolls rfl (Nat.le_of_ble_eq_true rfl) dX6_change_87 ?_
    refine x_if_eq (tgt := 109) dX6_change_90 (by decide) ?_ ?_
    · refine x_sub [0, 1, 2, 3] rfl ?_
      exact s_X6_change_j3 a1 a2 a3 x4 hx4 im
    · refine x_aload (q := 3) rfl dX6_change_93 ?_
      refine x_get (C := RX4) (T := TX4) hx4 (by decide) rfl in_X4 2 (by decide) fl_X6_132 xf_4_2 dX6_change_95 ?_
      refine x_bi (fun v5 => ?_)
      refine x_istore (lv' := [(5, .int v5), (0, .ref (g.1 0)), (2, .int a2), (3, .int a3), (4, .ref (g.1 x4))]) dX6_change_98 (by decide) rfl ?_
      refine x_aload (q := 4) rfl dX6_change_100 ?_
      refine x_iload_n (q := 3) rfl rfl dX6_change_102 ?_
      refine x_put (C := RX4) (T := TX4) (ty := .int) tyX4 tyX4_ok nmX4 hx4 (by decide) rfl in_X4 2 (by decide) (by decide) fl_X6_132 rfl (by decide +kernel) rfl rfl dX6_change_103 ?_
      refine x_bm (fun m6 => ?_)
      refine x_goto (tgt := 144) dX6_change_106 (by decide) ?_
      refine x_sub [0] rfl ?_
      exact s_X6_change_j5 a1 a2 a3 v5 m6
def f_X6_change_j1 (a1 : Int32) (a2 : Int32) (a3 : Int32)  (x4 : Nat) (im : IM) : Option (Int32 × IM) :=
  if a2 = 1 then
    if (f_X6_isWeight a3) = 0 then
      f_X6_change_j2 a1 a2 a3 x4 im
    else
      bnd (im x4 1) fun v7 =>
      bnd (up im x4 1 a3) fun m8 =>
      f_X6_change_j5 a1 a2 a3 v7 m8
  else
    f_X6_change_j2 a1 a2 a3 x4 im
set_option maxRecDepth 20000 in
set_option maxHeartbeats 4000000 in
theorem s_X6_change_j1 {g : GX} (a1 : Int32) (a2 : Int32) (a3 : Int32)    (x4 : Nat) (hx4 : xSH x4 = (4, 8)) (im : IM) : X g md_X6_change eI 53 [(0, .ref (g.1 0)), (2, .int a2), (3, .int a3), (4, .ref (g.1 x4))] [] im (f_X6_change_j1 a1 a2 a3 x4 im) := by
  refine x_iload_n (q := 1) rfl rfl dX6_change_53 ?_
  refine x_iconst (v := (1)) (by decide) dX6_change_54 ?_
  refine x_icmp_ne (tgt := 81) dX6_change_55 (by decide) ?_ ?_
  · refine x_sub [0, 1, 2, 3] rfl ?_
    exact s_X6_change_j2 a1 a2 a3 x4 hx4 im
  · refine x_iload_n (q := 2) rfl rfl dX6_change_58 ?_
    refine x_callSR (av := [.int a3]) (st := []) (m_X6_isWeight  a3 im) rfl (by decide) (by decide) lk_X6_102 cd_X6_isWeight xd_X6_isWeight rfl (Nat.le_of_ble_eq_true rfl) dX6_change_59 ?_
    refine x_if_eq (tgt := 81) dX6_change_62 (by decide) ?_ ?_
    · refine x_sub [0, 1, 2, 3] rfl ?_
      exact s_X6_change_j2 a1 a2 a3 x4 hx4 im
    · refine x_aload (q := 3) rfl dX6_change_65 ?_
      refine x_get (C := RX4) (T := TX4) hx4 (by decide) rfl in_X4 1 (by decide) fl_X6_129 xf_4_1 dX6_change_67 ?_
      refine x_bi (fun v7 => ?_)
      refine x_istore (lv' := [(5, .int v7), (0, .ref (g.1 0)), (2, .int a2), (3, .int a3), (4, .ref (g.1 x4))]) dX6_change_70 (by decide) rfl ?_
      refine x_aload (q := 4) rfl dX6_change_72 ?_
      refine x_iload_n (q := 3) rfl rfl dX6_change_74 ?_
      refine x_put (C := RX4) (T := TX4) (ty := .int) tyX4 tyX4_ok nmX4 hx4 (by decide) rfl in_X4 1 (by decide) (by decide) fl_X6_129 rfl (by decide +kernel) rfl rfl dX6_change_75 ?_
      refine x_bm (fun m8 => ?_)
      refine x_goto (tgt := 144) dX6_change_78 (by decide) ?_
      refine x_sub [0] rfl ?_
      exact s_X6_change_j5 a1 a2 a3 v7 m8
def f_X6_change (a1 : Int32) (a2 : Int32) (a3 : Int32) (im : IM) : Option (Int32 × IM) :=
  if (f_X6_isThing a1 im) = 0 then
    (f_X6_refuse ((-1000001)) im).bind fun r11 =>
    some ((r11.1, r11.2))
  else
    if inb a1 10 = true then
      if a2 = 0 then
        if (f_X6_isKind a3) = 0 then
          f_X6_change_j1 a1 a2 a3 (6 + ix a1) im
        else
          bnd (im (6 + ix a1) 0) fun v9 =>
          bnd (up im (6 + ix a1) 0 a3) fun m10 =>
          f_X6_change_j5 a1 a2 a3 v9 m10
      else
        f_X6_change_j1 a1 a2 a3 (6 + ix a1) im
    else none
set_option maxRecDepth 20000 in
set_option maxHeartbeats 4000000 in
theorem s_X6_change {g : GX}    (a1 : Int32) (a2 : Int32) (a3 : Int32) (im : IM) : X g md_X6_change eI 0 [(0, .ref (g.1 0)), (1, .int a1), (2, .int a2), (3, .int a3)] [] im (f_X6_change a1 a2 a3 im) := by
  refine x_aload_n (q := 0) rfl rfl dX6_change_0 ?_
  refine x_iload_n (q := 1) rfl rfl dX6_change_1 ?_
  refine x_callVR (av := [.int a1]) (st := []) (m_X6_isThing  a1 im) sh_0 (by decide) rfl rfl (by decide) (by decide) lk_X6_117 cd_X6_isThing xd_X6_isThing rfl (Nat.le_of_ble_eq_true rfl) dX6_change_2 ?_
  refine x_if_ne (tgt := 15) dX6_change_5 (by decide) ?_ ?_
  · refine x_aload_n (q := 0) rfl rfl dX6_change_15 ?_
    refine x_get (C := RX6) (T := TX6) sh_0 (by decide) rfl in_X6 0 (by decide) fl_X6_12 xf_6_0 dX6_change_16 ?_
    refine x_get (C := RX5) (T := TX5) sh_1 (by decide) rfl in_X5 2 (by decide) fl_X6_120 xf_5_2 dX6_change_19 ?_
    refine x_iload_n (q := 1) rfl rfl dX6_change_22 ?_
    refine x_aldT sh_4 dX6_change_23 (fun hi1 => ?_)
    refine x_astore (lv' := [(4, .ref (g.1 ((6 + ix a1)))), (0, .ref (g.1 0)), (1, .int a1), (2, .int a2), (3, .int a3)]) dX6_change_24 (by decide) rfl ?_
    refine x_iload_n (q := 3) rfl rfl dX6_change_26 ?_
    refine x_if_ne (tgt := 53) dX6_change_27 (by decide) ?_ ?_
    · refine x_sub [1, 3, 4, 0] rfl ?_
      exact s_X6_change_j1 a1 a2 a3 (6 + ix a1) (xTh xTo_c1 hi1) im
    · refine x_iload_n (q := 4) rfl rfl dX6_change_30 ?_
      refine x_callSR (av := [.int a3]) (st := []) (m_X6_isKind  a3 im) rfl (by decide) (by decide) lk_X6_99 cd_X6_isKind xd_X6_isKind rfl (Nat.le_of_ble_eq_true rfl) dX6_change_31 ?_
      refine x_if_eq (tgt := 53) dX6_change_34 (by decide) ?_ ?_
      · refine x_sub [1, 3, 4, 0] rfl ?_
        exact s_X6_change_j1 a1 a2 a3 (6 + ix a1) (xTh xTo_c1 hi1) im
      · refine x_aload (q := 0) rfl dX6_change_37 ?_
        refine x_get (C := RX4) (T := TX4) (xTh xTo_c1 hi1) (by decide) rfl in_X4 0 (by decide) fl_X6_124 xf_4_0 dX6_change_39 ?_
        refine x_bi (fun v9 => ?_)
        refine x_istore (lv' := [(5, .int v9), (4, .ref (g.1 ((6 + ix a1)))), (0, .ref (g.1 0)), (1, .int a1), (2, .int a2), (3, .int a3)]) dX6_change_42 (by decide) rfl ?_
        refine x_aload (q := 1) rfl dX6_change_44 ?_
        refine x_iload_n (q := 5) rfl rfl dX6_change_46 ?_
        refine x_put (C := RX4) (T := TX4) (ty := .int) tyX4 tyX4_ok nmX4 (xTh xTo_c1 hi1) (by decide) rfl in_X4 0 (by decide) (by decide) fl_X6_124 rfl (by decide +kernel) rfl rfl dX6_change_47 ?_
        refine x_bm (fun m10 => ?_)
        refine x_goto (tgt := 144) dX6_change_50 (by decide) ?_
        refine x_sub [0] rfl ?_
        exact s_X6_change_j5 a1 a2 a3 v9 m10
  · refine x_aload_n (q := 0) rfl rfl dX6_change_8 ?_
    refine x_ldc co_X6_71 dX6_change_9 ?_
    refine x_bind (fun r11 er11 => ?_)
    refine x_callVI (av := [.int ((-1000001))]) (st := []) (m_X6_refuse  (((-1000001))) im r11 er11) sh_0 (by decide) rfl rfl (by decide) (by decide) lk_X6_72 cd_X6_refuse xd_X6_refuse rfl (Nat.le_of_ble_eq_true rfl) dX6_change_11 ?_
    exact x_iret rfl rfl dX6_change_14
theorem m_X6_change {g : GX}    (a1 : Int32) (a2 : Int32) (a3 : Int32) (im : IM) (r : Int32 × IM) (hr : f_X6_change a1 a2 a3 im = some r) : xMet g 2 yX6_change cX6_change 6 (some .int) [.ref (g.1 0), .int a1, .int a2, .int a3] im (eI r) := x_met (by decide) (Nat.le_of_ble_eq_true rfl) rfl (s_X6_change a1 a2 a3 im) r hr
abbrev md_X6_told : xM := (2, 5, RX6, cX6_told, (some .int))
def f_X6_told_j1 (a1 : Int32) (a2 : Int32) (a3 : Int32)   (im : IM) : Option (Int32 × IM) :=
  (f_X6_refuse ((-1000001)) im).bind fun r1 =>
  some ((r1.1, r1.2))
set_option maxRecDepth 20000 in
set_option maxHeartbeats 4000000 in
theorem s_X6_told_j1 {g : GX} (a1 : Int32) (a2 : Int32) (a3 : Int32)      (im : IM) : X g md_X6_told eI 24 [(0, .ref (g.1 0))] [] im (f_X6_told_j1 a1 a2 a3 im) := by
  refine x_aload_n (q := 0) rfl rfl dX6_told_24 ?_
  refine x_ldc co_X6_71 dX6_told_25 ?_
  refine x_bind (fun r1 er1 => ?_)
  refine x_callVI (av := [.int ((-1000001))]) (st := []) (m_X6_refuse  (((-1000001))) im r1 er1) sh_0 (by decide) rfl rfl (by decide) (by decide) lk_X6_72 cd_X6_refuse xd_X6_refuse rfl (Nat.le_of_ble_eq_true rfl) dX6_told_27 ?_
  exact x_iret rfl rfl dX6_told_30
def f_X6_told (a1 : Int32) (a2 : Int32) (a3 : Int32) (im : IM) : Option (Int32 × IM) :=
  if (f_X6_isThing a1 im) = 0 then
    f_X6_told_j1 a1 a2 a3 im
  else
    if (f_X6_within a2 0 1) = 0 then
      f_X6_told_j1 a1 a2 a3 im
    else
      if (f_X6_isCell a3) = 0 then
        f_X6_told_j1 a1 a2 a3 im
      else
        if inb a1 10 = true then
          if a2 = 0 then
            if inb a3 31 = true then
              some ((f_X4_gainFrom (6 + ix a1) (im 2 (ix a3)) im, im))
            else none
          else
            if inb a3 31 = true then
              (f_X4_dragOn (6 + ix a1) (im 3 (ix a3)) im).bind fun r3 =>
              some ((r3, im))
            else none
        else none
set_option maxRecDepth 20000 in
set_option maxHeartbeats 4000000 in
theorem s_X6_told {g : GX}    (a1 : Int32) (a2 : Int32) (a3 : Int32) (im : IM) : X g md_X6_told eI 0 [(0, .ref (g.1 0)), (1, .int a1), (2, .int a2), (3, .int a3)] [] im (f_X6_told a1 a2 a3 im) := by
  refine x_aload_n (q := 0) rfl rfl dX6_told_0 ?_
  refine x_iload_n (q := 1) rfl rfl dX6_told_1 ?_
  refine x_callVR (av := [.int a1]) (st := []) (m_X6_isThing  a1 im) sh_0 (by decide) rfl rfl (by decide) (by decide) lk_X6_117 cd_X6_isThing xd_X6_isThing rfl (Nat.le_of_ble_eq_true rfl) dX6_told_2 ?_
  refine x_if_eq (tgt := 24) dX6_told_5 (by decide) ?_ ?_
  · refine x_sub [0] rfl ?_
    exact s_X6_told_j1 a1 a2 a3 im
  · refine x_iload_n (q := 2) rfl rfl dX6_told_8 ?_
    refine x_iconst (v := (0)) (by decide) dX6_told_9 ?_
    refine x_iconst (v := (1)) (by decide) dX6_told_10 ?_
    refine x_callSR (av := [.int a2, .int 0, .int 1]) (st := []) (m_X6_within  a2 0 1 im) rfl (by decide) (by decide) lk_X6_79 cd_X6_within xd_X6_within rfl (Nat.le_of_ble_eq_true rfl) dX6_told_11 ?_
    refine x_if_eq (tgt := 24) dX6_told_14 (by decide) ?_ ?_
    · refine x_sub [0] rfl ?_
      exact s_X6_told_j1 a1 a2 a3 im
    · refine x_iload_n (q := 3) rfl rfl dX6_told_17 ?_
      refine x_callSR (av := [.int a3]) (st := []) (m_X6_isCell  a3 im) rfl (by decide) (by decide) lk_X6_64 cd_X6_isCell xd_X6_isCell rfl (Nat.le_of_ble_eq_true rfl) dX6_told_18 ?_
      refine x_if_ne (tgt := 31) dX6_told_21 (by decide) ?_ ?_
      · refine x_aload_n (q := 0) rfl rfl dX6_told_31 ?_
        refine x_get (C := RX6) (T := TX6) sh_0 (by decide) rfl in_X6 0 (by decide) fl_X6_12 xf_6_0 dX6_told_32 ?_
        refine x_get (C := RX5) (T := TX5) sh_1 (by decide) rfl in_X5 2 (by decide) fl_X6_120 xf_5_2 dX6_told_35 ?_
        refine x_iload_n (q := 1) rfl rfl dX6_told_38 ?_
        refine x_aldT sh_4 dX6_told_39 (fun hi2 => ?_)
        refine x_astore (lv' := [(4, .ref (g.1 ((6 + ix a1)))), (0, .ref (g.1 0)), (1, .int a1), (2, .int a2), (3, .int a3)]) dX6_told_40 (by decide) rfl ?_
        refine x_iload_n (q := 3) rfl rfl dX6_told_42 ?_
        refine x_if_ne (tgt := 63) dX6_told_43 (by decide) ?_ ?_
        · refine x_aload (q := 0) rfl dX6_told_63 ?_
          refine x_aload_n (q := 1) rfl rfl dX6_told_65 ?_
          refine x_get (C := RX6) (T := TX6) sh_0 (by decide) rfl in_X6 0 (by decide) fl_X6_12 xf_6_0 dX6_told_66 ?_
          refine x_get (C := RX5) (T := TX5) sh_1 (by decide) rfl in_X5 1 (by decide) fl_X6_83 xf_5_1 dX6_told_69 ?_
          refine x_iload_n (q := 4) rfl rfl dX6_told_72 ?_
          refine x_iald sh_3 dX6_told_73 ?_
          refine x_bind (fun r3 er3 => ?_)
          refine x_callVR (av := [.int (im 3 (ix a3))]) (st := []) (m_X4_dragOn (xTh xTo_c1 hi2) ((im 3 (ix a3))) im r3 er3) (xTh xTo_c1 hi2) (by decide) rfl rfl (by decide) (by decide) lk_X6_163 cd_X4_dragOn xd_X4_dragOn rfl (Nat.le_of_ble_eq_true rfl) dX6_told_74 ?_
          exact x_iret rfl rfl dX6_told_77
        · refine x_aload (q := 0) rfl dX6_told_46 ?_
          refine x_aload_n (q := 1) rfl rfl dX6_told_48 ?_
          refine x_get (C := RX6) (T := TX6) sh_0 (by decide) rfl in_X6 0 (by decide) fl_X6_12 xf_6_0 dX6_told_49 ?_
          refine x_get (C := RX5) (T := TX5) sh_1 (by decide) rfl in_X5 0 (by decide) fl_X6_76 xf_5_0 dX6_told_52 ?_
          refine x_iload_n (q := 4) rfl rfl dX6_told_55 ?_
          refine x_iald sh_2 dX6_told_56 ?_
          refine x_callVR (av := [.int (im 2 (ix a3))]) (st := []) (m_X4_gainFrom (xTh xTo_c1 hi2) ((im 2 (ix a3))) im) (xTh xTo_c1 hi2) (by decide) rfl rfl (by decide) (by decide) lk_X6_160 cd_X4_gainFrom xd_X4_gainFrom rfl (Nat.le_of_ble_eq_true rfl) dX6_told_57 ?_
          refine x_goto (tgt := 77) dX6_told_60 (by decide) ?_
          exact x_iret rfl rfl dX6_told_77
      · refine x_sub [0] rfl ?_
        exact s_X6_told_j1 a1 a2 a3 im
theorem m_X6_told {g : GX}    (a1 : Int32) (a2 : Int32) (a3 : Int32) (im : IM) (r : Int32 × IM) (hr : f_X6_told a1 a2 a3 im = some r) : xMet g 2 yX6_told cX6_told 5 (some .int) [.ref (g.1 0), .int a1, .int a2, .int a3] im (eI r) := x_met (by decide) (Nat.le_of_ble_eq_true rfl) rfl (s_X6_told a1 a2 a3 im) r hr
abbrev md_X6_go : xM := (2, 3, RX6, cX6_go, (some .int))
def f_X6_go (a1 : Int32) (im : IM) : Option (Int32 × IM) :=
  if (f_X6_isThing a1 im) = 0 then
    (f_X6_refuse ((-1000001)) im).bind fun r4 =>
    some ((r4.1, r4.2))
  else
    if inb a1 10 = true then
      if (f_X4_canBeLetGo (6 + ix a1) im) = 0 then
        (f_X6_refuse ((-1000005)) im).bind fun r3 =>
        some ((r3.1, r3.2))
      else
        bnd (f_X4_letGo (6 + ix a1) 10 im) fun m2 =>
        some ((m2 (6 + ix a1) 4, m2))
    else none
set_option maxRecDepth 20000 in
set_option maxHeartbeats 4000000 in
theorem s_X6_go {g : GX}  (a1 : Int32) (im : IM) : X g md_X6_go eI 0 [(0, .ref (g.1 0)), (1, .int a1)] [] im (f_X6_go a1 im) := by
  refine x_aload_n (q := 0) rfl rfl dX6_go_0 ?_
  refine x_iload_n (q := 1) rfl rfl dX6_go_1 ?_
  refine x_callVR (av := [.int a1]) (st := []) (m_X6_isThing  a1 im) sh_0 (by decide) rfl rfl (by decide) (by decide) lk_X6_117 cd_X6_isThing xd_X6_isThing rfl (Nat.le_of_ble_eq_true rfl) dX6_go_2 ?_
  refine x_if_ne (tgt := 15) dX6_go_5 (by decide) ?_ ?_
  · refine x_aload_n (q := 0) rfl rfl dX6_go_15 ?_
    refine x_get (C := RX6) (T := TX6) sh_0 (by decide) rfl in_X6 0 (by decide) fl_X6_12 xf_6_0 dX6_go_16 ?_
    refine x_get (C := RX5) (T := TX5) sh_1 (by decide) rfl in_X5 2 (by decide) fl_X6_120 xf_5_2 dX6_go_19 ?_
    refine x_iload_n (q := 1) rfl rfl dX6_go_22 ?_
    refine x_aldT sh_4 dX6_go_23 (fun hi1 => ?_)
    refine x_astore_n (lv' := [(2, .ref (g.1 ((6 + ix a1)))), (0, .ref (g.1 0)), (1, .int a1)]) rfl dX6_go_24 (by decide) rfl ?_
    refine x_aload_n (q := 0) rfl rfl dX6_go_25 ?_
    refine x_callVR (av := []) (st := []) (m_X4_canBeLetGo (xTh xTo_c1 hi1)  im) (xTh xTo_c1 hi1) (by decide) rfl rfl (by decide) (by decide) lk_X6_166 cd_X4_canBeLetGo xd_X4_canBeLetGo rfl (Nat.le_of_ble_eq_true rfl) dX6_go_26 ?_
    refine x_if_ne (tgt := 39) dX6_go_29 (by decide) ?_ ?_
    · refine x_aload_n (q := 0) rfl rfl dX6_go_39 ?_
      refine x_bipush (v := (10)) (by decide) dX6_go_40 ?_
      refine x_callVV (av := [.int 10]) (st := []) (m_X4_letGo (xTh xTo_c1 hi1) 10 im) (xTh xTo_c1 hi1) (by decide) rfl rfl (by decide) (by decide) lk_X6_170 cd_X4_letGo xd_X4_letGo rfl (Nat.le_of_ble_eq_true rfl) dX6_go_42 ?_
      refine x_bm (fun m2 => ?_)
      refine x_aload_n (q := 0) rfl rfl dX6_go_45 ?_
      refine x_get (C := RX4) (T := TX4) (xTh xTo_c1 hi1) (by decide) rfl in_X4 4 (by decide) fl_X6_138 xf_4_4 dX6_go_46 ?_
      exact x_iret rfl rfl dX6_go_49
    · refine x_aload_n (q := 1) rfl rfl dX6_go_32 ?_
      refine x_ldc co_X6_169 dX6_go_33 ?_
      refine x_bind (fun r3 er3 => ?_)
      refine x_callVI (av := [.int ((-1000005))]) (st := []) (m_X6_refuse  (((-1000005))) im r3 er3) sh_0 (by decide) rfl rfl (by decide) (by decide) lk_X6_72 cd_X6_refuse xd_X6_refuse rfl (Nat.le_of_ble_eq_true rfl) dX6_go_35 ?_
      exact x_iret rfl rfl dX6_go_38
  · refine x_aload_n (q := 0) rfl rfl dX6_go_8 ?_
    refine x_ldc co_X6_71 dX6_go_9 ?_
    refine x_bind (fun r4 er4 => ?_)
    refine x_callVI (av := [.int ((-1000001))]) (st := []) (m_X6_refuse  (((-1000001))) im r4 er4) sh_0 (by decide) rfl rfl (by decide) (by decide) lk_X6_72 cd_X6_refuse xd_X6_refuse rfl (Nat.le_of_ble_eq_true rfl) dX6_go_11 ?_
    exact x_iret rfl rfl dX6_go_14
theorem m_X6_go {g : GX}  (a1 : Int32) (im : IM) (r : Int32 × IM) (hr : f_X6_go a1 im = some r) : xMet g 2 yX6_go cX6_go 3 (some .int) [.ref (g.1 0), .int a1] im (eI r) := x_met (by decide) (Nat.le_of_ble_eq_true rfl) rfl (s_X6_go a1 im) r hr
abbrev md_X6_put : xM := (2, 5, RX6, cX6_put, (some .int))
def f_X6_put_j1 (a1 : Int32) (a2 : Int32)   (im : IM) : Option (Int32 × IM) :=
  (f_X6_refuse ((-1000001)) im).bind fun r1 =>
  some ((r1.1, r1.2))
set_option maxRecDepth 20000 in
set_option maxHeartbeats 4000000 in
theorem s_X6_put_j1 {g : GX} (a1 : Int32) (a2 : Int32)      (im : IM) : X g md_X6_put eI 15 [(0, .ref (g.1 0))] [] im (f_X6_put_j1 a1 a2 im) := by
  refine x_aload_n (q := 0) rfl rfl dX6_put_15 ?_
  refine x_ldc co_X6_71 dX6_put_16 ?_
  refine x_bind (fun r1 er1 => ?_)
  refine x_callVI (av := [.int ((-1000001))]) (st := []) (m_X6_refuse  (((-1000001))) im r1 er1) sh_0 (by decide) rfl rfl (by decide) (by decide) lk_X6_72 cd_X6_refuse xd_X6_refuse rfl (Nat.le_of_ble_eq_true rfl) dX6_put_18 ?_
  exact x_iret rfl rfl dX6_put_21
def f_X6_put (a1 : Int32) (a2 : Int32) (im : IM) : Option (Int32 × IM) :=
  if (f_X6_isThing a1 im) = 0 then
    f_X6_put_j1 a1 a2 im
  else
    if (f_X6_isCell a2) = 0 then
      f_X6_put_j1 a1 a2 im
    else
      if inb a1 10 = true then
        bnd (im (6 + ix a1) 4) fun v3 =>
        bnd (up im (6 + ix a1) 4 a2) fun m4 =>
        bnd (f_X4_stop (6 + ix a1) m4) fun m5 =>
        some ((v3, m5))
      else none
set_option maxRecDepth 20000 in
set_option maxHeartbeats 4000000 in
theorem s_X6_put {g : GX}   (a1 : Int32) (a2 : Int32) (im : IM) : X g md_X6_put eI 0 [(0, .ref (g.1 0)), (1, .int a1), (2, .int a2)] [] im (f_X6_put a1 a2 im) := by
  refine x_aload_n (q := 0) rfl rfl dX6_put_0 ?_
  refine x_iload_n (q := 1) rfl rfl dX6_put_1 ?_
  refine x_callVR (av := [.int a1]) (st := []) (m_X6_isThing  a1 im) sh_0 (by decide) rfl rfl (by decide) (by decide) lk_X6_117 cd_X6_isThing xd_X6_isThing rfl (Nat.le_of_ble_eq_true rfl) dX6_put_2 ?_
  refine x_if_eq (tgt := 15) dX6_put_5 (by decide) ?_ ?_
  · refine x_sub [0] rfl ?_
    exact s_X6_put_j1 a1 a2 im
  · refine x_iload_n (q := 2) rfl rfl dX6_put_8 ?_
    refine x_callSR (av := [.int a2]) (st := []) (m_X6_isCell  a2 im) rfl (by decide) (by decide) lk_X6_64 cd_X6_isCell xd_X6_isCell rfl (Nat.le_of_ble_eq_true rfl) dX6_put_9 ?_
    refine x_if_ne (tgt := 22) dX6_put_12 (by decide) ?_ ?_
    · refine x_aload_n (q := 0) rfl rfl dX6_put_22 ?_
      refine x_get (C := RX6) (T := TX6) sh_0 (by decide) rfl in_X6 0 (by decide) fl_X6_12 xf_6_0 dX6_put_23 ?_
      refine x_get (C := RX5) (T := TX5) sh_1 (by decide) rfl in_X5 2 (by decide) fl_X6_120 xf_5_2 dX6_put_26 ?_
      refine x_iload_n (q := 1) rfl rfl dX6_put_29 ?_
      refine x_aldT sh_4 dX6_put_30 (fun hi2 => ?_)
      refine x_astore_n (lv' := [(3, .ref (g.1 ((6 + ix a1)))), (0, .ref (g.1 0)), (1, .int a1), (2, .int a2)]) rfl dX6_put_31 (by decide) rfl ?_
      refine x_aload_n (q := 0) rfl rfl dX6_put_32 ?_
      refine x_get (C := RX4) (T := TX4) (xTh xTo_c1 hi2) (by decide) rfl in_X4 4 (by decide) fl_X6_138 xf_4_4 dX6_put_33 ?_
      refine x_bi (fun v3 => ?_)
      refine x_istore (lv' := [(4, .int v3), (3, .ref (g.1 ((6 + ix a1)))), (0, .ref (g.1 0)), (1, .int a1), (2, .int a2)]) dX6_put_36 (by decide) rfl ?_
      refine x_aload_n (q := 1) rfl rfl dX6_put_38 ?_
      refine x_iload_n (q := 4) rfl rfl dX6_put_39 ?_
      refine x_put (C := RX4) (T := TX4) (ty := .int) tyX4 tyX4_ok nmX4 (xTh xTo_c1 hi2) (by decide) rfl in_X4 4 (by decide) (by decide) fl_X6_138 rfl (by decide +kernel) rfl rfl dX6_put_40 ?_
      refine x_bm (fun m4 => ?_)
      refine x_aload_n (q := 1) rfl rfl dX6_put_43 ?_
      refine x_callVV (av := []) (st := []) (m_X4_stop (xTh xTo_c1 hi2)  m4) (xTh xTo_c1 hi2) (by decide) rfl rfl (by decide) (by decide) lk_X6_174 cd_X4_stop xd_X4_stop rfl (Nat.le_of_ble_eq_true rfl) dX6_put_44 ?_
      refine x_bm (fun m5 => ?_)
      refine x_iload (q := 0) rfl dX6_put_47 ?_
      exact x_iret rfl rfl dX6_put_49
    · refine x_sub [0] rfl ?_
      exact s_X6_put_j1 a1 a2 im
theorem m_X6_put {g : GX}   (a1 : Int32) (a2 : Int32) (im : IM) (r : Int32 × IM) (hr : f_X6_put a1 a2 im = some r) : xMet g 2 yX6_put cX6_put 5 (some .int) [.ref (g.1 0), .int a1, .int a2] im (eI r) := x_met (by decide) (Nat.le_of_ble_eq_true rfl) rfl (s_X6_put a1 a2 im) r hr
abbrev md_X6_minutes : xM := (5, 4, RX6, cX6_minutes, (some .int))
def f_X6_minutes (a1 : Int32) (im : IM) : Option (Int32 × IM) :=
  if (f_X6_within a1 1 120) = 0 then
    (f_X6_refuse ((-1000001)) im).bind fun r6 =>
    some ((r6.1, r6.2))
  else
    if (im 1 7) ≤ (9999 - a1) then
      (f_X5_allIn 1 2 im).bind fun r1 =>
      bnd (f_J6_bitCount_0f7a4 r1) fun v2 =>
      (f_X5_passMinutes 1 a1 im).bind fun r3 =>
      (f_X5_allIn 1 2 r3.2).bind fun r4 =>
      some (((r3.1 + (f_J6_bitCount_0f7a4 r4)) - v2, r3.2))
    else
      (f_X6_refuse ((-1000005)) im).bind fun r5 =>
      some ((r5.1, r5.2))
set_option maxRecDepth 20000 in
set_option maxHeartbeats 4000000 in
theorem s_X6_minutes {g : GX}  (a1 : Int32) (im : IM) : X g md_X6_minutes eI 0 [(0, .ref (g.1 0)), (1, .int a1)] [] im (f_X6_minutes a1 im) := by
  refine x_iload_n (q := 1) rfl rfl dX6_minutes_0 ?_
  refine x_iconst (v := (1)) (by decide) dX6_minutes_1 ?_
  refine x_bipush (v := (120)) (by decide) dX6_minutes_2 ?_
  refine x_callSR (av := [.int a1, .int 1, .int 120]) (st := []) (m_X6_within  a1 1 120 im) rfl (by decide) (by decide) lk_X6_79 cd_X6_within xd_X6_within rfl (Nat.le_of_ble_eq_true rfl) dX6_minutes_4 ?_
  refine x_if_ne (tgt := 17) dX6_minutes_7 (by decide) ?_ ?_
  · refine x_aload_n (q := 0) rfl rfl dX6_minutes_17 ?_
    refine x_get (C := RX6) (T := TX6) sh_0 (by decide) rfl in_X6 0 (by decide) fl_X6_12 xf_6_0 dX6_minutes_18 ?_
    refine x_get (C := RX5) (T := TX5) sh_1 (by decide) rfl in_X5 7 (by decide) fl_X6_177 xf_5_7 dX6_minutes_21 ?_
    refine x_sipush (v := (9999)) (by decide) dX6_minutes_24 ?_
    refine x_iload_n (q := 1) rfl rfl dX6_minutes_27 ?_
    refine x_isub dX6_minutes_28 ?_
    refine x_icmp_le (tgt := 39) dX6_minutes_29 (by decide) ?_ ?_
    · refine x_aload_n (q := 0) rfl rfl dX6_minutes_39 ?_
      refine x_get (C := RX6) (T := TX6) sh_0 (by decide) rfl in_X6 0 (by decide) fl_X6_12 xf_6_0 dX6_minutes_40 ?_
      refine x_iconst (v := (2)) (by decide) dX6_minutes_43 ?_
      refine x_bind (fun r1 er1 => ?_)
      refine x_callVR (av := [.int 2]) (st := []) (m_X5_allIn xTo_c1 2 im r1 er1) sh_1 (by decide) rfl rfl (by decide) (by decide) lk_X6_180 cd_X5_allIn xd_X5_allIn rfl (Nat.le_of_ble_eq_true rfl) dX6_minutes_44 ?_
      refine x_callSR (av := [.int r1]) (st := []) (m_J6_bitCount_0f7a4  r1 im) rfl (by decide) (by decide) lk_X6_183 cd_J6_bitCount_0f7a4 xd_J6_bitCount_0f7a4 rfl (Nat.le_of_ble_eq_true rfl) dX6_minutes_47 ?_
      refine x_bi (fun v2 => ?_)
      refine x_istore_n (lv' := [(2, .int v2), (0, .ref (g.1 0)), (1, .int a1)]) rfl dX6_minutes_50 (by decide) rfl ?_
      refine x_aload_n (q := 1) rfl rfl dX6_minutes_51 ?_
      refine x_get (C := RX6) (T := TX6) sh_0 (by decide) rfl in_X6 0 (by decide) fl_X6_12 xf_6_0 dX6_minutes_52 ?_
      refine x_iload_n (q := 2) rfl rfl dX6_minutes_55 ?_
      refine x_bind (fun r3 er3 => ?_)
      refine x_callVI (av := [.int a1]) (st := []) (m_X5_passMinutes xTo_c1 a1 im r3 er3) sh_1 (by decide) rfl rfl (by decide) (by decide) lk_X6_188 cd_X5_passMinutes xd_X5_passMinutes rfl (Nat.le_of_ble_eq_true rfl) dX6_minutes_56 ?_
      refine x_istore_n (lv' := [(3, .int r3.1), (2, .int v2), (0, .ref (g.1 0)), (1, .int a1)]) rfl dX6_minutes_59 (by decide) rfl ?_
      refine x_iload_n (q := 0) rfl rfl dX6_minutes_60 ?_
      refine x_aload_n (q := 2) rfl rfl dX6_minutes_61 ?_
      refine x_get (C := RX6) (T := TX6) sh_0 (by decide) rfl in_X6 0 (by decide) fl_X6_12 xf_6_0 dX6_minutes_62 ?_
      refine x_iconst (v := (2)) (by decide) dX6_minutes_65 ?_
      refine x_bind (fun r4 er4 => ?_)
      refine x_callVR (av := [.int 2]) (st := [.int r3.1]) (m_X5_allIn xTo_c1 2 r3.2 r4 er4) sh_1 (by decide) rfl rfl (by decide) (by decide) lk_X6_180 cd_X5_allIn xd_X5_allIn rfl (Nat.le_of_ble_eq_true rfl) dX6_minutes_66 ?_
      refine x_callSR (av := [.int r4]) (st := [.int r3.1]) (m_J6_bitCount_0f7a4  r4 r3.2) rfl (by decide) (by decide) lk_X6_183 cd_J6_bitCount_0f7a4 xd_J6_bitCount_0f7a4 rfl (Nat.le_of_ble_eq_true rfl) dX6_minutes_69 ?_
      refine x_iadd dX6_minutes_72 ?_
      refine x_iload_n (q := 1) rfl rfl dX6_minutes_73 ?_
      refine x_isub dX6_minutes_74 ?_
      exact x_iret rfl rfl dX6_minutes_75
    · refine x_aload_n (q := 0) rfl rfl dX6_minutes_32 ?_
      refine x_ldc co_X6_169 dX6_minutes_33 ?_
      refine x_bind (fun r5 er5 => ?_)
      refine x_callVI (av := [.int ((-1000005))]) (st := []) (m_X6_refuse  (((-1000005))) im r5 er5) sh_0 (by decide) rfl rfl (by decide) (by decide) lk_X6_72 cd_X6_refuse xd_X6_refuse rfl (Nat.le_of_ble_eq_true rfl) dX6_minutes_35 ?_
      exact x_iret rfl rfl dX6_minutes_38
  · refine x_aload_n (q := 0) rfl rfl dX6_minutes_10 ?_
    refine x_ldc co_X6_71 dX6_minutes_11 ?_
    refine x_bind (fun r6 er6 => ?_)
    refine x_callVI (av := [.int ((-1000001))]) (st := []) (m_X6_refuse  (((-1000001))) im r6 er6) sh_0 (by decide) rfl rfl (by decide) (by decide) lk_X6_72 cd_X6_refuse xd_X6_refuse rfl (Nat.le_of_ble_eq_true rfl) dX6_minutes_13 ?_
    exact x_iret rfl rfl dX6_minutes_16
theorem m_X6_minutes {g : GX}  (a1 : Int32) (im : IM) (r : Int32 × IM) (hr : f_X6_minutes a1 im = some r) : xMet g 5 yX6_minutes cX6_minutes 4 (some .int) [.ref (g.1 0), .int a1] im (eI r) := x_met (by decide) (Nat.le_of_ble_eq_true rfl) rfl (s_X6_minutes a1 im) r hr
abbrev md_X6_are : xM := (2, 2, RX6, cX6_are, (some .int))
def f_X6_are (a1 : Int32) (im : IM) : Option (Int32 × IM) :=
  if (f_X6_within a1 0 3) = 0 then
    (f_X6_refuse ((-1000001)) im).bind fun r2 =>
    some ((r2.1, r2.2))
  else
    (f_X5_allIn 1 a1 im).bind fun r1 =>
    some ((r1, im))
set_option maxRecDepth 20000 in
set_option maxHeartbeats 4000000 in
theorem s_X6_are {g : GX}  (a1 : Int32) (im : IM) : X g md_X6_are eI 0 [(0, .ref (g.1 0)), (1, .int a1)] [] im (f_X6_are a1 im) := by
  refine x_iload_n (q := 1) rfl rfl dX6_are_0 ?_
  refine x_iconst (v := (0)) (by decide) dX6_are_1 ?_
  refine x_iconst (v := (3)) (by decide) dX6_are_2 ?_
  refine x_callSR (av := [.int a1, .int 0, .int 3]) (st := []) (m_X6_within  a1 0 3 im) rfl (by decide) (by decide) lk_X6_79 cd_X6_within xd_X6_within rfl (Nat.le_of_ble_eq_true rfl) dX6_are_3 ?_
  refine x_if_ne (tgt := 16) dX6_are_6 (by decide) ?_ ?_
  · refine x_aload_n (q := 0) rfl rfl dX6_are_16 ?_
    refine x_get (C := RX6) (T := TX6) sh_0 (by decide) rfl in_X6 0 (by decide) fl_X6_12 xf_6_0 dX6_are_17 ?_
    refine x_iload_n (q := 1) rfl rfl dX6_are_20 ?_
    refine x_bind (fun r1 er1 => ?_)
    refine x_callVR (av := [.int a1]) (st := []) (m_X5_allIn xTo_c1 a1 im r1 er1) sh_1 (by decide) rfl rfl (by decide) (by decide) lk_X6_180 cd_X5_allIn xd_X5_allIn rfl (Nat.le_of_ble_eq_true rfl) dX6_are_21 ?_
    exact x_iret rfl rfl dX6_are_24
  · refine x_aload_n (q := 0) rfl rfl dX6_are_9 ?_
    refine x_ldc co_X6_71 dX6_are_10 ?_
    refine x_bind (fun r2 er2 => ?_)
    refine x_callVI (av := [.int ((-1000001))]) (st := []) (m_X6_refuse  (((-1000001))) im r2 er2) sh_0 (by decide) rfl rfl (by decide) (by decide) lk_X6_72 cd_X6_refuse xd_X6_refuse rfl (Nat.le_of_ble_eq_true rfl) dX6_are_12 ?_
    exact x_iret rfl rfl dX6_are_15
theorem m_X6_are {g : GX}  (a1 : Int32) (im : IM) (r : Int32 × IM) (hr : f_X6_are a1 im = some r) : xMet g 2 yX6_are cX6_are 2 (some .int) [.ref (g.1 0), .int a1] im (eI r) := x_met (by decide) (Nat.le_of_ble_eq_true rfl) rfl (s_X6_are a1 im) r hr
abbrev md_X6_on : xM := (2, 2, RX6, cX6_on, (some .int))
def f_X6_on (a1 : Int32) (im : IM) : Option (Int32 × IM) :=
  if (f_X6_isCell a1) = 0 then
    (f_X6_refuse ((-1000001)) im).bind fun r2 =>
    some ((r2.1, r2.2))
  else
    (f_X5_allOn 1 a1 im).bind fun r1 =>
    some ((r1, im))
set_option maxRecDepth 20000 in
set_option maxHeartbeats 4000000 in
theorem s_X6_on {g : GX}  (a1 : Int32) (im : IM) : X g md_X6_on eI 0 [(0, .ref (g.1 0)), (1, .int a1)] [] im (f_X6_on a1 im) := by
  refine x_iload_n (q := 1) rfl rfl dX6_on_0 ?_
  refine x_callSR (av := [.int a1]) (st := []) (m_X6_isCell  a1 im) rfl (by decide) (by decide) lk_X6_64 cd_X6_isCell xd_X6_isCell rfl (Nat.le_of_ble_eq_true rfl) dX6_on_1 ?_
  refine x_if_ne (tgt := 14) dX6_on_4 (by decide) ?_ ?_
  · refine x_aload_n (q := 0) rfl rfl dX6_on_14 ?_
    refine x_get (C := RX6) (T := TX6) sh_0 (by decide) rfl in_X6 0 (by decide) fl_X6_12 xf_6_0 dX6_on_15 ?_
    refine x_iload_n (q := 1) rfl rfl dX6_on_18 ?_
    refine x_bind (fun r1 er1 => ?_)
    refine x_callVR (av := [.int a1]) (st := []) (m_X5_allOn xTo_c1 a1 im r1 er1) sh_1 (by decide) rfl rfl (by decide) (by decide) lk_X6_191 cd_X5_allOn xd_X5_allOn rfl (Nat.le_of_ble_eq_true rfl) dX6_on_19 ?_
    exact x_iret rfl rfl dX6_on_22
  · refine x_aload_n (q := 0) rfl rfl dX6_on_7 ?_
    refine x_ldc co_X6_71 dX6_on_8 ?_
    refine x_bind (fun r2 er2 => ?_)
    refine x_callVI (av := [.int ((-1000001))]) (st := []) (m_X6_refuse  (((-1000001))) im r2 er2) sh_0 (by decide) rfl rfl (by decide) (by decide) lk_X6_72 cd_X6_refuse xd_X6_refuse rfl (Nat.le_of_ble_eq_true rfl) dX6_on_10 ?_
    exact x_iret rfl rfl dX6_on_13
theorem m_X6_on {g : GX}  (a1 : Int32) (im : IM) (r : Int32 × IM) (hr : f_X6_on a1 im = some r) : xMet g 2 yX6_on cX6_on 2 (some .int) [.ref (g.1 0), .int a1] im (eI r) := x_met (by decide) (Nat.le_of_ble_eq_true rfl) rfl (s_X6_on a1 im) r hr
abbrev md_X6_ahead : xM := (5, 3, RX6, cX6_ahead, (some .int))
def f_X6_ahead_j1 (a1 : Int32) (a2 : Int32)   (im : IM) : Option (Int32 × IM) :=
  (f_X6_refuse ((-1000001)) im).bind fun r1 =>
  some ((r1.1, r1.2))
set_option maxRecDepth 20000 in
set_option maxHeartbeats 4000000 in
theorem s_X6_ahead_j1 {g : GX} (a1 : Int32) (a2 : Int32)      (im : IM) : X g md_X6_ahead eI 35 [(0, .ref (g.1 0))] [] im (f_X6_ahead_j1 a1 a2 im) := by
  refine x_aload_n (q := 0) rfl rfl dX6_ahead_35 ?_
  refine x_ldc co_X6_71 dX6_ahead_36 ?_
  refine x_bind (fun r1 er1 => ?_)
  refine x_callVI (av := [.int ((-1000001))]) (st := []) (m_X6_refuse  (((-1000001))) im r1 er1) sh_0 (by decide) rfl rfl (by decide) (by decide) lk_X6_72 cd_X6_refuse xd_X6_refuse rfl (Nat.le_of_ble_eq_true rfl) dX6_ahead_38 ?_
  exact x_iret rfl rfl dX6_ahead_41
def f_X6_ahead_j2 (a1 : Int32) (a2 : Int32)   (im : IM) : Option (Int32 × IM) :=
  if (im 1 7) ≤ (9999 - a1) then
    (f_X5_become 31 1 im).bind fun r2 =>
    (f_X5_passMinutes 31 a1 r2).bind fun r3 =>
    if a2 = 0 then
      (f_X5_allIn 31 1 r3.2).bind fun r4 =>
      some ((r4, r3.2))
    else if a2 = 1 then
      (f_X5_allIn 31 2 r3.2).bind fun r5 =>
      some ((r5, r3.2))
    else if a2 = 2 then
      (f_X5_restingOnFoot 31 r3.2).bind fun r6 =>
      some ((r6, r3.2))
    else if a2 = 3 then
      (f_X5_damageOfAll 31 r3.2).bind fun r7 =>
      some ((r7, r3.2))
    else 
      bnd (a2 - 4) fun v9 =>
      if inb v9 10 = true then
        some ((r3.2 (36 + ix v9) 4, r3.2))
      else none
  else
    (f_X6_refuse ((-1000005)) im).bind fun r10 =>
    some ((r10.1, r10.2))
set_option maxRecDepth 20000 in
set_option maxHeartbeats 4000000 in
theorem s_X6_ahead_j2 {g : GX} (a1 : Int32) (a2 : Int32)      (im : IM) : X g md_X6_ahead eI 42 [(0, .ref (g.1 0)), (1, .int a1), (2, .int a2)] [] im (f_X6_ahead_j2 a1 a2 im) := by
  refine x_aload_n (q := 0) rfl rfl dX6_ahead_42 ?_
  refine x_get (C := RX6) (T := TX6) sh_0 (by decide) rfl in_X6 0 (by decide) fl_X6_12 xf_6_0 dX6_ahead_43 ?_
  refine x_get (C := RX5) (T := TX5) sh_1 (by decide) rfl in_X5 7 (by decide) fl_X6_177 xf_5_7 dX6_ahead_46 ?_
  refine x_sipush (v := (9999)) (by decide) dX6_ahead_49 ?_
  refine x_iload_n (q := 1) rfl rfl dX6_ahead_52 ?_
  refine x_isub dX6_ahead_53 ?_
  refine x_icmp_le (tgt := 64) dX6_ahead_54 (by decide) ?_ ?_
  · refine x_aload_n (q := 0) rfl rfl dX6_ahead_64 ?_
    refine x_get (C := RX6) (T := TX6) sh_0 (by decide) rfl in_X6 3 (by decide) fl_X6_23 xf_6_3 dX6_ahead_65 ?_
    refine x_aload_n (q := 0) rfl rfl dX6_ahead_68 ?_
    refine x_get (C := RX6) (T := TX6) sh_0 (by decide) rfl in_X6 0 (by decide) fl_X6_12 xf_6_0 dX6_ahead_69 ?_
    refine x_bind (fun r2 er2 => ?_)
    refine x_callVV (av := [.ref (g.1 1)]) (st := []) (m_X5_become xTo_c31 xTo_c1  im r2 er2) sh_31 (by decide) rfl rfl (by decide) (by decide) lk_X6_194 cd_X5_become xd_X5_become rfl (Nat.le_of_ble_eq_true rfl) dX6_ahead_72 ?_
    refine x_aload_n (q := 0) rfl rfl dX6_ahead_75 ?_
    refine x_get (C := RX6) (T := TX6) sh_0 (by decide) rfl in_X6 3 (by decide) fl_X6_23 xf_6_3 dX6_ahead_76 ?_
    refine x_iload_n (q := 1) rfl rfl dX6_ahead_79 ?_
    refine x_bind (fun r3 er3 => ?_)
    refine x_callVI (av := [.int a1]) (st := []) (m_X5_passMinutes xTo_c31 a1 r2 r3 er3) sh_31 (by decide) rfl rfl (by decide) (by decide) lk_X6_188 cd_X5_passMinutes xd_X5_passMinutes rfl (Nat.le_of_ble_eq_true rfl) dX6_ahead_80 ?_
    refine x_pop rfl dX6_ahead_83 ?_
    refine x_iload_n (q := 2) rfl rfl dX6_ahead_84 ?_
    refine x_case (k := 0) (fun hx85_0 => ?_) (fun hx85_0 => ?_)
    · refine x_tsw (off := 31) (tgt := 116) dX6_ahead_85 (by rw [hx85_0]; decide) (by rw [hx85_0]; decide) (by rw [hx85_0]; rfl) (by decide) ?_
      refine x_aload_n (q := 0) rfl rfl dX6_ahead_116 ?_
      refine x_get (C := RX6) (T := TX6) sh_0 (by decide) rfl in_X6 3 (by decide) fl_X6_23 xf_6_3 dX6_ahead_117 ?_
      refine x_iconst (v := (1)) (by decide) dX6_ahead_120 ?_
      refine x_bind (fun r4 er4 => ?_)
      refine x_callVR (av := [.int 1]) (st := []) (m_X5_allIn xTo_c31 1 r3.2 r4 er4) sh_31 (by decide) rfl rfl (by decide) (by decide) lk_X6_180 cd_X5_allIn xd_X5_allIn rfl (Nat.le_of_ble_eq_true rfl) dX6_ahead_121 ?_
      exact x_iret rfl rfl dX6_ahead_124
    refine x_case (k := 1) (fun hx85_1 => ?_) (fun hx85_1 => ?_)
    · refine x_tsw (off := 40) (tgt := 125) dX6_ahead_85 (by rw [hx85_1]; decide) (by rw [hx85_1]; decide) (by rw [hx85_1]; rfl) (by decide) ?_
      refine x_aload_n (q := 0) rfl rfl dX6_ahead_125 ?_
      refine x_get (C := RX6) (T := TX6) sh_0 (by decide) rfl in_X6 3 (by decide) fl_X6_23 xf_6_3 dX6_ahead_126 ?_
      refine x_iconst (v := (2)) (by decide) dX6_ahead_129 ?_
      refine x_bind (fun r5 er5 => ?_)
      refine x_callVR (av := [.int 2]) (st := []) (m_X5_allIn xTo_c31 2 r3.2 r5 er5) sh_31 (by decide) rfl rfl (by decide) (by decide) lk_X6_180 cd_X5_allIn xd_X5_allIn rfl (Nat.le_of_ble_eq_true rfl) dX6_ahead_130 ?_
      exact x_iret rfl rfl dX6_ahead_133
    refine x_case (k := 2) (fun hx85_2 => ?_) (fun hx85_2 => ?_)
    · refine x_tsw (off := 49) (tgt := 134) dX6_ahead_85 (by rw [hx85_2]; decide) (by rw [hx85_2]; decide) (by rw [hx85_2]; rfl) (by decide) ?_
      refine x_aload_n (q := 0) rfl rfl dX6_ahead_134 ?_
      refine x_get (C := RX6) (T := TX6) sh_0 (by decide) rfl in_X6 3 (by decide) fl_X6_23 xf_6_3 dX6_ahead_135 ?_
      refine x_bind (fun r6 er6 => ?_)
      refine x_callVR (av := []) (st := []) (m_X5_restingOnFoot xTo_c31  r3.2 r6 er6) sh_31 (by decide) rfl rfl (by decide) (by decide) lk_X6_198 cd_X5_restingOnFoot xd_X5_restingOnFoot rfl (Nat.le_of_ble_eq_true rfl) dX6_ahead_138 ?_
      exact x_iret rfl rfl dX6_ahead_141
    refine x_case (k := 3) (fun hx85_3 => ?_) (fun hx85_3 => ?_)
    · refine x_tsw (off := 57) (tgt := 142) dX6_ahead_85 (by rw [hx85_3]; decide) (by rw [hx85_3]; decide) (by rw [hx85_3]; rfl) (by decide) ?_
      refine x_aload_n (q := 0) rfl rfl dX6_ahead_142 ?_
      refine x_get (C := RX6) (T := TX6) sh_0 (by decide) rfl in_X6 3 (by decide) fl_X6_23 xf_6_3 dX6_ahead_143 ?_
      refine x_bind (fun r7 er7 => ?_)
      refine x_callVR (av := []) (st := []) (m_X5_damageOfAll xTo_c31  r3.2 r7 er7) sh_31 (by decide) rfl rfl (by decide) (by decide) lk_X6_201 cd_X5_damageOfAll xd_X5_damageOfAll rfl (Nat.le_of_ble_eq_true rfl) dX6_ahead_146 ?_
      exact x_iret rfl rfl dX6_ahead_149
    have ho85 : (a2).toInt < 0 ∨ 3 < (a2).toInt := by
      refine x_out (fun k h1 h2 => ?_)
      have hk : k = 0 ∨ k = 1 ∨ k = 2 ∨ k = 3 := by omega
      rcases hk with rfl | rfl | rfl | rfl
      · exact hx85_0
      · exact hx85_1
      · exact hx85_2
      · exact hx85_3
    refine x_tsd (tgt := 150) dX6_ahead_85 ho85 (by decide) ?_
    refine x_aload_n (q := 0) rfl rfl dX6_ahead_150 ?_
    refine x_get (C := RX6) (T := TX6) sh_0 (by decide) rfl in_X6 3 (by decide) fl_X6_23 xf_6_3 dX6_ahead_151 ?_
    refine x_get (C := RX5) (T := TX5) sh_31 (by decide) rfl in_X5 2 (by decide) fl_X6_120 xf_5_2 dX6_ahead_154 ?_
    refine x_iload_n (q := 2) rfl rfl dX6_ahead_157 ?_
    refine x_iconst (v := (4)) (by decide) dX6_ahead_158 ?_
    refine x_isub dX6_ahead_159 ?_
    refine x_bi (fun v9 => ?_)
    refine x_aldT sh_34 dX6_ahead_160 (fun hi8 => ?_)
    refine x_get (C := RX4) (T := TX4) (xTh xTo_c31 hi8) (by decide) rfl in_X4 4 (by decide) fl_X6_138 xf_4_4 dX6_ahead_161 ?_
    exact x_iret rfl rfl dX6_ahead_164
  · refine x_aload_n (q := 0) rfl rfl dX6_ahead_57 ?_
    refine x_ldc co_X6_169 dX6_ahead_58 ?_
    refine x_bind (fun r10 er10 => ?_)
    refine x_callVI (av := [.int ((-1000005))]) (st := []) (m_X6_refuse  (((-1000005))) im r10 er10) sh_0 (by decide) rfl rfl (by decide) (by decide) lk_X6_72 cd_X6_refuse xd_X6_refuse rfl (Nat.le_of_ble_eq_true rfl) dX6_ahead_60 ?_
    exact x_iret rfl rfl dX6_ahead_63
def f_X6_ahead (a1 : Int32) (a2 : Int32) (im : IM) : Option (Int32 × IM) :=
  if (f_X6_within a1 0 200) = 0 then
    f_X6_ahead_j1 a1 a2 im
  else
    if (f_X6_within a2 0 3) = 0 then
      if a2 ≤ 3 then
        f_X6_ahead_j1 a1 a2 im
      else
        if (f_X6_isThing (a2 - 4) im) = 0 then
          f_X6_ahead_j1 a1 a2 im
        else
          f_X6_ahead_j2 a1 a2 im
    else
      f_X6_ahead_j2 a1 a2 im
set_option maxRecDepth 20000 in
set_option maxHeartbeats 4000000 in
theorem s_X6_ahead {g : GX}   (a1 : Int32) (a2 : Int32) (im : IM) : X g md_X6_ahead eI 0 [(0, .ref (g.1 0)), (1, .int a1), (2, .int a2)] [] im (f_X6_ahead a1 a2 im) := by
  refine x_iload_n (q := 1) rfl rfl dX6_ahead_0 ?_
  refine x_iconst (v := (0)) (by decide) dX6_ahead_1 ?_
  refine x_sipush (v := (200)) (by decide) dX6_ahead_2 ?_
  refine x_callSR (av := [.int a1, .int 0, .int 200]) (st := []) (m_X6_within  a1 0 200 im) rfl (by decide) (by decide) lk_X6_79 cd_X6_within xd_X6_within rfl (Nat.le_of_ble_eq_true rfl) dX6_ahead_5 ?_
  refine x_if_eq (tgt := 35) dX6_ahead_8 (by decide) ?_ ?_
  · refine x_sub [0] rfl ?_
    exact s_X6_ahead_j1 a1 a2 im
  · refine x_iload_n (q := 2) rfl rfl dX6_ahead_11 ?_
    refine x_iconst (v := (0)) (by decide) dX6_ahead_12 ?_
    refine x_iconst (v := (3)) (by decide) dX6_ahead_13 ?_
    refine x_callSR (av := [.int a2, .int 0, .int 3]) (st := []) (m_X6_within  a2 0 3 im) rfl (by decide) (by decide) lk_X6_79 cd_X6_within xd_X6_within rfl (Nat.le_of_ble_eq_true rfl) dX6_ahead_14 ?_
    refine x_if_ne (tgt := 42) dX6_ahead_17 (by decide) ?_ ?_
    · refine x_sub [0, 1, 2] rfl ?_
      exact s_X6_ahead_j2 a1 a2 im
    · refine x_iload_n (q := 2) rfl rfl dX6_ahead_20 ?_
      refine x_iconst (v := (3)) (by decide) dX6_ahead_21 ?_
      refine x_icmp_le (tgt := 35) dX6_ahead_22 (by decide) ?_ ?_
      · refine x_sub [0] rfl ?_
        exact s_X6_ahead_j1 a1 a2 im
      · refine x_aload_n (q := 0) rfl rfl dX6_ahead_25 ?_
        refine x_iload_n (q := 2) rfl rfl dX6_ahead_26 ?_
        refine x_iconst (v := (4)) (by decide) dX6_ahead_27 ?_
        refine x_isub dX6_ahead_28 ?_
        refine x_callVR (av := [.int (a2 - 4)]) (st := []) (m_X6_isThing  ((a2 - 4)) im) sh_0 (by decide) rfl rfl (by decide) (by decide) lk_X6_117 cd_X6_isThing xd_X6_isThing rfl (Nat.le_of_ble_eq_true rfl) dX6_ahead_29 ?_
        refine x_if_ne (tgt := 42) dX6_ahead_32 (by decide) ?_ ?_
        · refine x_sub [0, 1, 2] rfl ?_
          exact s_X6_ahead_j2 a1 a2 im
        · refine x_sub [0] rfl ?_
          exact s_X6_ahead_j1 a1 a2 im
theorem m_X6_ahead {g : GX}   (a1 : Int32) (a2 : Int32) (im : IM) (r : Int32 × IM) (hr : f_X6_ahead a1 a2 im = some r) : xMet g 5 yX6_ahead cX6_ahead 3 (some .int) [.ref (g.1 0), .int a1, .int a2] im (eI r) := x_met (by decide) (Nat.le_of_ble_eq_true rfl) rfl (s_X6_ahead a1 a2 im) r hr
abbrev md_X6_meet : xM := (5, 2, RX6, cX6_meet, (some .int))
def f_X6_meet  (im : IM) : Option (Int32 × IM) :=
  if (im 1 7) ≤ 9799 then
    (f_X5_become 31 1 im).bind fun r1 =>
    (f_X5_firstMeeting 31 200 r1).bind fun r2 =>
    if r2.1 = 0 then
      (f_X6_refuse ((-1000004)) r2.2).bind fun r3 =>
      some ((r3.1, r3.2))
    else
      some ((r2.1, r2.2))
  else
    (f_X6_refuse ((-1000005)) im).bind fun r4 =>
    some ((r4.1, r4.2))
set_option maxRecDepth 20000 in
set_option maxHeartbeats 4000000 in
theorem s_X6_meet {g : GX}   (im : IM) : X g md_X6_meet eI 0 [(0, .ref (g.1 0))] [] im (f_X6_meet im) := by
  refine x_aload_n (q := 0) rfl rfl dX6_meet_0 ?_
  refine x_get (C := RX6) (T := TX6) sh_0 (by decide) rfl in_X6 0 (by decide) fl_X6_12 xf_6_0 dX6_meet_1 ?_
  refine x_get (C := RX5) (T := TX5) sh_1 (by decide) rfl in_X5 7 (by decide) fl_X6_177 xf_5_7 dX6_meet_4 ?_
  refine x_sipush (v := (9799)) (by decide) dX6_meet_7 ?_
  refine x_icmp_le (tgt := 20) dX6_meet_10 (by decide) ?_ ?_
  · refine x_aload_n (q := 0) rfl rfl dX6_meet_20 ?_
    refine x_get (C := RX6) (T := TX6) sh_0 (by decide) rfl in_X6 3 (by decide) fl_X6_23 xf_6_3 dX6_meet_21 ?_
    refine x_aload_n (q := 0) rfl rfl dX6_meet_24 ?_
    refine x_get (C := RX6) (T := TX6) sh_0 (by decide) rfl in_X6 0 (by decide) fl_X6_12 xf_6_0 dX6_meet_25 ?_
    refine x_bind (fun r1 er1 => ?_)
    refine x_callVV (av := [.ref (g.1 1)]) (st := []) (m_X5_become xTo_c31 xTo_c1  im r1 er1) sh_31 (by decide) rfl rfl (by decide) (by decide) lk_X6_194 cd_X5_become xd_X5_become rfl (Nat.le_of_ble_eq_true rfl) dX6_meet_28 ?_
    refine x_aload_n (q := 0) rfl rfl dX6_meet_31 ?_
    refine x_get (C := RX6) (T := TX6) sh_0 (by decide) rfl in_X6 3 (by decide) fl_X6_23 xf_6_3 dX6_meet_32 ?_
    refine x_sipush (v := (200)) (by decide) dX6_meet_35 ?_
    refine x_bind (fun r2 er2 => ?_)
    refine x_callVI (av := [.int 200]) (st := []) (m_X5_firstMeeting xTo_c31 200 r1 r2 er2) sh_31 (by decide) rfl rfl (by decide) (by decide) lk_X6_204 cd_X5_firstMeeting xd_X5_firstMeeting rfl (Nat.le_of_ble_eq_true rfl) dX6_meet_38 ?_
    refine x_istore_n (lv' := [(1, .int r2.1), (0, .ref (g.1 0))]) rfl dX6_meet_41 (by decide) rfl ?_
    refine x_iload_n (q := 0) rfl rfl dX6_meet_42 ?_
    refine x_if_ne (tgt := 55) dX6_meet_43 (by decide) ?_ ?_
    · refine x_iload_n (q := 0) rfl rfl dX6_meet_55 ?_
      exact x_iret rfl rfl dX6_meet_56
    · refine x_aload_n (q := 1) rfl rfl dX6_meet_46 ?_
      refine x_ldc co_X6_207 dX6_meet_47 ?_
      refine x_bind (fun r3 er3 => ?_)
      refine x_callVI (av := [.int ((-1000004))]) (st := []) (m_X6_refuse  (((-1000004))) r2.2 r3 er3) sh_0 (by decide) rfl rfl (by decide) (by decide) lk_X6_72 cd_X6_refuse xd_X6_refuse rfl (Nat.le_of_ble_eq_true rfl) dX6_meet_49 ?_
      refine x_goto (tgt := 56) dX6_meet_52 (by decide) ?_
      exact x_iret rfl rfl dX6_meet_56
  · refine x_aload_n (q := 0) rfl rfl dX6_meet_13 ?_
    refine x_ldc co_X6_169 dX6_meet_14 ?_
    refine x_bind (fun r4 er4 => ?_)
    refine x_callVI (av := [.int ((-1000005))]) (st := []) (m_X6_refuse  (((-1000005))) im r4 er4) sh_0 (by decide) rfl rfl (by decide) (by decide) lk_X6_72 cd_X6_refuse xd_X6_refuse rfl (Nat.le_of_ble_eq_true rfl) dX6_meet_16 ?_
    exact x_iret rfl rfl dX6_meet_19
theorem m_X6_meet {g : GX}   (im : IM) (r : Int32 × IM) (hr : f_X6_meet im = some r) : xMet g 5 yX6_meet cX6_meet 2 (some .int) [.ref (g.1 0)] im (eI r) := x_met (by decide) (Nat.le_of_ble_eq_true rfl) rfl (s_X6_meet im) r hr
abbrev md_X6_isTooLateToRoll : xM := (0, 1, RX6, cX6_isTooLateToRoll, (some .boolean))
def f_X6_isTooLateToRoll  (im : IM) : Int32 :=
  if (im 1 7) ≤ 9799 then
    0
  else
    1
set_option maxRecDepth 20000 in
set_option maxHeartbeats 4000000 in
theorem s_X6_isTooLateToRoll {g : GX}   (im : IM) : X g md_X6_isTooLateToRoll (eR im) 0 [(0, .ref (g.1 0))] [] im (some (f_X6_isTooLateToRoll im)) := by
  refine x_aload_n (q := 0) rfl rfl dX6_isTooLateToRoll_0 ?_
  refine x_get (C := RX6) (T := TX6) sh_0 (by decide) rfl in_X6 0 (by decide) fl_X6_12 xf_6_0 dX6_isTooLateToRoll_1 ?_
  refine x_get (C := RX5) (T := TX5) sh_1 (by decide) rfl in_X5 7 (by decide) fl_X6_177 xf_5_7 dX6_isTooLateToRoll_4 ?_
  refine x_sipush (v := (9799)) (by decide) dX6_isTooLateToRoll_7 ?_
  refine x_cs ?_
  refine x_icmp_le (tgt := 17) dX6_isTooLateToRoll_10 (by decide) ?_ ?_
  · refine x_iconst (v := (0)) (by decide) dX6_isTooLateToRoll_17 ?_
    exact x_nret (y := 0) rfl rfl (by decide) dX6_isTooLateToRoll_18
  · refine x_iconst (v := (1)) (by decide) dX6_isTooLateToRoll_13 ?_
    refine x_goto (tgt := 18) dX6_isTooLateToRoll_14 (by decide) ?_
    exact x_nret (y := 1) rfl rfl (by decide) dX6_isTooLateToRoll_18
theorem m_X6_isTooLateToRoll {g : GX}   (im : IM) : xMet g 0 yX6_isTooLateToRoll cX6_isTooLateToRoll 1 (some .boolean) [.ref (g.1 0)] im ((eR im) (f_X6_isTooLateToRoll im)) := x_met (by decide) (Nat.le_of_ble_eq_true rfl) rfl (s_X6_isTooLateToRoll im) _ rfl
abbrev md_X6_againstRoll : xM := (2, 3, RX6, cX6_againstRoll, (some .int))
def f_X6_againstRoll_j1 (a1 : Int32)   (im : IM) : Option (Int32) :=
  some ((-1000005))
set_option maxRecDepth 20000 in
set_option maxHeartbeats 4000000 in
theorem s_X6_againstRoll_j1 {g : GX} (a1 : Int32)   (im : IM)    : X g md_X6_againstRoll (eR im) 44 [] [] im (f_X6_againstRoll_j1 a1 im) := by
  refine x_ldc co_X6_169 dX6_againstRoll_44 ?_
  refine x_goto (tgt := 50) dX6_againstRoll_46 (by decide) ?_
  exact x_iret rfl rfl dX6_againstRoll_50
def f_X6_againstRoll (a1 : Int32) (im : IM) : Option (Int32) :=
  if (f_X6_isThing a1 im) = 0 then
    some ((-1000001))
  else
    if inb a1 10 = true then
      if (f_X4_isStanding (6 + ix a1) im) = 0 then
        f_X6_againstRoll_j1 a1 im
      else
        if (im (6 + ix a1) 4) = 30 then
          f_X6_againstRoll_j1 a1 im
        else
          if (f_X6_isTooLateToRoll im) = 0 then
            some 0
          else
            f_X6_againstRoll_j1 a1 im
    else none
set_option maxRecDepth 20000 in
set_option maxHeartbeats 4000000 in
theorem s_X6_againstRoll {g : GX}  (a1 : Int32) (im : IM) : X g md_X6_againstRoll (eR im) 0 [(0, .ref (g.1 0)), (1, .int a1)] [] im (f_X6_againstRoll a1 im) := by
  refine x_aload_n (q := 0) rfl rfl dX6_againstRoll_0 ?_
  refine x_iload_n (q := 1) rfl rfl dX6_againstRoll_1 ?_
  refine x_callVR (av := [.int a1]) (st := []) (m_X6_isThing  a1 im) sh_0 (by decide) rfl rfl (by decide) (by decide) lk_X6_117 cd_X6_isThing xd_X6_isThing rfl (Nat.le_of_ble_eq_true rfl) dX6_againstRoll_2 ?_
  refine x_if_ne (tgt := 11) dX6_againstRoll_5 (by decide) ?_ ?_
  · refine x_aload_n (q := 0) rfl rfl dX6_againstRoll_11 ?_
    refine x_get (C := RX6) (T := TX6) sh_0 (by decide) rfl in_X6 0 (by decide) fl_X6_12 xf_6_0 dX6_againstRoll_12 ?_
    refine x_get (C := RX5) (T := TX5) sh_1 (by decide) rfl in_X5 2 (by decide) fl_X6_120 xf_5_2 dX6_againstRoll_15 ?_
    refine x_iload_n (q := 1) rfl rfl dX6_againstRoll_18 ?_
    refine x_aldT sh_4 dX6_againstRoll_19 (fun hi1 => ?_)
    refine x_astore_n (lv' := [(2, .ref (g.1 ((6 + ix a1)))), (0, .ref (g.1 0)), (1, .int a1)]) rfl dX6_againstRoll_20 (by decide) rfl ?_
    refine x_aload_n (q := 0) rfl rfl dX6_againstRoll_21 ?_
    refine x_callVR (av := []) (st := []) (m_X4_isStanding (xTh xTo_c1 hi1)  im) (xTh xTo_c1 hi1) (by decide) rfl rfl (by decide) (by decide) lk_X6_356 cd_X4_isStanding xd_X4_isStanding rfl (Nat.le_of_ble_eq_true rfl) dX6_againstRoll_22 ?_
    refine x_if_eq (tgt := 44) dX6_againstRoll_25 (by decide) ?_ ?_
    · refine x_sub [] rfl ?_
      exact s_X6_againstRoll_j1 a1 im
    · refine x_aload_n (q := 0) rfl rfl dX6_againstRoll_28 ?_
      refine x_get (C := RX4) (T := TX4) (xTh xTo_c1 hi1) (by decide) rfl in_X4 4 (by decide) fl_X6_138 xf_4_4 dX6_againstRoll_29 ?_
      refine x_bipush (v := (30)) (by decide) dX6_againstRoll_32 ?_
      refine x_icmp_eq (tgt := 44) dX6_againstRoll_34 (by decide) ?_ ?_
      · refine x_sub [] rfl ?_
        exact s_X6_againstRoll_j1 a1 im
      · refine x_aload_n (q := 1) rfl rfl dX6_againstRoll_37 ?_
        refine x_callVR (av := []) (st := []) (m_X6_isTooLateToRoll   im) sh_0 (by decide) rfl rfl (by decide) (by decide) lk_X6_250 cd_X6_isTooLateToRoll xd_X6_isTooLateToRoll rfl (Nat.le_of_ble_eq_true rfl) dX6_againstRoll_38 ?_
        refine x_if_eq (tgt := 49) dX6_againstRoll_41 (by decide) ?_ ?_
        · refine x_iconst (v := (0)) (by decide) dX6_againstRoll_49 ?_
          exact x_iret rfl rfl dX6_againstRoll_50
        · refine x_sub [] rfl ?_
          exact s_X6_againstRoll_j1 a1 im
  · refine x_ldc co_X6_71 dX6_againstRoll_8 ?_
    exact x_iret rfl rfl dX6_againstRoll_10
theorem m_X6_againstRoll {g : GX}  (a1 : Int32) (im : IM) (r : Int32) (hr : f_X6_againstRoll a1 im = some r) : xMet g 2 yX6_againstRoll cX6_againstRoll 3 (some .int) [.ref (g.1 0), .int a1] im ((eR im) r) := x_met (by decide) (Nat.le_of_ble_eq_true rfl) rfl (s_X6_againstRoll a1 im) r hr
abbrev md_X6_ends : xM := (5, 3, RX6, cX6_ends, (some .int))
def f_X6_ends (a1 : Int32) (im : IM) : Option (Int32 × IM) :=
  (f_X6_againstRoll a1 im).bind fun r1 =>
  if r1 = 0 then
    if inb a1 10 = true then
      (f_X2_run 1 (6 + ix a1) im).bind fun r3 =>
      if (f_X2_goesStill r3) = 0 then
        some ((f_X2_place r3, r3))
      else
        (f_X6_refuse ((-1000004)) r3).bind fun r4 =>
        some ((r4.1, r4.2))
    else none
  else
    (f_X6_refuse r1 im).bind fun r5 =>
    some ((r5.1, r5.2))
set_option maxRecDepth 20000 in
set_option maxHeartbeats 4000000 in
theorem s_X6_ends {g : GX}  (a1 : Int32) (im : IM) : X g md_X6_ends eI 0 [(0, .ref (g.1 0)), (1, .int a1)] [] im (f_X6_ends a1 im) := by
  refine x_aload_n (q := 0) rfl rfl dX6_ends_0 ?_
  refine x_iload_n (q := 1) rfl rfl dX6_ends_1 ?_
  refine x_bind (fun r1 er1 => ?_)
  refine x_callVR (av := [.int a1]) (st := []) (m_X6_againstRoll  a1 im r1 er1) sh_0 (by decide) rfl rfl (by decide) (by decide) lk_X6_208 cd_X6_againstRoll xd_X6_againstRoll rfl (Nat.le_of_ble_eq_true rfl) dX6_ends_2 ?_
  refine x_istore_n (lv' := [(2, .int r1), (0, .ref (g.1 0)), (1, .int a1)]) rfl dX6_ends_5 (by decide) rfl ?_
  refine x_iload_n (q := 0) rfl rfl dX6_ends_6 ?_
  refine x_if_eq (tgt := 16) dX6_ends_7 (by decide) ?_ ?_
  · refine x_aload_n (q := 1) rfl rfl dX6_ends_16 ?_
    refine x_get (C := RX6) (T := TX6) sh_0 (by decide) rfl in_X6 5 (by decide) fl_X6_32 xf_6_5 dX6_ends_17 ?_
    refine x_aload_n (q := 1) rfl rfl dX6_ends_20 ?_
    refine x_get (C := RX6) (T := TX6) sh_0 (by decide) rfl in_X6 0 (by decide) fl_X6_12 xf_6_0 dX6_ends_21 ?_
    refine x_aload_n (q := 1) rfl rfl dX6_ends_24 ?_
    refine x_get (C := RX6) (T := TX6) sh_0 (by decide) rfl in_X6 0 (by decide) fl_X6_12 xf_6_0 dX6_ends_25 ?_
    refine x_get (C := RX5) (T := TX5) sh_1 (by decide) rfl in_X5 2 (by decide) fl_X6_120 xf_5_2 dX6_ends_28 ?_
    refine x_iload_n (q := 2) rfl rfl dX6_ends_31 ?_
    refine x_aldT sh_4 dX6_ends_32 (fun hi2 => ?_)
    refine x_bind (fun r3 er3 => ?_)
    refine x_callVV (av := [.ref (g.1 1), .ref (g.1 ((6 + ix a1)))]) (st := []) (m_X2_run xTo_c1 (xTh xTo_c1 hi2)  im r3 er3) sh_61 (by decide) rfl rfl (by decide) (by decide) lk_X6_211 cd_X2_run xd_X2_run rfl (Nat.le_of_ble_eq_true rfl) dX6_ends_33 ?_
    refine x_aload_n (q := 1) rfl rfl dX6_ends_36 ?_
    refine x_get (C := RX6) (T := TX6) sh_0 (by decide) rfl in_X6 5 (by decide) fl_X6_32 xf_6_5 dX6_ends_37 ?_
    refine x_callVR (av := []) (st := []) (m_X2_goesStill   r3) sh_61 (by decide) rfl rfl (by decide) (by decide) lk_X6_215 cd_X2_goesStill xd_X2_goesStill rfl (Nat.le_of_ble_eq_true rfl) dX6_ends_40 ?_
    refine x_if_eq (tgt := 55) dX6_ends_43 (by decide) ?_ ?_
    · refine x_aload_n (q := 1) rfl rfl dX6_ends_55 ?_
      refine x_get (C := RX6) (T := TX6) sh_0 (by decide) rfl in_X6 5 (by decide) fl_X6_32 xf_6_5 dX6_ends_56 ?_
      refine x_callVR (av := []) (st := []) (m_X2_place   r3) sh_61 (by decide) rfl rfl (by decide) (by decide) lk_X6_218 cd_X2_place xd_X2_place rfl (Nat.le_of_ble_eq_true rfl) dX6_ends_59 ?_
      exact x_iret rfl rfl dX6_ends_62
    · refine x_aload_n (q := 1) rfl rfl dX6_ends_46 ?_
      refine x_ldc co_X6_207 dX6_ends_47 ?_
      refine x_bind (fun r4 er4 => ?_)
      refine x_callVI (av := [.int ((-1000004))]) (st := []) (m_X6_refuse  (((-1000004))) r3 r4 er4) sh_0 (by decide) rfl rfl (by decide) (by decide) lk_X6_72 cd_X6_refuse xd_X6_refuse rfl (Nat.le_of_ble_eq_true rfl) dX6_ends_49 ?_
      refine x_goto (tgt := 62) dX6_ends_52 (by decide) ?_
      exact x_iret rfl rfl dX6_ends_62
  · refine x_aload_n (q := 1) rfl rfl dX6_ends_10 ?_
    refine x_iload_n (q := 0) rfl rfl dX6_ends_11 ?_
    refine x_bind (fun r5 er5 => ?_)
    refine x_callVI (av := [.int r1]) (st := []) (m_X6_refuse  r1 im r5 er5) sh_0 (by decide) rfl rfl (by decide) (by decide) lk_X6_72 cd_X6_refuse xd_X6_refuse rfl (Nat.le_of_ble_eq_true rfl) dX6_ends_12 ?_
    exact x_iret rfl rfl dX6_ends_15
theorem m_X6_ends {g : GX}  (a1 : Int32) (im : IM) (r : Int32 × IM) (hr : f_X6_ends a1 im = some r) : xMet g 5 yX6_ends cX6_ends 3 (some .int) [.ref (g.1 0), .int a1] im (eI r) := x_met (by decide) (Nat.le_of_ble_eq_true rfl) rfl (s_X6_ends a1 im) r hr
abbrev md_X6_takes : xM := (5, 3, RX6, cX6_takes, (some .int))
def f_X6_takes (a1 : Int32) (im : IM) : Option (Int32 × IM) :=
  (f_X6_againstRoll a1 im).bind fun r1 =>
  if r1 = 0 then
    if inb a1 10 = true then
      (f_X2_run 1 (6 + ix a1) im).bind fun r3 =>
      if (f_X2_goesStill r3) = 0 then
        some ((r3 61 1, r3))
      else
        (f_X6_refuse ((-1000004)) r3).bind fun r4 =>
        some ((r4.1, r4.2))
    else none
  else
    (f_X6_refuse r1 im).bind fun r5 =>
    some ((r5.1, r5.2))
set_option maxRecDepth 20000 in
set_option maxHeartbeats 4000000 in
theorem s_X6_takes {g : GX}  (a1 : Int32) (im : IM) : X g md_X6_takes eI 0 [(0, .ref (g.1 0)), (1, .int a1)] [] im (f_X6_takes a1 im) := by
  refine x_aload_n (q := 0) rfl rfl dX6_takes_0 ?_
  refine x_iload_n (q := 1) rfl rfl dX6_takes_1 ?_
  refine x_bind (fun r1 er1 => ?_)
  refine x_callVR (av := [.int a1]) (st := []) (m_X6_againstRoll  a1 im r1 er1) sh_0 (by decide) rfl rfl (by decide) (by decide) lk_X6_208 cd_X6_againstRoll xd_X6_againstRoll rfl (Nat.le_of_ble_eq_true rfl) dX6_takes_2 ?_
  refine x_istore_n (lv' := [(2, .int r1), (0, .ref (g.1 0)), (1, .int a1)]) rfl dX6_takes_5 (by decide) rfl ?_
  refine x_iload_n (q := 0) rfl rfl dX6_takes_6 ?_
  refine x_if_eq (tgt := 16) dX6_takes_7 (by decide) ?_ ?_
  · refine x_aload_n (q := 1) rfl rfl dX6_takes_16 ?_
    refine x_get (C := RX6) (T := TX6) sh_0 (by decide) rfl in_X6 5 (by decide) fl_X6_32 xf_6_5 dX6_takes_17 ?_
    refine x_aload_n (q := 1) rfl rfl dX6_takes_20 ?_
    refine x_get (C := RX6) (T := TX6) sh_0 (by decide) rfl in_X6 0 (by decide) fl_X6_12 xf_6_0 dX6_takes_21 ?_
    refine x_aload_n (q := 1) rfl rfl dX6_takes_24 ?_
    refine x_get (C := RX6) (T := TX6) sh_0 (by decide) rfl in_X6 0 (by decide) fl_X6_12 xf_6_0 dX6_takes_25 ?_
    refine x_get (C := RX5) (T := TX5) sh_1 (by decide) rfl in_X5 2 (by decide) fl_X6_120 xf_5_2 dX6_takes_28 ?_
    refine x_iload_n (q := 2) rfl rfl dX6_takes_31 ?_
    refine x_aldT sh_4 dX6_takes_32 (fun hi2 => ?_)
    refine x_bind (fun r3 er3 => ?_)
    refine x_callVV (av := [.ref (g.1 1), .ref (g.1 ((6 + ix a1)))]) (st := []) (m_X2_run xTo_c1 (xTh xTo_c1 hi2)  im r3 er3) sh_61 (by decide) rfl rfl (by decide) (by decide) lk_X6_211 cd_X2_run xd_X2_run rfl (Nat.le_of_ble_eq_true rfl) dX6_takes_33 ?_
    refine x_aload_n (q := 1) rfl rfl dX6_takes_36 ?_
    refine x_get (C := RX6) (T := TX6) sh_0 (by decide) rfl in_X6 5 (by decide) fl_X6_32 xf_6_5 dX6_takes_37 ?_
    refine x_callVR (av := []) (st := []) (m_X2_goesStill   r3) sh_61 (by decide) rfl rfl (by decide) (by decide) lk_X6_215 cd_X2_goesStill xd_X2_goesStill rfl (Nat.le_of_ble_eq_true rfl) dX6_takes_40 ?_
    refine x_if_eq (tgt := 55) dX6_takes_43 (by decide) ?_ ?_
    · refine x_aload_n (q := 1) rfl rfl dX6_takes_55 ?_
      refine x_get (C := RX6) (T := TX6) sh_0 (by decide) rfl in_X6 5 (by decide) fl_X6_32 xf_6_5 dX6_takes_56 ?_
      refine x_get (C := RX2) (T := TX2) sh_61 (by decide) rfl in_X2 1 (by decide) fl_X6_221 xf_2_1 dX6_takes_59 ?_
      exact x_iret rfl rfl dX6_takes_62
    · refine x_aload_n (q := 1) rfl rfl dX6_takes_46 ?_
      refine x_ldc co_X6_207 dX6_takes_47 ?_
      refine x_bind (fun r4 er4 => ?_)
      refine x_callVI (av := [.int ((-1000004))]) (st := []) (m_X6_refuse  (((-1000004))) r3 r4 er4) sh_0 (by decide) rfl rfl (by decide) (by decide) lk_X6_72 cd_X6_refuse xd_X6_refuse rfl (Nat.le_of_ble_eq_true rfl) dX6_takes_49 ?_
      refine x_goto (tgt := 62) dX6_takes_52 (by decide) ?_
      exact x_iret rfl rfl dX6_takes_62
  · refine x_aload_n (q := 1) rfl rfl dX6_takes_10 ?_
    refine x_iload_n (q := 0) rfl rfl dX6_takes_11 ?_
    refine x_bind (fun r5 er5 => ?_)
    refine x_callVI (av := [.int r1]) (st := []) (m_X6_refuse  r1 im r5 er5) sh_0 (by decide) rfl rfl (by decide) (by decide) lk_X6_72 cd_X6_refuse xd_X6_refuse rfl (Nat.le_of_ble_eq_true rfl) dX6_takes_12 ?_
    exact x_iret rfl rfl dX6_takes_15
theorem m_X6_takes {g : GX}  (a1 : Int32) (im : IM) (r : Int32 × IM) (hr : f_X6_takes a1 im = some r) : xMet g 5 yX6_takes cX6_takes 3 (some .int) [.ref (g.1 0), .int a1] im (eI r) := x_met (by decide) (Nat.le_of_ble_eq_true rfl) rfl (s_X6_takes a1 im) r hr
abbrev md_X6_speed : xM := (5, 3, RX6, cX6_speed, (some .int))
def f_X6_speed (a1 : Int32) (im : IM) : Option (Int32 × IM) :=
  (f_X6_againstRoll a1 im).bind fun r1 =>
  if r1 = 0 then
    if inb a1 10 = true then
      (f_X2_run 1 (6 + ix a1) im).bind fun r3 =>
      some ((r3 61 2, r3))
    else none
  else
    (f_X6_refuse r1 im).bind fun r4 =>
    some ((r4.1, r4.2))
set_option maxRecDepth 20000 in
set_option maxHeartbeats 4000000 in
theorem s_X6_speed {g : GX}  (a1 : Int32) (im : IM) : X g md_X6_speed eI 0 [(0, .ref (g.1 0)), (1, .int a1)] [] im (f_X6_speed a1 im) := by
  refine x_aload_n (q := 0) rfl rfl dX6_speed_0 ?_
  refine x_iload_n (q := 1) rfl rfl dX6_speed_1 ?_
  refine x_bind (fun r1 er1 => ?_)
  refine x_callVR (av := [.int a1]) (st := []) (m_X6_againstRoll  a1 im r1 er1) sh_0 (by decide) rfl rfl (by decide) (by decide) lk_X6_208 cd_X6_againstRoll xd_X6_againstRoll rfl (Nat.le_of_ble_eq_true rfl) dX6_speed_2 ?_
  refine x_istore_n (lv' := [(2, .int r1), (0, .ref (g.1 0)), (1, .int a1)]) rfl dX6_speed_5 (by decide) rfl ?_
  refine x_iload_n (q := 0) rfl rfl dX6_speed_6 ?_
  refine x_if_eq (tgt := 16) dX6_speed_7 (by decide) ?_ ?_
  · refine x_aload_n (q := 1) rfl rfl dX6_speed_16 ?_
    refine x_get (C := RX6) (T := TX6) sh_0 (by decide) rfl in_X6 5 (by decide) fl_X6_32 xf_6_5 dX6_speed_17 ?_
    refine x_aload_n (q := 1) rfl rfl dX6_speed_20 ?_
    refine x_get (C := RX6) (T := TX6) sh_0 (by decide) rfl in_X6 0 (by decide) fl_X6_12 xf_6_0 dX6_speed_21 ?_
    refine x_aload_n (q := 1) rfl rfl dX6_speed_24 ?_
    refine x_get (C := RX6) (T := TX6) sh_0 (by decide) rfl in_X6 0 (by decide) fl_X6_12 xf_6_0 dX6_speed_25 ?_
    refine x_get (C := RX5) (T := TX5) sh_1 (by decide) rfl in_X5 2 (by decide) fl_X6_120 xf_5_2 dX6_speed_28 ?_
    refine x_iload_n (q := 2) rfl rfl dX6_speed_31 ?_
    refine x_aldT sh_4 dX6_speed_32 (fun hi2 => ?_)
    refine x_bind (fun r3 er3 => ?_)
    refine x_callVV (av := [.ref (g.1 1), .ref (g.1 ((6 + ix a1)))]) (st := []) (m_X2_run xTo_c1 (xTh xTo_c1 hi2)  im r3 er3) sh_61 (by decide) rfl rfl (by decide) (by decide) lk_X6_211 cd_X2_run xd_X2_run rfl (Nat.le_of_ble_eq_true rfl) dX6_speed_33 ?_
    refine x_aload_n (q := 1) rfl rfl dX6_speed_36 ?_
    refine x_get (C := RX6) (T := TX6) sh_0 (by decide) rfl in_X6 5 (by decide) fl_X6_32 xf_6_5 dX6_speed_37 ?_
    refine x_get (C := RX2) (T := TX2) sh_61 (by decide) rfl in_X2 2 (by decide) fl_X6_224 xf_2_2 dX6_speed_40 ?_
    exact x_iret rfl rfl dX6_speed_43
  · refine x_aload_n (q := 1) rfl rfl dX6_speed_10 ?_
    refine x_iload_n (q := 0) rfl rfl dX6_speed_11 ?_
    refine x_bind (fun r4 er4 => ?_)
    refine x_callVI (av := [.int r1]) (st := []) (m_X6_refuse  r1 im r4 er4) sh_0 (by decide) rfl rfl (by decide) (by decide) lk_X6_72 cd_X6_refuse xd_X6_refuse rfl (Nat.le_of_ble_eq_true rfl) dX6_speed_12 ?_
    exact x_iret rfl rfl dX6_speed_15
theorem m_X6_speed {g : GX}  (a1 : Int32) (im : IM) (r : Int32 × IM) (hr : f_X6_speed a1 im = some r) : xMet g 5 yX6_speed cX6_speed 3 (some .int) [.ref (g.1 0), .int a1] im (eI r) := x_met (by decide) (Nat.le_of_ble_eq_true rfl) rfl (s_X6_speed a1 im) r hr
abbrev md_X6_seen : xM := (5, 3, RX6, cX6_seen, (some .int))
def f_X6_seen (a1 : Int32) (im : IM) : Option (Int32 × IM) :=
  (f_X6_againstRoll a1 im).bind fun r1 =>
  if r1 = 0 then
    if inb a1 10 = true then
      (f_X2_run 1 (6 + ix a1) im).bind fun r3 =>
      some ((r3 61 3, r3))
    else none
  else
    (f_X6_refuse r1 im).bind fun r4 =>
    some ((r4.1, r4.2))
set_option maxRecDepth 20000 in
set_option maxHeartbeats 4000000 in
theorem s_X6_seen {g : GX}  (a1 : Int32) (im : IM) : X g md_X6_seen eI 0 [(0, .ref (g.1 0)), (1, .int a1)] [] im (f_X6_seen a1 im) := by
  refine x_aload_n (q := 0) rfl rfl dX6_seen_0 ?_
  refine x_iload_n (q := 1) rfl rfl dX6_seen_1 ?_
  refine x_bind (fun r1 er1 => ?_)
  refine x_callVR (av := [.int a1]) (st := []) (m_X6_againstRoll  a1 im r1 er1) sh_0 (by decide) rfl rfl (by decide) (by decide) lk_X6_208 cd_X6_againstRoll xd_X6_againstRoll rfl (Nat.le_of_ble_eq_true rfl) dX6_seen_2 ?_
  refine x_istore_n (lv' := [(2, .int r1), (0, .ref (g.1 0)), (1, .int a1)]) rfl dX6_seen_5 (by decide) rfl ?_
  refine x_iload_n (q := 0) rfl rfl dX6_seen_6 ?_
  refine x_if_eq (tgt := 16) dX6_seen_7 (by decide) ?_ ?_
  · refine x_aload_n (q := 1) rfl rfl dX6_seen_16 ?_
    refine x_get (C := RX6) (T := TX6) sh_0 (by decide) rfl in_X6 5 (by decide) fl_X6_32 xf_6_5 dX6_seen_17 ?_
    refine x_aload_n (q := 1) rfl rfl dX6_seen_20 ?_
    refine x_get (C := RX6) (T := TX6) sh_0 (by decide) rfl in_X6 0 (by decide) fl_X6_12 xf_6_0 dX6_seen_21 ?_
    refine x_aload_n (q := 1) rfl rfl dX6_seen_24 ?_
    refine x_get (C := RX6) (T := TX6) sh_0 (by decide) rfl in_X6 0 (by decide) fl_X6_12 xf_6_0 dX6_seen_25 ?_
    refine x_get (C := RX5) (T := TX5) sh_1 (by decide) rfl in_X5 2 (by decide) fl_X6_120 xf_5_2 dX6_seen_28 ?_
    refine x_iload_n (q := 2) rfl rfl dX6_seen_31 ?_
    refine x_aldT sh_4 dX6_seen_32 (fun hi2 => ?_)
    refine x_bind (fun r3 er3 => ?_)
    refine x_callVV (av := [.ref (g.1 1), .ref (g.1 ((6 + ix a1)))]) (st := []) (m_X2_run xTo_c1 (xTh xTo_c1 hi2)  im r3 er3) sh_61 (by decide) rfl rfl (by decide) (by decide) lk_X6_211 cd_X2_run xd_X2_run rfl (Nat.le_of_ble_eq_true rfl) dX6_seen_33 ?_
    refine x_aload_n (q := 1) rfl rfl dX6_seen_36 ?_
    refine x_get (C := RX6) (T := TX6) sh_0 (by decide) rfl in_X6 5 (by decide) fl_X6_32 xf_6_5 dX6_seen_37 ?_
    refine x_get (C := RX2) (T := TX2) sh_61 (by decide) rfl in_X2 3 (by decide) fl_X6_227 xf_2_3 dX6_seen_40 ?_
    exact x_iret rfl rfl dX6_seen_43
  · refine x_aload_n (q := 1) rfl rfl dX6_seen_10 ?_
    refine x_iload_n (q := 0) rfl rfl dX6_seen_11 ?_
    refine x_bind (fun r4 er4 => ?_)
    refine x_callVI (av := [.int r1]) (st := []) (m_X6_refuse  r1 im r4 er4) sh_0 (by decide) rfl rfl (by decide) (by decide) lk_X6_72 cd_X6_refuse xd_X6_refuse rfl (Nat.le_of_ble_eq_true rfl) dX6_seen_12 ?_
    exact x_iret rfl rfl dX6_seen_15
theorem m_X6_seen {g : GX}  (a1 : Int32) (im : IM) (r : Int32 × IM) (hr : f_X6_seen a1 im = some r) : xMet g 5 yX6_seen cX6_seen 3 (some .int) [.ref (g.1 0), .int a1] im (eI r) := x_met (by decide) (Nat.le_of_ble_eq_true rfl) rfl (s_X6_seen a1 im) r hr
abbrev md_X6_rollWithGround : xM := (5, 5, RX6, cX6_rollWithGround, none)
def f_X6_rollWithGround (a1 : Int32) (a2 : Int32) (a3 : Int32) (im : IM) : Option (IM) :=
  if inb a2 31 = true then
    bnd (im 3 (ix a2)) fun v1 =>
    if inb a2 31 = true then
      bnd (up im 3 (ix a2) a3) fun m2 =>
      if inb a1 10 = true then
        (f_X2_run 1 (6 + ix a1) m2).bind fun r4 =>
        if inb a2 31 = true then
          bnd (up r4 3 (ix a2) v1) fun m5 =>
          some m5
        else none
      else none
    else none
  else none
set_option maxRecDepth 20000 in
set_option maxHeartbeats 4000000 in
theorem s_X6_rollWithGround {g : GX}    (a1 : Int32) (a2 : Int32) (a3 : Int32) (im : IM) : X g md_X6_rollWithGround eV 0 [(0, .ref (g.1 0)), (1, .int a1), (2, .int a2), (3, .int a3)] [] im (f_X6_rollWithGround a1 a2 a3 im) := by
  refine x_aload_n (q := 0) rfl rfl dX6_rollWithGround_0 ?_
  refine x_get (C := RX6) (T := TX6) sh_0 (by decide) rfl in_X6 0 (by decide) fl_X6_12 xf_6_0 dX6_rollWithGround_1 ?_
  refine x_get (C := RX5) (T := TX5) sh_1 (by decide) rfl in_X5 1 (by decide) fl_X6_83 xf_5_1 dX6_rollWithGround_4 ?_
  refine x_iload_n (q := 2) rfl rfl dX6_rollWithGround_7 ?_
  refine x_iald sh_3 dX6_rollWithGround_8 ?_
  refine x_bi (fun v1 => ?_)
  refine x_istore (lv' := [(4, .int v1), (0, .ref (g.1 0)), (1, .int a1), (2, .int a2), (3, .int a3)]) dX6_rollWithGround_9 (by decide) rfl ?_
  refine x_aload_n (q := 1) rfl rfl dX6_rollWithGround_11 ?_
  refine x_get (C := RX6) (T := TX6) sh_0 (by decide) rfl in_X6 0 (by decide) fl_X6_12 xf_6_0 dX6_rollWithGround_12 ?_
  refine x_get (C := RX5) (T := TX5) sh_1 (by decide) rfl in_X5 1 (by decide) fl_X6_83 xf_5_1 dX6_rollWithGround_15 ?_
  refine x_iload_n (q := 3) rfl rfl dX6_rollWithGround_18 ?_
  refine x_iload_n (q := 4) rfl rfl dX6_rollWithGround_19 ?_
  refine x_iast sh_3 dX6_rollWithGround_20 ?_
  refine x_bm (fun m2 => ?_)
  refine x_aload_n (q := 1) rfl rfl dX6_rollWithGround_21 ?_
  refine x_get (C := RX6) (T := TX6) sh_0 (by decide) rfl in_X6 5 (by decide) fl_X6_32 xf_6_5 dX6_rollWithGround_22 ?_
  refine x_aload_n (q := 1) rfl rfl dX6_rollWithGround_25 ?_
  refine x_get (C := RX6) (T := TX6) sh_0 (by decide) rfl in_X6 0 (by decide) fl_X6_12 xf_6_0 dX6_rollWithGround_26 ?_
  refine x_aload_n (q := 1) rfl rfl dX6_rollWithGround_29 ?_
  refine x_get (C := RX6) (T := TX6) sh_0 (by decide) rfl in_X6 0 (by decide) fl_X6_12 xf_6_0 dX6_rollWithGround_30 ?_
  refine x_get (C := RX5) (T := TX5) sh_1 (by decide) rfl in_X5 2 (by decide) fl_X6_120 xf_5_2 dX6_rollWithGround_33 ?_
  refine x_iload_n (q := 2) rfl rfl dX6_rollWithGround_36 ?_
  refine x_aldT sh_4 dX6_rollWithGround_37 (fun hi3 => ?_)
  refine x_bind (fun r4 er4 => ?_)
  refine x_callVV (av := [.ref (g.1 1), .ref (g.1 ((6 + ix a1)))]) (st := []) (m_X2_run xTo_c1 (xTh xTo_c1 hi3)  m2 r4 er4) sh_61 (by decide) rfl rfl (by decide) (by decide) lk_X6_211 cd_X2_run xd_X2_run rfl (Nat.le_of_ble_eq_true rfl) dX6_rollWithGround_38 ?_
  refine x_aload_n (q := 1) rfl rfl dX6_rollWithGround_41 ?_
  refine x_get (C := RX6) (T := TX6) sh_0 (by decide) rfl in_X6 0 (by decide) fl_X6_12 xf_6_0 dX6_rollWithGround_42 ?_
  refine x_get (C := RX5) (T := TX5) sh_1 (by decide) rfl in_X5 1 (by decide) fl_X6_83 xf_5_1 dX6_rollWithGround_45 ?_
  refine x_iload_n (q := 3) rfl rfl dX6_rollWithGround_48 ?_
  refine x_iload (q := 0) rfl dX6_rollWithGround_49 ?_
  refine x_iast sh_3 dX6_rollWithGround_51 ?_
  refine x_bm (fun m5 => ?_)
  exact x_vret rfl rfl dX6_rollWithGround_52
theorem m_X6_rollWithGround {g : GX}    (a1 : Int32) (a2 : Int32) (a3 : Int32) (im : IM) (r : IM) (hr : f_X6_rollWithGround a1 a2 a3 im = some r) : xMet g 5 yX6_rollWithGround cX6_rollWithGround 5 none [.ref (g.1 0), .int a1, .int a2, .int a3] im (eV r) := x_met (by decide) (Nat.le_of_ble_eq_true rfl) rfl (s_X6_rollWithGround a1 a2 a3 im) r hr
abbrev md_X6_sand : xM := (6, 5, RX6, cX6_sand, (some .int))
def f_X6_sand_l1b (a1 : Int32) (a2 : Int32)   (k33 : Int32 → IM → Option (Int32 × IM)) (x4 : Int32) (im : IM) : Option (Int32 × IM) :=
  if 31 ≤ x4 then
    (f_X6_refuse ((-1000004)) im).bind fun r2 =>
    some ((r2.1, r2.2))
  else
    (f_X6_rollWithGround a1 x4 1 im).bind fun r3 =>
    if (f_X2_endsOn a2 r3) = 0 then
      bnd (x4 + 1) fun v4 =>
      k33 v4 r3
    else
      some ((x4, r3))
def f_X6_sand_l1 (a1 : Int32) (a2 : Int32)   : Nat → Int32 → IM → Option (Int32 × IM)
  | 0, _, _ => none
  | n + 1, x4, im => f_X6_sand_l1b a1 a2 (f_X6_sand_l1 a1 a2 n) x4 im
set_option maxRecDepth 20000 in
set_option maxHeartbeats 4000000 in
theorem s_X6_sand_l1b {g : GX} (a1 : Int32) (a2 : Int32)    (k33 : Int32 → IM → Option (Int32 × IM)) (hk33 : ∀ (x4 : Int32) (im : IM), X g md_X6_sand eI 33 [(0, .ref (g.1 0)), (1, .int a1), (2, .int a2), (4, .int x4)] [] im (k33 x4 im)) (x4 : Int32)  (im : IM) : X g md_X6_sand eI 33 [(0, .ref (g.1 0)), (1, .int a1), (2, .int a2), (4, .int x4)] [] im (f_X6_sand_l1b a1 a2 k33 x4 im) := by
  refine x_iload (q := 3) rfl dX6_sand_33 ?_
  refine x_bipush (v := (31)) (by decide) dX6_sand_35 ?_
  refine x_icmp_ge (tgt := 68) dX6_sand_37 (by decide) ?_ ?_
  · refine x_aload_n (q := 0) rfl rfl dX6_sand_68 ?_
    refine x_ldc co_X6_207 dX6_sand_69 ?_
    refine x_bind (fun r2 er2 => ?_)
    refine x_callVI (av := [.int ((-1000004))]) (st := []) (m_X6_refuse  (((-1000004))) im r2 er2) sh_0 (by decide) rfl rfl (by decide) (by decide) lk_X6_72 cd_X6_refuse xd_X6_refuse rfl (Nat.le_of_ble_eq_true rfl) dX6_sand_71 ?_
    exact x_iret rfl rfl dX6_sand_74
  · refine x_aload_n (q := 0) rfl rfl dX6_sand_40 ?_
    refine x_iload_n (q := 1) rfl rfl dX6_sand_41 ?_
    refine x_iload (q := 3) rfl dX6_sand_42 ?_
    refine x_iconst (v := (1)) (by decide) dX6_sand_44 ?_
    refine x_bind (fun r3 er3 => ?_)
    refine x_callVV (av := [.int a1, .int x4, .int 1]) (st := []) (m_X6_rollWithGround  a1 x4 1 im r3 er3) sh_0 (by decide) rfl rfl (by decide) (by decide) lk_X6_230 cd_X6_rollWithGround xd_X6_rollWithGround rfl (Nat.le_of_ble_eq_true rfl) dX6_sand_45 ?_
    refine x_aload_n (q := 0) rfl rfl dX6_sand_48 ?_
    refine x_get (C := RX6) (T := TX6) sh_0 (by decide) rfl in_X6 5 (by decide) fl_X6_32 xf_6_5 dX6_sand_49 ?_
    refine x_iload_n (q := 2) rfl rfl dX6_sand_52 ?_
    refine x_callVR (av := [.int a2]) (st := []) (m_X2_endsOn  a2 r3) sh_61 (by decide) rfl rfl (by decide) (by decide) lk_X6_234 cd_X2_endsOn xd_X2_endsOn rfl (Nat.le_of_ble_eq_true rfl) dX6_sand_53 ?_
    refine x_if_eq (tgt := 62) dX6_sand_56 (by decide) ?_ ?_
    · refine x_iinc (q := 3) (a := 1) (lv' := fun v4 => [(4, .int v4), (0, .ref (g.1 0)), (1, .int a1), (2, .int a2)]) dX6_sand_62 rfl (by decide) (by decide) (fun _ => rfl) (fun v4 => ?_)
      refine x_goto (tgt := 33) dX6_sand_65 (by decide) ?_
      refine x_sub [1, 2, 3, 0] rfl ?_
      exact hk33 v4 r3
    · refine x_iload (q := 3) rfl dX6_sand_59 ?_
      exact x_iret rfl rfl dX6_sand_61
set_option maxRecDepth 20000 in
set_option maxHeartbeats 4000000 in
theorem s_X6_sand_l1 {g : GX} (a1 : Int32) (a2 : Int32)    (n : Nat) : ∀ (x4 : Int32) (im : IM), X g md_X6_sand eI 33 [(0, .ref (g.1 0)), (1, .int a1), (2, .int a2), (4, .int x4)] [] im (f_X6_sand_l1 a1 a2 n x4 im) := by
  induction n with
  | zero => intro x4 im; exact x_none
  | succ n ih => intro x4 im; exact s_X6_sand_l1b a1 a2 (f_X6_sand_l1 a1 a2 n) ih x4 im
def f_X6_sand (a1 : Int32) (a2 : Int32) (im : IM) : Option (Int32 × IM) :=
  if (f_X6_isCell a2) = 0 then
    (f_X6_refuse ((-1000001)) im).bind fun r6 =>
    some ((r6.1, r6.2))
  else
    (f_X6_againstRoll a1 im).bind fun r1 =>
    if r1 = 0 then
      f_X6_sand_l1 a1 a2 xF 0 im
    else
      (f_X6_refuse r1 im).bind fun r5 =>
      some ((r5.1, r5.2))
set_option maxRecDepth 20000 in
set_option maxHeartbeats 4000000 in
theorem s_X6_sand {g : GX}   (a1 : Int32) (a2 : Int32) (im : IM) : X g md_X6_sand eI 0 [(0, .ref (g.1 0)), (1, .int a1), (2, .int a2)] [] im (f_X6_sand a1 a2 im) := by
  refine x_iload_n (q := 2) rfl rfl dX6_sand_0 ?_
  refine x_callSR (av := [.int a2]) (st := []) (m_X6_isCell  a2 im) rfl (by decide) (by decide) lk_X6_64 cd_X6_isCell xd_X6_isCell rfl (Nat.le_of_ble_eq_true rfl) dX6_sand_1 ?_
  refine x_if_ne (tgt := 14) dX6_sand_4 (by decide) ?_ ?_
  · refine x_aload_n (q := 0) rfl rfl dX6_sand_14 ?_
    refine x_iload_n (q := 1) rfl rfl dX6_sand_15 ?_
    refine x_bind (fun r1 er1 => ?_)
    refine x_callVR (av := [.int a1]) (st := []) (m_X6_againstRoll  a1 im r1 er1) sh_0 (by decide) rfl rfl (by decide) (by decide) lk_X6_208 cd_X6_againstRoll xd_X6_againstRoll rfl (Nat.le_of_ble_eq_true rfl) dX6_sand_16 ?_
    refine x_istore_n (lv' := [(3, .int r1), (0, .ref (g.1 0)), (1, .int a1), (2, .int a2)]) rfl dX6_sand_19 (by decide) rfl ?_
    refine x_iload_n (q := 0) rfl rfl dX6_sand_20 ?_
    refine x_if_eq (tgt := 30) dX6_sand_21 (by decide) ?_ ?_
    · refine x_iconst (v := (0)) (by decide) dX6_sand_30 ?_
      refine x_istore (lv' := [(4, .int 0), (3, .int r1), (0, .ref (g.1 0)), (1, .int a1), (2, .int a2)]) dX6_sand_31 (by decide) rfl ?_
      refine x_sub [2, 3, 4, 0] rfl ?_
      exact s_X6_sand_l1 a1 a2 xF 0 im
    · refine x_aload_n (q := 1) rfl rfl dX6_sand_24 ?_
      refine x_iload_n (q := 0) rfl rfl dX6_sand_25 ?_
      refine x_bind (fun r5 er5 => ?_)
      refine x_callVI (av := [.int r1]) (st := []) (m_X6_refuse  r1 im r5 er5) sh_0 (by decide) rfl rfl (by decide) (by decide) lk_X6_72 cd_X6_refuse xd_X6_refuse rfl (Nat.le_of_ble_eq_true rfl) dX6_sand_26 ?_
      exact x_iret rfl rfl dX6_sand_29
  · refine x_aload_n (q := 0) rfl rfl dX6_sand_7 ?_
    refine x_ldc co_X6_71 dX6_sand_8 ?_
    refine x_bind (fun r6 er6 => ?_)
    refine x_callVI (av := [.int ((-1000001))]) (st := []) (m_X6_refuse  (((-1000001))) im r6 er6) sh_0 (by decide) rfl rfl (by decide) (by decide) lk_X6_72 cd_X6_refuse xd_X6_refuse rfl (Nat.le_of_ble_eq_true rfl) dX6_sand_10 ?_
    exact x_iret rfl rfl dX6_sand_13
theorem m_X6_sand {g : GX}   (a1 : Int32) (a2 : Int32) (im : IM) (r : Int32 × IM) (hr : f_X6_sand a1 a2 im = some r) : xMet g 6 yX6_sand cX6_sand 5 (some .int) [.ref (g.1 0), .int a1, .int a2] im (eI r) := x_met (by decide) (Nat.le_of_ble_eq_true rfl) rfl (s_X6_sand a1 a2 im) r hr
abbrev md_X6_rollsFor : xM := (5, 4, RX6, cX6_rollsFor, (some .int))
def f_X6_rollsFor_l1b (a1 : Int32)   (k29 : Int32 → IM → Option (Int32 × IM)) (x3 : Int32) (im : IM) : Option (Int32 × IM) :=
  if 9 < x3 then
    (f_X6_refuse ((-1000004)) im).bind fun r3 =>
    some ((r3.1, r3.2))
  else
    if inb a1 10 = true then
      bnd (up im (36 + ix a1) 2 x3) fun m5 =>
      if inb a1 10 = true then
        (f_X2_run 31 (36 + ix a1) m5).bind fun r7 =>
        if (f_X2_endsOn 30 r7) = 0 then
          bnd (x3 + 1) fun v8 =>
          k29 v8 r7
        else
          some ((x3, r7))
      else none
    else none
def f_X6_rollsFor_l1 (a1 : Int32)   : Nat → Int32 → IM → Option (Int32 × IM)
  | 0, _, _ => none
  | n + 1, x3, im => f_X6_rollsFor_l1b a1 (f_X6_rollsFor_l1 a1 n) x3 im
set_option maxRecDepth 20000 in
set_option maxHeartbeats 4000000 in
theorem s_X6_rollsFor_l1b {g : GX} (a1 : Int32)    (k29 : Int32 → IM → Option (Int32 × IM)) (hk29 : ∀ (x3 : Int32) (im : IM), X g md_X6_rollsFor eI 29 [(0, .ref (g.1 0)), (1, .int a1), (3, .int x3)] [] im (k29 x3 im)) (x3 : Int32)  (im : IM) : X g md_X6_rollsFor eI 29 [(0, .ref (g.1 0)), (1, .int a1), (3, .int x3)] [] im (f_X6_rollsFor_l1b a1 k29 x3 im) := by
  refine x_iload_n (q := 2) rfl rfl dX6_rollsFor_29 ?_
  refine x_bipush (v := (9)) (by decide) dX6_rollsFor_30 ?_
  refine x_icmp_gt (tgt := 88) dX6_rollsFor_32 (by decide) ?_ ?_
  · refine x_aload_n (q := 0) rfl rfl dX6_rollsFor_88 ?_
    refine x_ldc co_X6_207 dX6_rollsFor_89 ?_
    refine x_bind (fun r3 er3 => ?_)
    refine x_callVI (av := [.int ((-1000004))]) (st := []) (m_X6_refuse  (((-1000004))) im r3 er3) sh_0 (by decide) rfl rfl (by decide) (by decide) lk_X6_72 cd_X6_refuse xd_X6_refuse rfl (Nat.le_of_ble_eq_true rfl) dX6_rollsFor_91 ?_
    exact x_iret rfl rfl dX6_rollsFor_94
  · refine x_aload_n (q := 0) rfl rfl dX6_rollsFor_35 ?_
    refine x_get (C := RX6) (T := TX6) sh_0 (by decide) rfl in_X6 3 (by decide) fl_X6_23 xf_6_3 dX6_rollsFor_36 ?_
    refine x_get (C := RX5) (T := TX5) sh_31 (by decide) rfl in_X5 2 (by decide) fl_X6_120 xf_5_2 dX6_rollsFor_39 ?_
    refine x_iload_n (q := 1) rfl rfl dX6_rollsFor_42 ?_
    refine x_aldT sh_34 dX6_rollsFor_43 (fun hi4 => ?_)
    refine x_iload_n (q := 2) rfl rfl dX6_rollsFor_44 ?_
    refine x_put (C := RX4) (T := TX4) (ty := .int) tyX4 tyX4_ok nmX4 (xTh xTo_c31 hi4) (by decide) rfl in_X4 2 (by decide) (by decide) fl_X6_132 rfl (by decide +kernel) rfl rfl dX6_rollsFor_45 ?_
    refine x_bm (fun m5 => ?_)
    refine x_aload_n (q := 0) rfl rfl dX6_rollsFor_48 ?_
    refine x_get (C := RX6) (T := TX6) sh_0 (by decide) rfl in_X6 5 (by decide) fl_X6_32 xf_6_5 dX6_rollsFor_49 ?_
    refine x_aload_n (q := 0) rfl rfl dX6_rollsFor_52 ?_
    refine x_get (C := RX6) (T := TX6) sh_0 (by decide) rfl in_X6 3 (by decide) fl_X6_23 xf_6_3 dX6_rollsFor_53 ?_
    refine x_aload_n (q := 0) rfl rfl dX6_rollsFor_56 ?_
    refine x_get (C := RX6) (T := TX6) sh_0 (by decide) rfl in_X6 3 (by decide) fl_X6_23 xf_6_3 dX6_rollsFor_57 ?_
    refine x_get (C := RX5) (T := TX5) sh_31 (by decide) rfl in_X5 2 (by decide) fl_X6_120 xf_5_2 dX6_rollsFor_60 ?_
    refine x_iload_n (q := 1) rfl rfl dX6_rollsFor_63 ?_
    refine x_aldT sh_34 dX6_rollsFor_64 (fun hi6 => ?_)
    refine x_bind (fun r7 er7 => ?_)
    refine x_callVV (av := [.ref (g.1 31), .ref (g.1 ((36 + ix a1)))]) (st := []) (m_X2_run xTo_c31 (xTh xTo_c31 hi6)  m5 r7 er7) sh_61 (by decide) rfl rfl (by decide) (by decide) lk_X6_211 cd_X2_run xd_X2_run rfl (Nat.le_of_ble_eq_true rfl) dX6_rollsFor_65 ?_
    refine x_aload_n (q := 0) rfl rfl dX6_rollsFor_68 ?_
    refine x_get (C := RX6) (T := TX6) sh_0 (by decide) rfl in_X6 5 (by decide) fl_X6_32 xf_6_5 dX6_rollsFor_69 ?_
    refine x_bipush (v := (30)) (by decide) dX6_rollsFor_72 ?_
    refine x_callVR (av := [.int 30]) (st := []) (m_X2_endsOn  30 r7) sh_61 (by decide) rfl rfl (by decide) (by decide) lk_X6_234 cd_X2_endsOn xd_X2_endsOn rfl (Nat.le_of_ble_eq_true rfl) dX6_rollsFor_74 ?_
    refine x_if_eq (tgt := 82) dX6_rollsFor_77 (by decide) ?_ ?_
    · refine x_iinc (q := 2) (a := 1) (lv' := fun v8 => [(3, .int v8), (0, .ref (g.1 0)), (1, .int a1)]) dX6_rollsFor_82 rfl (by decide) (by decide) (fun _ => rfl) (fun v8 => ?_)
      refine x_goto (tgt := 29) dX6_rollsFor_85 (by decide) ?_
      refine x_sub [1, 2, 0] rfl ?_
      exact hk29 v8 r7
    · refine x_iload_n (q := 2) rfl rfl dX6_rollsFor_80 ?_
      exact x_iret rfl rfl dX6_rollsFor_81
set_option maxRecDepth 20000 in
set_option maxHeartbeats 4000000 in
theorem s_X6_rollsFor_l1 {g : GX} (a1 : Int32)    (n : Nat) : ∀ (x3 : Int32) (im : IM), X g md_X6_rollsFor eI 29 [(0, .ref (g.1 0)), (1, .int a1), (3, .int x3)] [] im (f_X6_rollsFor_l1 a1 n x3 im) := by
  induction n with
  | zero => intro x3 im; exact x_none
  | succ n ih => intro x3 im; exact s_X6_rollsFor_l1b a1 (f_X6_rollsFor_l1 a1 n) ih x3 im
def f_X6_rollsFor (a1 : Int32) (im : IM) : Option (Int32 × IM) :=
  (f_X6_againstRoll a1 im).bind fun r1 =>
  if r1 = 0 then
    (f_X5_become 31 1 im).bind fun r2 =>
    f_X6_rollsFor_l1 a1 xF 1 r2
  else
    (f_X6_refuse r1 im).bind fun r9 =>
    some ((r9.1, r9.2))
set_option maxRecDepth 20000 in
set_option maxHeartbeats 4000000 in
theorem s_X6_rollsFor {g : GX}  (a1 : Int32) (im : IM) : X g md_X6_rollsFor eI 0 [(0, .ref (g.1 0)), (1, .int a1)] [] im (f_X6_rollsFor a1 im) := by
  refine x_aload_n (q := 0) rfl rfl dX6_rollsFor_0 ?_
  refine x_iload_n (q := 1) rfl rfl dX6_rollsFor_1 ?_
  refine x_bind (fun r1 er1 => ?_)
  refine x_callVR (av := [.int a1]) (st := []) (m_X6_againstRoll  a1 im r1 er1) sh_0 (by decide) rfl rfl (by decide) (by decide) lk_X6_208 cd_X6_againstRoll xd_X6_againstRoll rfl (Nat.le_of_ble_eq_true rfl) dX6_rollsFor_2 ?_
  refine x_istore_n (lv' := [(2, .int r1), (0, .ref (g.1 0)), (1, .int a1)]) rfl dX6_rollsFor_5 (by decide) rfl ?_
  refine x_iload_n (q := 0) rfl rfl dX6_rollsFor_6 ?_
  refine x_if_eq (tgt := 16) dX6_rollsFor_7 (by decide) ?_ ?_
  · refine x_aload_n (q := 1) rfl rfl dX6_rollsFor_16 ?_
    refine x_get (C := RX6) (T := TX6) sh_0 (by decide) rfl in_X6 3 (by decide) fl_X6_23 xf_6_3 dX6_rollsFor_17 ?_
    refine x_aload_n (q := 1) rfl rfl dX6_rollsFor_20 ?_
    refine x_get (C := RX6) (T := TX6) sh_0 (by decide) rfl in_X6 0 (by decide) fl_X6_12 xf_6_0 dX6_rollsFor_21 ?_
    refine x_bind (fun r2 er2 => ?_)
    refine x_callVV (av := [.ref (g.1 1)]) (st := []) (m_X5_become xTo_c31 xTo_c1  im r2 er2) sh_31 (by decide) rfl rfl (by decide) (by decide) lk_X6_194 cd_X5_become xd_X5_become rfl (Nat.le_of_ble_eq_true rfl) dX6_rollsFor_24 ?_
    refine x_iconst (v := (1)) (by decide) dX6_rollsFor_27 ?_
    refine x_istore_n (lv' := [(3, .int 1), (2, .int r1), (0, .ref (g.1 0)), (1, .int a1)]) rfl dX6_rollsFor_28 (by decide) rfl ?_
    refine x_sub [2, 3, 0] rfl ?_
    exact s_X6_rollsFor_l1 a1 xF 1 r2
  · refine x_aload_n (q := 1) rfl rfl dX6_rollsFor_10 ?_
    refine x_iload_n (q := 0) rfl rfl dX6_rollsFor_11 ?_
    refine x_bind (fun r9 er9 => ?_)
    refine x_callVI (av := [.int r1]) (st := []) (m_X6_refuse  r1 im r9 er9) sh_0 (by decide) rfl rfl (by decide) (by decide) lk_X6_72 cd_X6_refuse xd_X6_refuse rfl (Nat.le_of_ble_eq_true rfl) dX6_rollsFor_12 ?_
    exact x_iret rfl rfl dX6_rollsFor_15
theorem m_X6_rollsFor {g : GX}  (a1 : Int32) (im : IM) (r : Int32 × IM) (hr : f_X6_rollsFor a1 im = some r) : xMet g 5 yX6_rollsFor cX6_rollsFor 4 (some .int) [.ref (g.1 0), .int a1] im (eI r) := x_met (by decide) (Nat.le_of_ble_eq_true rfl) rfl (s_X6_rollsFor a1 im) r hr
abbrev md_X6_matters : xM := (6, 6, RX6, cX6_matters, (some .int))
def f_X6_matters_j2 (a1 : Int32) (k50 : Int32 → Int32 → Int32 → IM → Option (Int32 × IM)) (x3 : Int32) (x4 : Int32) (x5 : Int32) (im : IM) : Option (Int32 × IM) :=
  bnd (x5 + 1) fun v6 =>
  k50 x3 x4 v6 im
set_option maxRecDepth 20000 in
set_option maxHeartbeats 4000000 in
theorem s_X6_matters_j2 {g : GX} (a1 : Int32)  (k50 : Int32 → Int32 → Int32 → IM → Option (Int32 × IM)) (hk50 : ∀ (x3 : Int32) (x4 : Int32) (x5 : Int32) (im : IM), X g md_X6_matters eI 50 [(0, .ref (g.1 0)), (1, .int a1), (3, .int x3), (4, .int x4), (5, .int x5)] [] im (k50 x3 x4 x5 im)) (x3 : Int32) (x4 : Int32) (x5 : Int32)  (im : IM) : X g md_X6_matters eI 85 [(0, .ref (g.1 0)), (1, .int a1), (3, .int x3), (4, .int x4), (5, .int x5)] [] im (f_X6_matters_j2 a1 k50 x3 x4 x5 im) := by
  refine x_iinc (q := 4) (a := 1) (lv' := fun v6 => [(5, .int v6), (0, .ref (g.1 0)), (1, .int a1), (3, .int x3), (4, .int x4)]) dX6_matters_85 rfl (by decide) (by decide) (fun _ => rfl) (fun v6 => ?_)
  refine x_goto (tgt := 50) dX6_matters_88 (by decide) ?_
  refine x_sub [1, 2, 3, 4, 0] rfl ?_
  exact hk50 x3 x4 v6 im
def f_X6_matters_l1b (a1 : Int32)   (k50 : Int32 → Int32 → Int32 → IM → Option (Int32 × IM)) (x3 : Int32) (x4 : Int32) (x5 : Int32) (im : IM) : Option (Int32 × IM) :=
  if 31 ≤ x5 then
    some ((x4, im))
  else
    (f_X6_rollWithGround a1 x5 0 im).bind fun r5 =>
    if (f_X2_place r5) = x3 then
      f_X6_matters_j2 a1 k50 x3 x4 x5 r5
    else
      bnd (x4 ||| (jshl 1 x5)) fun v7 =>
      f_X6_matters_j2 a1 k50 x3 v7 x5 r5
def f_X6_matters_l1 (a1 : Int32)   : Nat → Int32 → Int32 → Int32 → IM → Option (Int32 × IM)
  | 0, _, _, _, _ => none
  | n + 1, x3, x4, x5, im => f_X6_matters_l1b a1 (f_X6_matters_l1 a1 n) x3 x4 x5 im
set_option maxRecDepth 20000 in
set_option maxHeartbeats 4000000 in
theorem s_X6_matters_l1b {g : GX} (a1 : Int32)    (k50 : Int32 → Int32 → Int32 → IM → Option (Int32 × IM)) (hk50 : ∀ (x3 : Int32) (x4 : Int32) (x5 : Int32) (im : IM), X g md_X6_matters eI 50 [(0, .ref (g.1 0)), (1, .int a1), (3, .int x3), (4, .int x4), (5, .int x5)] [] im (k50 x3 x4 x5 im)) (x3 : Int32) (x4 : Int32) (x5 : Int32)  (im : IM) : X g md_X6_matters eI 50 [(0, .ref (g.1 0)), (1, .int a1), (3, .int x3), (4, .int x4), (5, .int x5)] [] im (f_X6_matters_l1b a1 k50 x3 x4 x5 im) := by
  refine x_iload (q := 4) rfl dX6_matters_50 ?_
  refine x_bipush (v := (31)) (by decide) dX6_matters_52 ?_
  refine x_icmp_ge (tgt := 91) dX6_matters_54 (by decide) ?_ ?_
  · refine x_iload (q := 3) rfl dX6_matters_91 ?_
    exact x_iret rfl rfl dX6_matters_93
  · refine x_aload_n (q := 0) rfl rfl dX6_matters_57 ?_
    refine x_iload_n (q := 1) rfl rfl dX6_matters_58 ?_
    refine x_iload (q := 4) rfl dX6_matters_59 ?_
    refine x_iconst (v := (0)) (by decide) dX6_matters_61 ?_
    refine x_bind (fun r5 er5 => ?_)
    refine x_callVV (av := [.int a1, .int x5, .int 0]) (st := []) (m_X6_rollWithGround  a1 x5 0 im r5 er5) sh_0 (by decide) rfl rfl (by decide) (by decide) lk_X6_230 cd_X6_rollWithGround xd_X6_rollWithGround rfl (Nat.le_of_ble_eq_true rfl) dX6_matters_62 ?_
    refine x_aload_n (q := 0) rfl rfl dX6_matters_65 ?_
    refine x_get (C := RX6) (T := TX6) sh_0 (by decide) rfl in_X6 5 (by decide) fl_X6_32 xf_6_5 dX6_matters_66 ?_
    refine x_callVR (av := []) (st := []) (m_X2_place   r5) sh_61 (by decide) rfl rfl (by decide) (by decide) lk_X6_218 cd_X2_place xd_X2_place rfl (Nat.le_of_ble_eq_true rfl) dX6_matters_69 ?_
    refine x_iload_n (q := 2) rfl rfl dX6_matters_72 ?_
    refine x_icmp_eq (tgt := 85) dX6_matters_73 (by decide) ?_ ?_
    · refine x_sub [0, 1, 2, 3, 4] rfl ?_
      exact s_X6_matters_j2 a1 k50 hk50 x3 x4 x5 r5
    · refine x_iload (q := 3) rfl dX6_matters_76 ?_
      refine x_iconst (v := (1)) (by decide) dX6_matters_78 ?_
      refine x_iload (q := 4) rfl dX6_matters_79 ?_
      refine x_ishl dX6_matters_81 ?_
      refine x_ior dX6_matters_82 ?_
      refine x_bi (fun v7 => ?_)
      refine x_istore (lv' := [(4, .int v7), (0, .ref (g.1 0)), (1, .int a1), (3, .int x3), (5, .int x5)]) dX6_matters_83 (by decide) rfl ?_
      refine x_sub [1, 2, 3, 0, 4] rfl ?_
      exact s_X6_matters_j2 a1 k50 hk50 x3 v7 x5 r5
set_option maxRecDepth 20000 in
set_option maxHeartbeats 4000000 in
theorem s_X6_matters_l1 {g : GX} (a1 : Int32)    (n : Nat) : ∀ (x3 : Int32) (x4 : Int32) (x5 : Int32) (im : IM), X g md_X6_matters eI 50 [(0, .ref (g.1 0)), (1, .int a1), (3, .int x3), (4, .int x4), (5, .int x5)] [] im (f_X6_matters_l1 a1 n x3 x4 x5 im) := by
  induction n with
  | zero => intro x3 x4 x5 im; exact x_none
  | succ n ih => intro x3 x4 x5 im; exact s_X6_matters_l1b a1 (f_X6_matters_l1 a1 n) ih x3 x4 x5 im
def f_X6_matters (a1 : Int32) (im : IM) : Option (Int32 × IM) :=
  (f_X6_againstRoll a1 im).bind fun r1 =>
  if r1 = 0 then
    if inb a1 10 = true then
      (f_X2_run 1 (6 + ix a1) im).bind fun r3 =>
      bnd (f_X2_place r3) fun v4 =>
      f_X6_matters_l1 a1 xF v4 0 0 r3
    else none
  else
    (f_X6_refuse r1 im).bind fun r8 =>
    some ((r8.1, r8.2))
set_option maxRecDepth 20000 in
set_option maxHeartbeats 4000000 in
theorem s_X6_matters {g : GX}  (a1 : Int32) (im : IM) : X g md_X6_matters eI 0 [(0, .ref (g.1 0)), (1, .int a1)] [] im (f_X6_matters a1 im) := by
  refine x_aload_n (q := 0) rfl rfl dX6_matters_0 ?_
  refine x_iload_n (q := 1) rfl rfl dX6_matters_1 ?_
  refine x_bind (fun r1 er1 => ?_)
  refine x_callVR (av := [.int a1]) (st := []) (m_X6_againstRoll  a1 im r1 er1) sh_0 (by decide) rfl rfl (by decide) (by decide) lk_X6_208 cd_X6_againstRoll xd_X6_againstRoll rfl (Nat.le_of_ble_eq_true rfl) dX6_matters_2 ?_
  refine x_istore_n (lv' := [(2, .int r1), (0, .ref (g.1 0)), (1, .int a1)]) rfl dX6_matters_5 (by decide) rfl ?_
  refine x_iload_n (q := 0) rfl rfl dX6_matters_6 ?_
  refine x_if_eq (tgt := 16) dX6_matters_7 (by decide) ?_ ?_
  · refine x_aload_n (q := 1) rfl rfl dX6_matters_16 ?_
    refine x_get (C := RX6) (T := TX6) sh_0 (by decide) rfl in_X6 5 (by decide) fl_X6_32 xf_6_5 dX6_matters_17 ?_
    refine x_aload_n (q := 1) rfl rfl dX6_matters_20 ?_
    refine x_get (C := RX6) (T := TX6) sh_0 (by decide) rfl in_X6 0 (by decide) fl_X6_12 xf_6_0 dX6_matters_21 ?_
    refine x_aload_n (q := 1) rfl rfl dX6_matters_24 ?_
    refine x_get (C := RX6) (T := TX6) sh_0 (by decide) rfl in_X6 0 (by decide) fl_X6_12 xf_6_0 dX6_matters_25 ?_
    refine x_get (C := RX5) (T := TX5) sh_1 (by decide) rfl in_X5 2 (by decide) fl_X6_120 xf_5_2 dX6_matters_28 ?_
    refine x_iload_n (q := 2) rfl rfl dX6_matters_31 ?_
    refine x_aldT sh_4 dX6_matters_32 (fun hi2 => ?_)
    refine x_bind (fun r3 er3 => ?_)
    refine x_callVV (av := [.ref (g.1 1), .ref (g.1 ((6 + ix a1)))]) (st := []) (m_X2_run xTo_c1 (xTh xTo_c1 hi2)  im r3 er3) sh_61 (by decide) rfl rfl (by decide) (by decide) lk_X6_211 cd_X2_run xd_X2_run rfl (Nat.le_of_ble_eq_true rfl) dX6_matters_33 ?_
    refine x_aload_n (q := 1) rfl rfl dX6_matters_36 ?_
    refine x_get (C := RX6) (T := TX6) sh_0 (by decide) rfl in_X6 5 (by decide) fl_X6_32 xf_6_5 dX6_matters_37 ?_
    refine x_callVR (av := []) (st := []) (m_X2_place   r3) sh_61 (by decide) rfl rfl (by decide) (by decide) lk_X6_218 cd_X2_place xd_X2_place rfl (Nat.le_of_ble_eq_true rfl) dX6_matters_40 ?_
    refine x_bi (fun v4 => ?_)
    refine x_istore_n (lv' := [(3, .int v4), (2, .int r1), (0, .ref (g.1 0)), (1, .int a1)]) rfl dX6_matters_43 (by decide) rfl ?_
    refine x_iconst (v := (0)) (by decide) dX6_matters_44 ?_
    refine x_istore (lv' := [(4, .int 0), (3, .int v4), (2, .int r1), (0, .ref (g.1 0)), (1, .int a1)]) dX6_matters_45 (by decide) rfl ?_
    refine x_iconst (v := (0)) (by decide) dX6_matters_47 ?_
    refine x_istore (lv' := [(5, .int 0), (4, .int 0), (3, .int v4), (2, .int r1), (0, .ref (g.1 0)), (1, .int a1)]) dX6_matters_48 (by decide) rfl ?_
    refine x_sub [4, 5, 2, 1, 0] rfl ?_
    exact s_X6_matters_l1 a1 xF v4 0 0 r3
  · refine x_aload_n (q := 1) rfl rfl dX6_matters_10 ?_
    refine x_iload_n (q := 0) rfl rfl dX6_matters_11 ?_
    refine x_bind (fun r8 er8 => ?_)
    refine x_callVI (av := [.int r1]) (st := []) (m_X6_refuse  r1 im r8 er8) sh_0 (by decide) rfl rfl (by decide) (by decide) lk_X6_72 cd_X6_refuse xd_X6_refuse rfl (Nat.le_of_ble_eq_true rfl) dX6_matters_12 ?_
    exact x_iret rfl rfl dX6_matters_15
theorem m_X6_matters {g : GX}  (a1 : Int32) (im : IM) (r : Int32 × IM) (hr : f_X6_matters a1 im = some r) : xMet g 6 yX6_matters cX6_matters 6 (some .int) [.ref (g.1 0), .int a1] im (eI r) := x_met (by decide) (Nat.le_of_ble_eq_true rfl) rfl (s_X6_matters a1 im) r hr
abbrev md_X6_kindFor : xM := (5, 6, RX6, cX6_kindFor, (some .int))
def f_X6_kindFor_j2 (a1 : Int32) (k36 : Int32 → Int32 → Int32 → IM → Option (Int32 × IM)) (x3 : Int32) (x4 : Int32) (x5 : Int32) (im : IM) : Option (Int32 × IM) :=
  bnd (x5 + 1) fun v7 =>
  k36 x3 x4 v7 im
set_option maxRecDepth 20000 in
set_option maxHeartbeats 4000000 in
theorem s_X6_kindFor_j2 {g : GX} (a1 : Int32)  (k36 : Int32 → Int32 → Int32 → IM → Option (Int32 × IM)) (hk36 : ∀ (x3 : Int32) (x4 : Int32) (x5 : Int32) (im : IM), X g md_X6_kindFor eI 36 [(0, .ref (g.1 0)), (1, .int a1), (3, .int x3), (4, .int x4), (5, .int x5)] [] im (k36 x3 x4 x5 im)) (x3 : Int32) (x4 : Int32) (x5 : Int32)  (im : IM) : X g md_X6_kindFor eI 101 [(0, .ref (g.1 0)), (1, .int a1), (3, .int x3), (4, .int x4), (5, .int x5)] [] im (f_X6_kindFor_j2 a1 k36 x3 x4 x5 im) := by
  refine x_iinc (q := 4) (a := 1) (lv' := fun v7 => [(5, .int v7), (0, .ref (g.1 0)), (1, .int a1), (3, .int x3), (4, .int x4)]) dX6_kindFor_101 rfl (by decide) (by decide) (fun _ => rfl) (fun v7 => ?_)
  refine x_goto (tgt := 36) dX6_kindFor_104 (by decide) ?_
  refine x_sub [1, 2, 3, 4, 0] rfl ?_
  exact hk36 x3 x4 v7 im
def f_X6_kindFor_l1b (a1 : Int32)   (k36 : Int32 → Int32 → Int32 → IM → Option (Int32 × IM)) (x3 : Int32) (x4 : Int32) (x5 : Int32) (im : IM) : Option (Int32 × IM) :=
  if 7 ≤ x5 then
    some ((x3, im))
  else
    if inb a1 10 = true then
      bnd (up im (36 + ix a1) 0 x5) fun m4 =>
      if inb a1 10 = true then
        (f_X2_run 31 (36 + ix a1) m4).bind fun r6 =>
        if (f_X2_place r6) ≤ x4 then
          f_X6_kindFor_j2 a1 k36 x3 x4 x5 r6
        else
          bnd (f_X2_place r6) fun v8 =>
          f_X6_kindFor_j2 a1 k36 x5 v8 x5 r6
      else none
    else none
def f_X6_kindFor_l1 (a1 : Int32)   : Nat → Int32 → Int32 → Int32 → IM → Option (Int32 × IM)
  | 0, _, _, _, _ => none
  | n + 1, x3, x4, x5, im => f_X6_kindFor_l1b a1 (f_X6_kindFor_l1 a1 n) x3 x4 x5 im
set_option maxRecDepth 20000 in
set_option maxHeartbeats 4000000 in
theorem s_X6_kindFor_l1b {g : GX} (a1 : Int32)    (k36 : Int32 → Int32 → Int32 → IM → Option (Int32 × IM)) (hk36 : ∀ (x3 : Int32) (x4 : Int32) (x5 : Int32) (im : IM), X g md_X6_kindFor eI 36 [(0, .ref (g.1 0)), (1, .int a1), (3, .int x3), (4, .int x4), (5, .int x5)] [] im (k36 x3 x4 x5 im)) (x3 : Int32) (x4 : Int32) (x5 : Int32)  (im : IM) : X g md_X6_kindFor eI 36 [(0, .ref (g.1 0)), (1, .int a1), (3, .int x3), (4, .int x4), (5, .int x5)] [] im (f_X6_kindFor_l1b a1 k36 x3 x4 x5 im) := by
  refine x_iload (q := 4) rfl dX6_kindFor_36 ?_
  refine x_bipush (v := (7)) (by decide) dX6_kindFor_38 ?_
  refine x_icmp_ge (tgt := 107) dX6_kindFor_40 (by decide) ?_ ?_
  · refine x_iload_n (q := 2) rfl rfl dX6_kindFor_107 ?_
    exact x_iret rfl rfl dX6_kindFor_108
  · refine x_aload_n (q := 0) rfl rfl dX6_kindFor_43 ?_
    refine x_get (C := RX6) (T := TX6) sh_0 (by decide) rfl in_X6 3 (by decide) fl_X6_23 xf_6_3 dX6_kindFor_44 ?_
    refine x_get (C := RX5) (T := TX5) sh_31 (by decide) rfl in_X5 2 (by decide) fl_X6_120 xf_5_2 dX6_kindFor_47 ?_
    refine x_iload_n (q := 1) rfl rfl dX6_kindFor_50 ?_
    refine x_aldT sh_34 dX6_kindFor_51 (fun hi3 => ?_)
    refine x_iload (q := 4) rfl dX6_kindFor_52 ?_
    refine x_put (C := RX4) (T := TX4) (ty := .int) tyX4 tyX4_ok nmX4 (xTh xTo_c31 hi3) (by decide) rfl in_X4 0 (by decide) (by decide) fl_X6_124 rfl (by decide +kernel) rfl rfl dX6_kindFor_54 ?_
    refine x_bm (fun m4 => ?_)
    refine x_aload_n (q := 0) rfl rfl dX6_kindFor_57 ?_
    refine x_get (C := RX6) (T := TX6) sh_0 (by decide) rfl in_X6 5 (by decide) fl_X6_32 xf_6_5 dX6_kindFor_58 ?_
    refine x_aload_n (q := 0) rfl rfl dX6_kindFor_61 ?_
    refine x_get (C := RX6) (T := TX6) sh_0 (by decide) rfl in_X6 3 (by decide) fl_X6_23 xf_6_3 dX6_kindFor_62 ?_
    refine x_aload_n (q := 0) rfl rfl dX6_kindFor_65 ?_
    refine x_get (C := RX6) (T := TX6) sh_0 (by decide) rfl in_X6 3 (by decide) fl_X6_23 xf_6_3 dX6_kindFor_66 ?_
    refine x_get (C := RX5) (T := TX5) sh_31 (by decide) rfl in_X5 2 (by decide) fl_X6_120 xf_5_2 dX6_kindFor_69 ?_
    refine x_iload_n (q := 1) rfl rfl dX6_kindFor_72 ?_
    refine x_aldT sh_34 dX6_kindFor_73 (fun hi5 => ?_)
    refine x_bind (fun r6 er6 => ?_)
    refine x_callVV (av := [.ref (g.1 31), .ref (g.1 ((36 + ix a1)))]) (st := []) (m_X2_run xTo_c31 (xTh xTo_c31 hi5)  m4 r6 er6) sh_61 (by decide) rfl rfl (by decide) (by decide) lk_X6_211 cd_X2_run xd_X2_run rfl (Nat.le_of_ble_eq_true rfl) dX6_kindFor_74 ?_
    refine x_aload_n (q := 0) rfl rfl dX6_kindFor_77 ?_
    refine x_get (C := RX6) (T := TX6) sh_0 (by decide) rfl in_X6 5 (by decide) fl_X6_32 xf_6_5 dX6_kindFor_78 ?_
    refine x_callVR (av := []) (st := []) (m_X2_place   r6) sh_61 (by decide) rfl rfl (by decide) (by decide) lk_X6_218 cd_X2_place xd_X2_place rfl (Nat.le_of_ble_eq_true rfl) dX6_kindFor_81 ?_
    refine x_iload (q := 3) rfl dX6_kindFor_84 ?_
    refine x_icmp_le (tgt := 101) dX6_kindFor_86 (by decide) ?_ ?_
    · refine x_sub [0, 1, 2, 3, 4] rfl ?_
      exact s_X6_kindFor_j2 a1 k36 hk36 x3 x4 x5 r6
    · refine x_aload_n (q := 0) rfl rfl dX6_kindFor_89 ?_
      refine x_get (C := RX6) (T := TX6) sh_0 (by decide) rfl in_X6 5 (by decide) fl_X6_32 xf_6_5 dX6_kindFor_90 ?_
      refine x_callVR (av := []) (st := []) (m_X2_place   r6) sh_61 (by decide) rfl rfl (by decide) (by decide) lk_X6_218 cd_X2_place xd_X2_place rfl (Nat.le_of_ble_eq_true rfl) dX6_kindFor_93 ?_
      refine x_bi (fun v8 => ?_)
      refine x_istore (lv' := [(4, .int v8), (0, .ref (g.1 0)), (1, .int a1), (3, .int x3), (5, .int x5)]) dX6_kindFor_96 (by decide) rfl ?_
      refine x_iload (q := 4) rfl dX6_kindFor_98 ?_
      refine x_istore_n (lv' := [(3, .int x5), (4, .int v8), (0, .ref (g.1 0)), (1, .int a1), (5, .int x5)]) rfl dX6_kindFor_100 (by decide) rfl ?_
      refine x_sub [2, 3, 0, 1, 4] rfl ?_
      exact s_X6_kindFor_j2 a1 k36 hk36 x5 v8 x5 r6
set_option maxRecDepth 20000 in
set_option maxHeartbeats 4000000 in
theorem s_X6_kindFor_l1 {g : GX} (a1 : Int32)    (n : Nat) : ∀ (x3 : Int32) (x4 : Int32) (x5 : Int32) (im : IM), X g md_X6_kindFor eI 36 [(0, .ref (g.1 0)), (1, .int a1), (3, .int x3), (4, .int x4), (5, .int x5)] [] im (f_X6_kindFor_l1 a1 n x3 x4 x5 im) := by
  induction n with
  | zero => intro x3 x4 x5 im; exact x_none
  | succ n ih => intro x3 x4 x5 im; exact s_X6_kindFor_l1b a1 (f_X6_kindFor_l1 a1 n) ih x3 x4 x5 im
def f_X6_kindFor (a1 : Int32) (im : IM) : Option (Int32 × IM) :=
  (f_X6_againstRoll a1 im).bind fun r1 =>
  if r1 = 0 then
    (f_X5_become 31 1 im).bind fun r2 =>
    f_X6_kindFor_l1 a1 xF 0 ((-2)) 0 r2
  else
    (f_X6_refuse r1 im).bind fun r9 =>
    some ((r9.1, r9.2))
set_option maxRecDepth 20000 in
set_option maxHeartbeats 4000000 in
theorem s_X6_kindFor {g : GX}  (a1 : Int32) (im : IM) : X g md_X6_kindFor eI 0 [(0, .ref (g.1 0)), (1, .int a1)] [] im (f_X6_kindFor a1 im) := by
  refine x_aload_n (q := 0) rfl rfl dX6_kindFor_0 ?_
  refine x_iload_n (q := 1) rfl rfl dX6_kindFor_1 ?_
  refine x_bind (fun r1 er1 => ?_)
  refine x_callVR (av := [.int a1]) (st := []) (m_X6_againstRoll  a1 im r1 er1) sh_0 (by decide) rfl rfl (by decide) (by decide) lk_X6_208 cd_X6_againstRoll xd_X6_againstRoll rfl (Nat.le_of_ble_eq_true rfl) dX6_kindFor_2 ?_
  refine x_istore_n (lv' := [(2, .int r1), (0, .ref (g.1 0)), (1, .int a1)]) rfl dX6_kindFor_5 (by decide) rfl ?_
  refine x_iload_n (q := 0) rfl rfl dX6_kindFor_6 ?_
  refine x_if_eq (tgt := 16) dX6_kindFor_7 (by decide) ?_ ?_
  · refine x_aload_n (q := 1) rfl rfl dX6_kindFor_16 ?_
    refine x_get (C := RX6) (T := TX6) sh_0 (by decide) rfl in_X6 3 (by decide) fl_X6_23 xf_6_3 dX6_kindFor_17 ?_
    refine x_aload_n (q := 1) rfl rfl dX6_kindFor_20 ?_
    refine x_get (C := RX6) (T := TX6) sh_0 (by decide) rfl in_X6 0 (by decide) fl_X6_12 xf_6_0 dX6_kindFor_21 ?_
    refine x_bind (fun r2 er2 => ?_)
    refine x_callVV (av := [.ref (g.1 1)]) (st := []) (m_X5_become xTo_c31 xTo_c1  im r2 er2) sh_31 (by decide) rfl rfl (by decide) (by decide) lk_X6_194 cd_X5_become xd_X5_become rfl (Nat.le_of_ble_eq_true rfl) dX6_kindFor_24 ?_
    refine x_iconst (v := (0)) (by decide) dX6_kindFor_27 ?_
    refine x_istore_n (lv' := [(3, .int 0), (2, .int r1), (0, .ref (g.1 0)), (1, .int a1)]) rfl dX6_kindFor_28 (by decide) rfl ?_
    refine x_bipush (v := (-2)) (by decide) dX6_kindFor_29 ?_
    refine x_istore (lv' := [(4, .int ((-2))), (3, .int 0), (2, .int r1), (0, .ref (g.1 0)), (1, .int a1)]) dX6_kindFor_31 (by decide) rfl ?_
    refine x_iconst (v := (0)) (by decide) dX6_kindFor_33 ?_
    refine x_istore (lv' := [(5, .int 0), (4, .int ((-2))), (3, .int 0), (2, .int r1), (0, .ref (g.1 0)), (1, .int a1)]) dX6_kindFor_34 (by decide) rfl ?_
    refine x_sub [4, 5, 2, 1, 0] rfl ?_
    exact s_X6_kindFor_l1 a1 xF 0 ((-2)) 0 r2
  · refine x_aload_n (q := 1) rfl rfl dX6_kindFor_10 ?_
    refine x_iload_n (q := 0) rfl rfl dX6_kindFor_11 ?_
    refine x_bind (fun r9 er9 => ?_)
    refine x_callVI (av := [.int r1]) (st := []) (m_X6_refuse  r1 im r9 er9) sh_0 (by decide) rfl rfl (by decide) (by decide) lk_X6_72 cd_X6_refuse xd_X6_refuse rfl (Nat.le_of_ble_eq_true rfl) dX6_kindFor_12 ?_
    exact x_iret rfl rfl dX6_kindFor_15
theorem m_X6_kindFor {g : GX}  (a1 : Int32) (im : IM) (r : Int32 × IM) (hr : f_X6_kindFor a1 im = some r) : xMet g 5 yX6_kindFor cX6_kindFor 6 (some .int) [.ref (g.1 0), .int a1] im (eI r) := x_met (by decide) (Nat.le_of_ble_eq_true rfl) rfl (s_X6_kindFor a1 im) r hr
abbrev md_X6_isTooLateToWait : xM := (0, 1, RX6, cX6_isTooLateToWait, (some .boolean))
def f_X6_isTooLateToWait  (im : IM) : Int32 :=
  if (im 1 7) ≤ 9740 then
    0
  else
    1
set_option maxRecDepth 20000 in
set_option maxHeartbeats 4000000 in
theorem s_X6_isTooLateToWait {g : GX}   (im : IM) : X g md_X6_isTooLateToWait (eR im) 0 [(0, .ref (g.1 0))] [] im (some (f_X6_isTooLateToWait im)) := by
  refine x_aload_n (q := 0) rfl rfl dX6_isTooLateToWait_0 ?_
  refine x_get (C := RX6) (T := TX6) sh_0 (by decide) rfl in_X6 0 (by decide) fl_X6_12 xf_6_0 dX6_isTooLateToWait_1 ?_
  refine x_get (C := RX5) (T := TX5) sh_1 (by decide) rfl in_X5 7 (by decide) fl_X6_177 xf_5_7 dX6_isTooLateToWait_4 ?_
  refine x_sipush (v := (9740)) (by decide) dX6_isTooLateToWait_7 ?_
  refine x_cs ?_
  refine x_icmp_le (tgt := 17) dX6_isTooLateToWait_10 (by decide) ?_ ?_
  · refine x_iconst (v := (0)) (by decide) dX6_isTooLateToWait_17 ?_
    exact x_nret (y := 0) rfl rfl (by decide) dX6_isTooLateToWait_18
  · refine x_iconst (v := (1)) (by decide) dX6_isTooLateToWait_13 ?_
    refine x_goto (tgt := 18) dX6_isTooLateToWait_14 (by decide) ?_
    exact x_nret (y := 1) rfl rfl (by decide) dX6_isTooLateToWait_18
theorem m_X6_isTooLateToWait {g : GX}   (im : IM) : xMet g 0 yX6_isTooLateToWait cX6_isTooLateToWait 1 (some .boolean) [.ref (g.1 0)] im ((eR im) (f_X6_isTooLateToWait im)) := x_met (by decide) (Nat.le_of_ble_eq_true rfl) rfl (s_X6_isTooLateToWait im) _ rfl
abbrev md_X6_wait : xM := (5, 3, RX6, cX6_wait, (some .int))
def f_X6_wait_j1 (a1 : Int32)   (im : IM) : Option (Int32 × IM) :=
  (f_X6_refuse ((-1000005)) im).bind fun r2 =>
  some ((r2.1, r2.2))
set_option maxRecDepth 20000 in
set_option maxHeartbeats 4000000 in
theorem s_X6_wait_j1 {g : GX} (a1 : Int32)      (im : IM) : X g md_X6_wait eI 37 [(0, .ref (g.1 0))] [] im (f_X6_wait_j1 a1 im) := by
  refine x_aload_n (q := 0) rfl rfl dX6_wait_37 ?_
  refine x_ldc co_X6_169 dX6_wait_38 ?_
  refine x_bind (fun r2 er2 => ?_)
  refine x_callVI (av := [.int ((-1000005))]) (st := []) (m_X6_refuse  (((-1000005))) im r2 er2) sh_0 (by decide) rfl rfl (by decide) (by decide) lk_X6_72 cd_X6_refuse xd_X6_refuse rfl (Nat.le_of_ble_eq_true rfl) dX6_wait_40 ?_
  exact x_iret rfl rfl dX6_wait_43
def f_X6_wait_l2b (a1 : Int32)   (k57 : Int32 → IM → Option (Int32 × IM)) (x2 : Int32) (im : IM) : Option (Int32 × IM) :=
  if 59 < x2 then
    (f_X6_refuse ((-1000004)) im).bind fun r4 =>
    some ((r4.1, r4.2))
  else
    (f_X5_become 46 31 im).bind fun r5 =>
    if inb a1 10 = true then
      bnd (f_X4_letGo (51 + ix a1) 10 r5) fun m7 =>
      (f_X5_firstMeeting 46 200 m7).bind fun r8 =>
      if r8.1 = 0 then
        some ((x2, r8.2))
      else
        (f_X5_passMinute 31 r8.2).bind fun r9 =>
        bnd (x2 + 1) fun v10 =>
        k57 v10 r9.2
    else none
def f_X6_wait_l2 (a1 : Int32)   : Nat → Int32 → IM → Option (Int32 × IM)
  | 0, _, _ => none
  | n + 1, x2, im => f_X6_wait_l2b a1 (f_X6_wait_l2 a1 n) x2 im
set_option maxRecDepth 20000 in
set_option maxHeartbeats 4000000 in
theorem s_X6_wait_l2b {g : GX} (a1 : Int32)    (k57 : Int32 → IM → Option (Int32 × IM)) (hk57 : ∀ (x2 : Int32) (im : IM), X g md_X6_wait eI 57 [(0, .ref (g.1 0)), (1, .int a1), (2, .int x2)] [] im (k57 x2 im)) (x2 : Int32)  (im : IM) : X g md_X6_wait eI 57 [(0, .ref (g.1 0)), (1, .int a1), (2, .int x2)] [] im (f_X6_wait_l2b a1 k57 x2 im) := by
  refine x_iload_n (q := 2) rfl rfl dX6_wait_57 ?_
  refine x_bipush (v := (59)) (by decide) dX6_wait_58 ?_
  refine x_icmp_gt (tgt := 117) dX6_wait_60 (by decide) ?_ ?_
  · refine x_aload_n (q := 0) rfl rfl dX6_wait_117 ?_
    refine x_ldc co_X6_207 dX6_wait_118 ?_
    refine x_bind (fun r4 er4 => ?_)
    refine x_callVI (av := [.int ((-1000004))]) (st := []) (m_X6_refuse  (((-1000004))) im r4 er4) sh_0 (by decide) rfl rfl (by decide) (by decide) lk_X6_72 cd_X6_refuse xd_X6_refuse rfl (Nat.le_of_ble_eq_true rfl) dX6_wait_120 ?_
    exact x_iret rfl rfl dX6_wait_123
  · refine x_aload_n (q := 0) rfl rfl dX6_wait_63 ?_
    refine x_get (C := RX6) (T := TX6) sh_0 (by decide) rfl in_X6 4 (by decide) fl_X6_26 xf_6_4 dX6_wait_64 ?_
    refine x_aload_n (q := 0) rfl rfl dX6_wait_67 ?_
    refine x_get (C := RX6) (T := TX6) sh_0 (by decide) rfl in_X6 3 (by decide) fl_X6_23 xf_6_3 dX6_wait_68 ?_
    refine x_bind (fun r5 er5 => ?_)
    refine x_callVV (av := [.ref (g.1 31)]) (st := []) (m_X5_become xTo_c46 xTo_c31  im r5 er5) sh_46 (by decide) rfl rfl (by decide) (by decide) lk_X6_194 cd_X5_become xd_X5_become rfl (Nat.le_of_ble_eq_true rfl) dX6_wait_71 ?_
    refine x_aload_n (q := 0) rfl rfl dX6_wait_74 ?_
    refine x_get (C := RX6) (T := TX6) sh_0 (by decide) rfl in_X6 4 (by decide) fl_X6_26 xf_6_4 dX6_wait_75 ?_
    refine x_get (C := RX5) (T := TX5) sh_46 (by decide) rfl in_X5 2 (by decide) fl_X6_120 xf_5_2 dX6_wait_78 ?_
    refine x_iload_n (q := 1) rfl rfl dX6_wait_81 ?_
    refine x_aldT sh_49 dX6_wait_82 (fun hi6 => ?_)
    refine x_bipush (v := (10)) (by decide) dX6_wait_83 ?_
    refine x_callVV (av := [.int 10]) (st := []) (m_X4_letGo (xTh xTo_c46 hi6) 10 r5) (xTh xTo_c46 hi6) (by decide) rfl rfl (by decide) (by decide) lk_X6_170 cd_X4_letGo xd_X4_letGo rfl (Nat.le_of_ble_eq_true rfl) dX6_wait_85 ?_
    refine x_bm (fun m7 => ?_)
    refine x_aload_n (q := 0) rfl rfl dX6_wait_88 ?_
    refine x_get (C := RX6) (T := TX6) sh_0 (by decide) rfl in_X6 4 (by decide) fl_X6_26 xf_6_4 dX6_wait_89 ?_
    refine x_sipush (v := (200)) (by decide) dX6_wait_92 ?_
    refine x_bind (fun r8 er8 => ?_)
    refine x_callVI (av := [.int 200]) (st := []) (m_X5_firstMeeting xTo_c46 200 m7 r8 er8) sh_46 (by decide) rfl rfl (by decide) (by decide) lk_X6_204 cd_X5_firstMeeting xd_X5_firstMeeting rfl (Nat.le_of_ble_eq_true rfl) dX6_wait_95 ?_
    refine x_if_ne (tgt := 103) dX6_wait_98 (by decide) ?_ ?_
    · refine x_aload_n (q := 0) rfl rfl dX6_wait_103 ?_
      refine x_get (C := RX6) (T := TX6) sh_0 (by decide) rfl in_X6 3 (by decide) fl_X6_23 xf_6_3 dX6_wait_104 ?_
      refine x_bind (fun r9 er9 => ?_)
      refine x_callVI (av := []) (st := []) (m_X5_passMinute xTo_c31  r8.2 r9 er9) sh_31 (by decide) rfl rfl (by decide) (by decide) lk_X6_240 cd_X5_passMinute xd_X5_passMinute rfl (Nat.le_of_ble_eq_true rfl) dX6_wait_107 ?_
      refine x_pop rfl dX6_wait_110 ?_
      refine x_iinc (q := 2) (a := 1) (lv' := fun v10 => [(2, .int v10), (0, .ref (g.1 0)), (1, .int a1)]) dX6_wait_111 rfl (by decide) (by decide) (fun _ => rfl) (fun v10 => ?_)
      refine x_goto (tgt := 57) dX6_wait_114 (by decide) ?_
      refine x_sub [1, 2, 0] rfl ?_
      exact hk57 v10 r9.2
    · refine x_iload_n (q := 2) rfl rfl dX6_wait_101 ?_
      exact x_iret rfl rfl dX6_wait_102
set_option maxRecDepth 20000 in
set_option maxHeartbeats 4000000 in
theorem s_X6_wait_l2 {g : GX} (a1 : Int32)    (n : Nat) : ∀ (x2 : Int32) (im : IM), X g md_X6_wait eI 57 [(0, .ref (g.1 0)), (1, .int a1), (2, .int x2)] [] im (f_X6_wait_l2 a1 n x2 im) := by
  induction n with
  | zero => intro x2 im; exact x_none
  | succ n ih => intro x2 im; exact s_X6_wait_l2b a1 (f_X6_wait_l2 a1 n) ih x2 im
def f_X6_wait (a1 : Int32) (im : IM) : Option (Int32 × IM) :=
  if (f_X6_isThing a1 im) = 0 then
    (f_X6_refuse ((-1000001)) im).bind fun r11 =>
    some ((r11.1, r11.2))
  else
    if inb a1 10 = true then
      if (f_X4_canBeLetGo (6 + ix a1) im) = 0 then
        f_X6_wait_j1 a1 im
      else
        if (f_X6_isTooLateToWait im) = 0 then
          (f_X5_become 31 1 im).bind fun r3 =>
          f_X6_wait_l2 a1 xF 0 r3
        else
          f_X6_wait_j1 a1 im
    else none
set_option maxRecDepth 20000 in
set_option maxHeartbeats 4000000 in
theorem s_X6_wait {g : GX}  (a1 : Int32) (im : IM) : X g md_X6_wait eI 0 [(0, .ref (g.1 0)), (1, .int a1)] [] im (f_X6_wait a1 im) := by
  refine x_aload_n (q := 0) rfl rfl dX6_wait_0 ?_
  refine x_iload_n (q := 1) rfl rfl dX6_wait_1 ?_
  refine x_callVR (av := [.int a1]) (st := []) (m_X6_isThing  a1 im) sh_0 (by decide) rfl rfl (by decide) (by decide) lk_X6_117 cd_X6_isThing xd_X6_isThing rfl (Nat.le_of_ble_eq_true rfl) dX6_wait_2 ?_
  refine x_if_ne (tgt := 15) dX6_wait_5 (by decide) ?_ ?_
  · refine x_aload_n (q := 0) rfl rfl dX6_wait_15 ?_
    refine x_get (C := RX6) (T := TX6) sh_0 (by decide) rfl in_X6 0 (by decide) fl_X6_12 xf_6_0 dX6_wait_16 ?_
    refine x_get (C := RX5) (T := TX5) sh_1 (by decide) rfl in_X5 2 (by decide) fl_X6_120 xf_5_2 dX6_wait_19 ?_
    refine x_iload_n (q := 1) rfl rfl dX6_wait_22 ?_
    refine x_aldT sh_4 dX6_wait_23 (fun hi1 => ?_)
    refine x_callVR (av := []) (st := []) (m_X4_canBeLetGo (xTh xTo_c1 hi1)  im) (xTh xTo_c1 hi1) (by decide) rfl rfl (by decide) (by decide) lk_X6_166 cd_X4_canBeLetGo xd_X4_canBeLetGo rfl (Nat.le_of_ble_eq_true rfl) dX6_wait_24 ?_
    refine x_if_eq (tgt := 37) dX6_wait_27 (by decide) ?_ ?_
    · refine x_sub [0] rfl ?_
      exact s_X6_wait_j1 a1 im
    · refine x_aload_n (q := 0) rfl rfl dX6_wait_30 ?_
      refine x_callVR (av := []) (st := []) (m_X6_isTooLateToWait   im) sh_0 (by decide) rfl rfl (by decide) (by decide) lk_X6_237 cd_X6_isTooLateToWait xd_X6_isTooLateToWait rfl (Nat.le_of_ble_eq_true rfl) dX6_wait_31 ?_
      refine x_if_eq (tgt := 44) dX6_wait_34 (by decide) ?_ ?_
      · refine x_aload_n (q := 0) rfl rfl dX6_wait_44 ?_
        refine x_get (C := RX6) (T := TX6) sh_0 (by decide) rfl in_X6 3 (by decide) fl_X6_23 xf_6_3 dX6_wait_45 ?_
        refine x_aload_n (q := 0) rfl rfl dX6_wait_48 ?_
        refine x_get (C := RX6) (T := TX6) sh_0 (by decide) rfl in_X6 0 (by decide) fl_X6_12 xf_6_0 dX6_wait_49 ?_
        refine x_bind (fun r3 er3 => ?_)
        refine x_callVV (av := [.ref (g.1 1)]) (st := []) (m_X5_become xTo_c31 xTo_c1  im r3 er3) sh_31 (by decide) rfl rfl (by decide) (by decide) lk_X6_194 cd_X5_become xd_X5_become rfl (Nat.le_of_ble_eq_true rfl) dX6_wait_52 ?_
        refine x_iconst (v := (0)) (by decide) dX6_wait_55 ?_
        refine x_istore_n (lv' := [(2, .int 0), (0, .ref (g.1 0)), (1, .int a1)]) rfl dX6_wait_56 (by decide) rfl ?_
        refine x_sub [1, 2, 0] rfl ?_
        exact s_X6_wait_l2 a1 xF 0 r3
      · refine x_sub [0] rfl ?_
        exact s_X6_wait_j1 a1 im
  · refine x_aload_n (q := 0) rfl rfl dX6_wait_8 ?_
    refine x_ldc co_X6_71 dX6_wait_9 ?_
    refine x_bind (fun r11 er11 => ?_)
    refine x_callVI (av := [.int ((-1000001))]) (st := []) (m_X6_refuse  (((-1000001))) im r11 er11) sh_0 (by decide) rfl rfl (by decide) (by decide) lk_X6_72 cd_X6_refuse xd_X6_refuse rfl (Nat.le_of_ble_eq_true rfl) dX6_wait_11 ?_
    exact x_iret rfl rfl dX6_wait_14
theorem m_X6_wait {g : GX}  (a1 : Int32) (im : IM) (r : Int32 × IM) (hr : f_X6_wait a1 im = some r) : xMet g 5 yX6_wait cX6_wait 3 (some .int) [.ref (g.1 0), .int a1] im (eI r) := x_met (by decide) (Nat.le_of_ble_eq_true rfl) rfl (s_X6_wait a1 im) r hr
abbrev md_X6_standTogether : xM := (1, 2, RX6, cX6_standTogether, (some .boolean))
def f_X6_standTogether_j1 (a0 : Nat) (a1 : Nat)   (im : IM) : Int32 :=
  0
set_option maxRecDepth 20000 in
set_option maxHeartbeats 4000000 in
theorem s_X6_standTogether_j1 {g : GX} {a0 : Nat} (h0 : xSH a0 = (4, 8)) {a1 : Nat} (h1 : xSH a1 = (4, 8))   (im : IM)    : X g md_X6_standTogether (eR im) 29 [] [] im (some (f_X6_standTogether_j1 a0 a1 im)) := by
  refine x_iconst (v := (0)) (by decide) dX6_standTogether_29 ?_
  exact x_nret (y := 0) rfl rfl (by decide) dX6_standTogether_30
def f_X6_standTogether (a0 : Nat) (a1 : Nat) (im : IM) : Int32 :=
  if (f_X4_canBeLetGo a0 im) = 0 then
    f_X6_standTogether_j1 a0 a1 im
  else
    if (f_X4_canBeLetGo a1 im) = 0 then
      f_X6_standTogether_j1 a0 a1 im
    else
      if (im a0 4) = (im a1 4) then
        1
      else
        f_X6_standTogether_j1 a0 a1 im
set_option maxRecDepth 20000 in
set_option maxHeartbeats 4000000 in
theorem s_X6_standTogether {g : GX} {a0 : Nat} (h0 : xSH a0 = (4, 8)) {a1 : Nat} (h1 : xSH a1 = (4, 8))   (im : IM) : X g md_X6_standTogether (eR im) 0 [(0, .ref (g.1 a0)), (1, .ref (g.1 a1))] [] im (some (f_X6_standTogether a0 a1 im)) := by
  refine x_aload_n (q := 0) rfl rfl dX6_standTogether_0 ?_
  refine x_callVR (av := []) (st := []) (m_X4_canBeLetGo h0  im) h0 (by decide) rfl rfl (by decide) (by decide) lk_X6_166 cd_X4_canBeLetGo xd_X4_canBeLetGo rfl (Nat.le_of_ble_eq_true rfl) dX6_standTogether_1 ?_
  refine x_cs ?_
  refine x_if_eq (tgt := 29) dX6_standTogether_4 (by decide) ?_ ?_
  · refine x_sub [] rfl ?_
    exact s_X6_standTogether_j1 h0 h1 im
  · refine x_aload_n (q := 1) rfl rfl dX6_standTogether_7 ?_
    refine x_callVR (av := []) (st := []) (m_X4_canBeLetGo h1  im) h1 (by decide) rfl rfl (by decide) (by decide) lk_X6_166 cd_X4_canBeLetGo xd_X4_canBeLetGo rfl (Nat.le_of_ble_eq_true rfl) dX6_standTogether_8 ?_
    refine x_cs ?_
    refine x_if_eq (tgt := 29) dX6_standTogether_11 (by decide) ?_ ?_
    · refine x_sub [] rfl ?_
      exact s_X6_standTogether_j1 h0 h1 im
    · refine x_aload_n (q := 0) rfl rfl dX6_standTogether_14 ?_
      refine x_get (C := RX4) (T := TX4) h0 (by decide) rfl in_X4 4 (by decide) fl_X6_138 xf_4_4 dX6_standTogether_15 ?_
      refine x_aload_n (q := 1) rfl rfl dX6_standTogether_18 ?_
      refine x_get (C := RX4) (T := TX4) h1 (by decide) rfl in_X4 4 (by decide) fl_X6_138 xf_4_4 dX6_standTogether_19 ?_
      refine x_cs ?_
      refine x_icmp_ne (tgt := 29) dX6_standTogether_22 (by decide) ?_ ?_
      · refine x_sub [] rfl ?_
        exact s_X6_standTogether_j1 h0 h1 im
      · refine x_iconst (v := (1)) (by decide) dX6_standTogether_25 ?_
        refine x_goto (tgt := 30) dX6_standTogether_26 (by decide) ?_
        exact x_nret (y := 1) rfl rfl (by decide) dX6_standTogether_30
theorem m_X6_standTogether {g : GX} {a0 : Nat} (h0 : xSH a0 = (4, 8)) {a1 : Nat} (h1 : xSH a1 = (4, 8))   (im : IM) : xMet g 1 yX6_standTogether cX6_standTogether 2 (some .boolean) [.ref (g.1 a0), .ref (g.1 a1)] im ((eR im) (f_X6_standTogether a0 a1 im)) := x_met (by decide) (Nat.le_of_ble_eq_true rfl) rfl (s_X6_standTogether h0 h1 im) _ rfl
abbrev md_X6_behind : xM := (5, 4, RX6, cX6_behind, (some .int))
def f_X6_behind_j1 (a1 : Int32) (a2 : Int32)   (im : IM) : Option (Int32 × IM) :=
  (f_X6_refuse ((-1000001)) im).bind fun r1 =>
  some ((r1.1, r1.2))
set_option maxRecDepth 20000 in
set_option maxHeartbeats 4000000 in
theorem s_X6_behind_j1 {g : GX} (a1 : Int32) (a2 : Int32)      (im : IM) : X g md_X6_behind eI 21 [(0, .ref (g.1 0))] [] im (f_X6_behind_j1 a1 a2 im) := by
  refine x_aload_n (q := 0) rfl rfl dX6_behind_21 ?_
  refine x_ldc co_X6_71 dX6_behind_22 ?_
  refine x_bind (fun r1 er1 => ?_)
  refine x_callVI (av := [.int ((-1000001))]) (st := []) (m_X6_refuse  (((-1000001))) im r1 er1) sh_0 (by decide) rfl rfl (by decide) (by decide) lk_X6_72 cd_X6_refuse xd_X6_refuse rfl (Nat.le_of_ble_eq_true rfl) dX6_behind_24 ?_
  exact x_iret rfl rfl dX6_behind_27
def f_X6_behind_j2 (a1 : Int32) (a2 : Int32)   (im : IM) : Option (Int32 × IM) :=
  (f_X6_refuse ((-1000005)) im).bind fun r4 =>
  some ((r4.1, r4.2))
set_option maxRecDepth 20000 in
set_option maxHeartbeats 4000000 in
theorem s_X6_behind_j2 {g : GX} (a1 : Int32) (a2 : Int32)      (im : IM) : X g md_X6_behind eI 59 [(0, .ref (g.1 0))] [] im (f_X6_behind_j2 a1 a2 im) := by
  refine x_aload_n (q := 0) rfl rfl dX6_behind_59 ?_
  refine x_ldc co_X6_169 dX6_behind_60 ?_
  refine x_bind (fun r4 er4 => ?_)
  refine x_callVI (av := [.int ((-1000005))]) (st := []) (m_X6_refuse  (((-1000005))) im r4 er4) sh_0 (by decide) rfl rfl (by decide) (by decide) lk_X6_72 cd_X6_refuse xd_X6_refuse rfl (Nat.le_of_ble_eq_true rfl) dX6_behind_62 ?_
  exact x_iret rfl rfl dX6_behind_65
def f_X6_behind_j4 (a1 : Int32) (a2 : Int32) (k107 : Int32 → IM → Option (Int32 × IM)) (x3 : Int32) (im : IM) : Option (Int32 × IM) :=
  bnd (x3 + 1) fun v15 =>
  k107 v15 im
set_option maxRecDepth 20000 in
set_option maxHeartbeats 4000000 in
theorem s_X6_behind_j4 {g : GX} (a1 : Int32) (a2 : Int32)  (k107 : Int32 → IM → Option (Int32 × IM)) (hk107 : ∀ (x3 : Int32) (im : IM), X g md_X6_behind eI 107 [(0, .ref (g.1 0)), (2, .int a2), (3, .int x3)] [] im (k107 x3 im)) (x3 : Int32)  (im : IM) : X g md_X6_behind eI 184 [(0, .ref (g.1 0)), (2, .int a2), (3, .int x3)] [] im (f_X6_behind_j4 a1 a2 k107 x3 im) := by
  refine x_iinc (q := 2) (a := 1) (lv' := fun v15 => [(3, .int v15), (0, .ref (g.1 0)), (2, .int a2)]) dX6_behind_184 rfl (by decide) (by decide) (fun _ => rfl) (fun v15 => ?_)
  refine x_goto (tgt := 107) dX6_behind_187 (by decide) ?_
  refine x_sub [1, 2, 0] rfl ?_
  exact hk107 v15 im
def f_X6_behind_l3b (a1 : Int32) (a2 : Int32)   (k107 : Int32 → IM → Option (Int32 × IM)) (x3 : Int32) (im : IM) : Option (Int32 × IM) :=
  if 59 < x3 then
    (f_X6_refuse ((-1000004)) im).bind fun r9 =>
    some ((r9.1, r9.2))
  else
    (f_X5_passMinute 31 im).bind fun r10 =>
    if r10.1 ≤ 0 then
      (f_X5_become 46 31 r10.2).bind fun r11 =>
      if inb a2 10 = true then
        bnd (f_X4_letGo (51 + ix a2) 10 r11) fun m13 =>
        (f_X5_firstMeeting 46 200 m13).bind fun r14 =>
        if r14.1 = 0 then
          (f_X5_restingOnFoot 46 r14.2).bind fun r16 =>
          if (f_J6_bitCount_0f7a4 r16) = 2 then
            some ((x3, r14.2))
          else
            f_X6_behind_j4 a1 a2 k107 x3 r14.2
        else
          f_X6_behind_j4 a1 a2 k107 x3 r14.2
      else none
    else
      (f_X6_refuse ((-1000004)) r10.2).bind fun r17 =>
      some ((r17.1, r17.2))
def f_X6_behind_l3 (a1 : Int32) (a2 : Int32)   : Nat → Int32 → IM → Option (Int32 × IM)
  | 0, _, _ => none
  | n + 1, x3, im => f_X6_behind_l3b a1 a2 (f_X6_behind_l3 a1 a2 n) x3 im
set_option maxRecDepth 20000 in
set_option maxHeartbeats 4000000 in
theorem s_X6_behind_l3b {g : GX} (a1 : Int32) (a2 : Int32)    (k107 : Int32 → IM → Option (Int32 × IM)) (hk107 : ∀ (x3 : Int32) (im : IM), X g md_X6_behind eI 107 [(0, .ref (g.1 0)), (2, .int a2), (3, .int x3)] [] im (k107 x3 im)) (x3 : Int32)  (im : IM) : X g md_X6_behind eI 107 [(0, .ref (g.1 0)), (2, .int a2), (3, .int x3)] [] im (f_X6_behind_l3b a1 a2 k107 x3 im) := by
  refine x_iload_n (q := 2) rfl rfl dX6_behind_107 ?_
  refine x_bipush (v := (59)) (by decide) dX6_behind_108 ?_
  refine x_icmp_gt (tgt := 190) dX6_behind_110 (by decide) ?_ ?_
  · refine x_aload_n (q := 0) rfl rfl dX6_behind_190 ?_
    refine x_ldc co_X6_207 dX6_behind_191 ?_
    refine x_bind (fun r9 er9 => ?_)
    refine x_callVI (av := [.int ((-1000004))]) (st := []) (m_X6_refuse  (((-1000004))) im r9 er9) sh_0 (by decide) rfl rfl (by decide) (by decide) lk_X6_72 cd_X6_refuse xd_X6_refuse rfl (Nat.le_of_ble_eq_true rfl) dX6_behind_193 ?_
    exact x_iret rfl rfl dX6_behind_196
  · refine x_aload_n (q := 0) rfl rfl dX6_behind_113 ?_
    refine x_get (C := RX6) (T := TX6) sh_0 (by decide) rfl in_X6 3 (by decide) fl_X6_23 xf_6_3 dX6_behind_114 ?_
    refine x_bind (fun r10 er10 => ?_)
    refine x_callVI (av := []) (st := []) (m_X5_passMinute xTo_c31  im r10 er10) sh_31 (by decide) rfl rfl (by decide) (by decide) lk_X6_240 cd_X5_passMinute xd_X5_passMinute rfl (Nat.le_of_ble_eq_true rfl) dX6_behind_117 ?_
    refine x_if_le (tgt := 130) dX6_behind_120 (by decide) ?_ ?_
    · refine x_aload_n (q := 0) rfl rfl dX6_behind_130 ?_
      refine x_get (C := RX6) (T := TX6) sh_0 (by decide) rfl in_X6 4 (by decide) fl_X6_26 xf_6_4 dX6_behind_131 ?_
      refine x_aload_n (q := 0) rfl rfl dX6_behind_134 ?_
      refine x_get (C := RX6) (T := TX6) sh_0 (by decide) rfl in_X6 3 (by decide) fl_X6_23 xf_6_3 dX6_behind_135 ?_
      refine x_bind (fun r11 er11 => ?_)
      refine x_callVV (av := [.ref (g.1 31)]) (st := []) (m_X5_become xTo_c46 xTo_c31  r10.2 r11 er11) sh_46 (by decide) rfl rfl (by decide) (by decide) lk_X6_194 cd_X5_become xd_X5_become rfl (Nat.le_of_ble_eq_true rfl) dX6_behind_138 ?_
      refine x_aload_n (q := 0) rfl rfl dX6_behind_141 ?_
      refine x_get (C := RX6) (T := TX6) sh_0 (by decide) rfl in_X6 4 (by decide) fl_X6_26 xf_6_4 dX6_behind_142 ?_
      refine x_get (C := RX5) (T := TX5) sh_46 (by decide) rfl in_X5 2 (by decide) fl_X6_120 xf_5_2 dX6_behind_145 ?_
      refine x_iload_n (q := 1) rfl rfl dX6_behind_148 ?_
      refine x_aldT sh_49 dX6_behind_149 (fun hi12 => ?_)
      refine x_bipush (v := (10)) (by decide) dX6_behind_150 ?_
      refine x_callVV (av := [.int 10]) (st := []) (m_X4_letGo (xTh xTo_c46 hi12) 10 r11) (xTh xTo_c46 hi12) (by decide) rfl rfl (by decide) (by decide) lk_X6_170 cd_X4_letGo xd_X4_letGo rfl (Nat.le_of_ble_eq_true rfl) dX6_behind_152 ?_
      refine x_bm (fun m13 => ?_)
      refine x_aload_n (q := 0) rfl rfl dX6_behind_155 ?_
      refine x_get (C := RX6) (T := TX6) sh_0 (by decide) rfl in_X6 4 (by decide) fl_X6_26 xf_6_4 dX6_behind_156 ?_
      refine x_sipush (v := (200)) (by decide) dX6_behind_159 ?_
      refine x_bind (fun r14 er14 => ?_)
      refine x_callVI (av := [.int 200]) (st := []) (m_X5_firstMeeting xTo_c46 200 m13 r14 er14) sh_46 (by decide) rfl rfl (by decide) (by decide) lk_X6_204 cd_X5_firstMeeting xd_X5_firstMeeting rfl (Nat.le_of_ble_eq_true rfl) dX6_behind_162 ?_
      refine x_if_ne (tgt := 184) dX6_behind_165 (by decide) ?_ ?_
      · refine x_sub [0, 1, 2] rfl ?_
        exact s_X6_behind_j4 a1 a2 k107 hk107 x3 r14.2
      · refine x_aload_n (q := 0) rfl rfl dX6_behind_168 ?_
        refine x_get (C := RX6) (T := TX6) sh_0 (by decide) rfl in_X6 4 (by decide) fl_X6_26 xf_6_4 dX6_behind_169 ?_
        refine x_bind (fun r16 er16 => ?_)
        refine x_callVR (av := []) (st := []) (m_X5_restingOnFoot xTo_c46  r14.2 r16 er16) sh_46 (by decide) rfl rfl (by decide) (by decide) lk_X6_198 cd_X5_restingOnFoot xd_X5_restingOnFoot rfl (Nat.le_of_ble_eq_true rfl) dX6_behind_172 ?_
        refine x_callSR (av := [.int r16]) (st := []) (m_J6_bitCount_0f7a4  r16 r14.2) rfl (by decide) (by decide) lk_X6_183 cd_J6_bitCount_0f7a4 xd_J6_bitCount_0f7a4 rfl (Nat.le_of_ble_eq_true rfl) dX6_behind_175 ?_
        refine x_iconst (v := (2)) (by decide) dX6_behind_178 ?_
        refine x_icmp_ne (tgt := 184) dX6_behind_179 (by decide) ?_ ?_
        · refine x_sub [0, 1, 2] rfl ?_
          exact s_X6_behind_j4 a1 a2 k107 hk107 x3 r14.2
        · refine x_iload_n (q := 2) rfl rfl dX6_behind_182 ?_
          exact x_iret rfl rfl dX6_behind_183
    · refine x_aload_n (q := 0) rfl rfl dX6_behind_123 ?_
      refine x_ldc co_X6_207 dX6_behind_124 ?_
      refine x_bind (fun r17 er17 => ?_)
      refine x_callVI (av := [.int ((-1000004))]) (st := []) (m_X6_refuse  (((-1000004))) r10.2 r17 er17) sh_0 (by decide) rfl rfl (by decide) (by decide) lk_X6_72 cd_X6_refuse xd_X6_refuse rfl (Nat.le_of_ble_eq_true rfl) dX6_behind_126 ?_
      exact x_iret rfl rfl dX6_behind_129
set_option maxRecDepth 20000 in
set_option maxHeartbeats 4000000 in
theorem s_X6_behind_l3 {g : GX} (a1 : Int32) (a2 : Int32)    (n : Nat) : ∀ (x3 : Int32) (im : IM), X g md_X6_behind eI 107 [(0, .ref (g.1 0)), (2, .int a2), (3, .int x3)] [] im (f_X6_behind_l3 a1 a2 n x3 im) := by
  induction n with
  | zero => intro x3 im; exact x_none
  | succ n ih => intro x3 im; exact s_X6_behind_l3b a1 a2 (f_X6_behind_l3 a1 a2 n) ih x3 im
def f_X6_behind (a1 : Int32) (a2 : Int32) (im : IM) : Option (Int32 × IM) :=
  if (f_X6_isThing a1 im) = 0 then
    f_X6_behind_j1 a1 a2 im
  else
    if (f_X6_isThing a2 im) = 0 then
      f_X6_behind_j1 a1 a2 im
    else
      if a1 = a2 then
        f_X6_behind_j1 a1 a2 im
      else
        if inb a1 10 = true then
          if inb a2 10 = true then
            if (f_X6_standTogether (6 + ix a1) (6 + ix a2) im) = 0 then
              f_X6_behind_j2 a1 a2 im
            else
              if (f_X6_isTooLateToWait im) = 0 then
                (f_X5_become 31 1 im).bind fun r5 =>
                (f_X5_clearAllBut 31 ((jshl 1 a1) ||| (jshl 1 a2)) r5).bind fun r6 =>
                if inb a1 10 = true then
                  bnd (f_X4_letGo (36 + ix a1) 10 r6) fun m8 =>
                  f_X6_behind_l3 a1 a2 xF 1 m8
                else none
              else
                f_X6_behind_j2 a1 a2 im
          else none
        else none
set_option maxRecDepth 20000 in
set_option maxHeartbeats 4000000 in
theorem s_X6_behind {g : GX}   (a1 : Int32) (a2 : Int32) (im : IM) : X g md_X6_behind eI 0 [(0, .ref (g.1 0)), (1, .int a1), (2, .int a2)] [] im (f_X6_behind a1 a2 im) := by
  refine x_aload_n (q := 0) rfl rfl dX6_behind_0 ?_
  refine x_iload_n (q := 1) rfl rfl dX6_behind_1 ?_
  refine x_callVR (av := [.int a1]) (st := []) (m_X6_isThing  a1 im) sh_0 (by decide) rfl rfl (by decide) (by decide) lk_X6_117 cd_X6_isThing xd_X6_isThing rfl (Nat.le_of_ble_eq_true rfl) dX6_behind_2 ?_
  refine x_if_eq (tgt := 21) dX6_behind_5 (by decide) ?_ ?_
  · refine x_sub [0] rfl ?_
    exact s_X6_behind_j1 a1 a2 im
  · refine x_aload_n (q := 0) rfl rfl dX6_behind_8 ?_
    refine x_iload_n (q := 2) rfl rfl dX6_behind_9 ?_
    refine x_callVR (av := [.int a2]) (st := []) (m_X6_isThing  a2 im) sh_0 (by decide) rfl rfl (by decide) (by decide) lk_X6_117 cd_X6_isThing xd_X6_isThing rfl (Nat.le_of_ble_eq_true rfl) dX6_behind_10 ?_
    refine x_if_eq (tgt := 21) dX6_behind_13 (by decide) ?_ ?_
    · refine x_sub [0] rfl ?_
      exact s_X6_behind_j1 a1 a2 im
    · refine x_iload_n (q := 1) rfl rfl dX6_behind_16 ?_
      refine x_iload_n (q := 2) rfl rfl dX6_behind_17 ?_
      refine x_icmp_ne (tgt := 28) dX6_behind_18 (by decide) ?_ ?_
      · refine x_aload_n (q := 0) rfl rfl dX6_behind_28 ?_
        refine x_get (C := RX6) (T := TX6) sh_0 (by decide) rfl in_X6 0 (by decide) fl_X6_12 xf_6_0 dX6_behind_29 ?_
        refine x_get (C := RX5) (T := TX5) sh_1 (by decide) rfl in_X5 2 (by decide) fl_X6_120 xf_5_2 dX6_behind_32 ?_
        refine x_iload_n (q := 1) rfl rfl dX6_behind_35 ?_
        refine x_aldT sh_4 dX6_behind_36 (fun hi2 => ?_)
        refine x_aload_n (q := 0) rfl rfl dX6_behind_37 ?_
        refine x_get (C := RX6) (T := TX6) sh_0 (by decide) rfl in_X6 0 (by decide) fl_X6_12 xf_6_0 dX6_behind_38 ?_
        refine x_get (C := RX5) (T := TX5) sh_1 (by decide) rfl in_X5 2 (by decide) fl_X6_120 xf_5_2 dX6_behind_41 ?_
        refine x_iload_n (q := 2) rfl rfl dX6_behind_44 ?_
        refine x_aldT sh_4 dX6_behind_45 (fun hi3 => ?_)
        refine x_callSR (av := [.ref (g.1 ((6 + ix a1))), .ref (g.1 ((6 + ix a2)))]) (st := []) (m_X6_standTogether (xTh xTo_c1 hi2) (xTh xTo_c1 hi3)  im) rfl (by decide) (by decide) lk_X6_243 cd_X6_standTogether xd_X6_standTogether rfl (Nat.le_of_ble_eq_true rfl) dX6_behind_46 ?_
        refine x_if_eq (tgt := 59) dX6_behind_49 (by decide) ?_ ?_
        · refine x_sub [0] rfl ?_
          exact s_X6_behind_j2 a1 a2 im
        · refine x_aload_n (q := 0) rfl rfl dX6_behind_52 ?_
          refine x_callVR (av := []) (st := []) (m_X6_isTooLateToWait   im) sh_0 (by decide) rfl rfl (by decide) (by decide) lk_X6_237 cd_X6_isTooLateToWait xd_X6_isTooLateToWait rfl (Nat.le_of_ble_eq_true rfl) dX6_behind_53 ?_
          refine x_if_eq (tgt := 66) dX6_behind_56 (by decide) ?_ ?_
          · refine x_aload_n (q := 0) rfl rfl dX6_behind_66 ?_
            refine x_get (C := RX6) (T := TX6) sh_0 (by decide) rfl in_X6 3 (by decide) fl_X6_23 xf_6_3 dX6_behind_67 ?_
            refine x_aload_n (q := 0) rfl rfl dX6_behind_70 ?_
            refine x_get (C := RX6) (T := TX6) sh_0 (by decide) rfl in_X6 0 (by decide) fl_X6_12 xf_6_0 dX6_behind_71 ?_
            refine x_bind (fun r5 er5 => ?_)
            refine x_callVV (av := [.ref (g.1 1)]) (st := []) (m_X5_become xTo_c31 xTo_c1  im r5 er5) sh_31 (by decide) rfl rfl (by decide) (by decide) lk_X6_194 cd_X5_become xd_X5_become rfl (Nat.le_of_ble_eq_true rfl) dX6_behind_74 ?_
            refine x_aload_n (q := 0) rfl rfl dX6_behind_77 ?_
            refine x_get (C := RX6) (T := TX6) sh_0 (by decide) rfl in_X6 3 (by decide) fl_X6_23 xf_6_3 dX6_behind_78 ?_
            refine x_iconst (v := (1)) (by decide) dX6_behind_81 ?_
            refine x_iload_n (q := 1) rfl rfl dX6_behind_82 ?_
            refine x_ishl dX6_behind_83 ?_
            refine x_iconst (v := (1)) (by decide) dX6_behind_84 ?_
            refine x_iload_n (q := 2) rfl rfl dX6_behind_85 ?_
            refine x_ishl dX6_behind_86 ?_
            refine x_ior dX6_behind_87 ?_
            refine x_bind (fun r6 er6 => ?_)
            refine x_callVV (av := [.int ((jshl 1 a1) ||| (jshl 1 a2))]) (st := []) (m_X5_clearAllBut xTo_c31 (((jshl 1 a1) ||| (jshl 1 a2))) r5 r6 er6) sh_31 (by decide) rfl rfl (by decide) (by decide) lk_X6_247 cd_X5_clearAllBut xd_X5_clearAllBut rfl (Nat.le_of_ble_eq_true rfl) dX6_behind_88 ?_
            refine x_aload_n (q := 0) rfl rfl dX6_behind_91 ?_
            refine x_get (C := RX6) (T := TX6) sh_0 (by decide) rfl in_X6 3 (by decide) fl_X6_23 xf_6_3 dX6_behind_92 ?_
            refine x_get (C := RX5) (T := TX5) sh_31 (by decide) rfl in_X5 2 (by decide) fl_X6_120 xf_5_2 dX6_behind_95 ?_
            refine x_iload_n (q := 1) rfl rfl dX6_behind_98 ?_
            refine x_aldT sh_34 dX6_behind_99 (fun hi7 => ?_)
            refine x_bipush (v := (10)) (by decide) dX6_behind_100 ?_
            refine x_callVV (av := [.int 10]) (st := []) (m_X4_letGo (xTh xTo_c31 hi7) 10 r6) (xTh xTo_c31 hi7) (by decide) rfl rfl (by decide) (by decide) lk_X6_170 cd_X4_letGo xd_X4_letGo rfl (Nat.le_of_ble_eq_true rfl) dX6_behind_102 ?_
            refine x_bm (fun m8 => ?_)
            refine x_iconst (v := (1)) (by decide) dX6_behind_105 ?_
            refine x_istore_n (lv' := [(3, .int 1), (0, .ref (g.1 0)), (1, .int a1), (2, .int a2)]) rfl dX6_behind_106 (by decide) rfl ?_
            refine x_sub [1, 3, 0] rfl ?_
            exact s_X6_behind_l3 a1 a2 xF 1 m8
          · refine x_sub [0] rfl ?_
            exact s_X6_behind_j2 a1 a2 im
      · refine x_sub [0] rfl ?_
        exact s_X6_behind_j1 a1 a2 im
theorem m_X6_behind {g : GX}   (a1 : Int32) (a2 : Int32) (im : IM) (r : Int32 × IM) (hr : f_X6_behind a1 a2 im = some r) : xMet g 5 yX6_behind cX6_behind 4 (some .int) [.ref (g.1 0), .int a1, .int a2] im (eI r) := x_met (by decide) (Nat.le_of_ble_eq_true rfl) rfl (s_X6_behind a1 a2 im) r hr
abbrev md_X6_come : xM := (5, 4, RX6, cX6_come, (some .int))
def f_X6_come_j2  (k36 : Int32 → Int32 → Int32 → IM → Option (Int32 × IM)) (x1 : Int32) (x2 : Int32) (x3 : Int32) (im : IM) : Option (Int32 × IM) :=
  bnd (x3 + 1) fun v4 =>
  k36 x1 x2 v4 im
set_option maxRecDepth 20000 in
set_option maxHeartbeats 4000000 in
theorem s_X6_come_j2 {g : GX}  (k36 : Int32 → Int32 → Int32 → IM → Option (Int32 × IM)) (hk36 : ∀ (x1 : Int32) (x2 : Int32) (x3 : Int32) (im : IM), X g md_X6_come eI 36 [(0, .ref (g.1 0)), (1, .int x1), (2, .int x2), (3, .int x3)] [] im (k36 x1 x2 x3 im)) (x1 : Int32) (x2 : Int32) (x3 : Int32)  (im : IM) : X g md_X6_come eI 95 [(0, .ref (g.1 0)), (1, .int x1), (2, .int x2), (3, .int x3)] [] im (f_X6_come_j2 k36 x1 x2 x3 im) := by
  refine x_iinc (q := 3) (a := 1) (lv' := fun v4 => [(3, .int v4), (0, .ref (g.1 0)), (1, .int x1), (2, .int x2)]) dX6_come_95 rfl (by decide) (by decide) (fun _ => rfl) (fun v4 => ?_)
  refine x_goto (tgt := 36) dX6_come_98 (by decide) ?_
  refine x_sub [1, 2, 3, 0] rfl ?_
  exact hk36 x1 x2 v4 im
def f_X6_come_j3  (k36 : Int32 → Int32 → Int32 → IM → Option (Int32 × IM)) (x1 : Int32) (x3 : Int32) (s0 : Int32) (s1 : Int32) (im : IM) : Option (Int32 × IM) :=
  bnd (s1 + s0) fun v7 =>
  f_X6_come_j2 k36 x1 v7 x3 im
set_option maxRecDepth 20000 in
set_option maxHeartbeats 4000000 in
theorem s_X6_come_j3 {g : GX}  (k36 : Int32 → Int32 → Int32 → IM → Option (Int32 × IM)) (hk36 : ∀ (x1 : Int32) (x2 : Int32) (x3 : Int32) (im : IM), X g md_X6_come eI 36 [(0, .ref (g.1 0)), (1, .int x1), (2, .int x2), (3, .int x3)] [] im (k36 x1 x2 x3 im)) (x1 : Int32) (x3 : Int32) (s0 : Int32) (s1 : Int32)  (im : IM) : X g md_X6_come eI 93 [(0, .ref (g.1 0)), (1, .int x1), (3, .int x3)] [.int s0, .int s1] im (f_X6_come_j3 k36 x1 x3 s0 s1 im) := by
  refine x_iadd dX6_come_93 ?_
  refine x_bi (fun v7 => ?_)
  refine x_istore_n (lv' := [(2, .int v7), (0, .ref (g.1 0)), (1, .int x1), (3, .int x3)]) rfl dX6_come_94 (by decide) rfl ?_
  refine x_sub [1, 2, 0, 3] rfl ?_
  exact s_X6_come_j2 k36 hk36 x1 v7 x3 im
def f_X6_come_l1b    (k36 : Int32 → Int32 → Int32 → IM → Option (Int32 × IM)) (x1 : Int32) (x2 : Int32) (x3 : Int32) (im : IM) : Option (Int32 × IM) :=
  if (im 1 4) ≤ x3 then
    some ((x2, im))
  else
    if (f_X6_has x1 x3) = 0 then
      f_X6_come_j2 k36 x1 x2 x3 im
    else
      if inb x3 10 = true then
        (f_X2_run 1 (6 + ix x3) im).bind fun r6 =>
        if (f_X2_endsOn 30 r6) = 0 then
          f_X6_come_j3 k36 x1 x3 0 x2 r6
        else
          f_X6_come_j3 k36 x1 x3 1 x2 r6
      else none
def f_X6_come_l1    : Nat → Int32 → Int32 → Int32 → IM → Option (Int32 × IM)
  | 0, _, _, _, _ => none
  | n + 1, x1, x2, x3, im => f_X6_come_l1b (f_X6_come_l1 n) x1 x2 x3 im
set_option maxRecDepth 20000 in
set_option maxHeartbeats 4000000 in
theorem s_X6_come_l1b {g : GX}    (k36 : Int32 → Int32 → Int32 → IM → Option (Int32 × IM)) (hk36 : ∀ (x1 : Int32) (x2 : Int32) (x3 : Int32) (im : IM), X g md_X6_come eI 36 [(0, .ref (g.1 0)), (1, .int x1), (2, .int x2), (3, .int x3)] [] im (k36 x1 x2 x3 im)) (x1 : Int32) (x2 : Int32) (x3 : Int32)  (im : IM) : X g md_X6_come eI 36 [(0, .ref (g.1 0)), (1, .int x1), (2, .int x2), (3, .int x3)] [] im (f_X6_come_l1b k36 x1 x2 x3 im) := by
  refine x_iload_n (q := 3) rfl rfl dX6_come_36 ?_
  refine x_aload_n (q := 0) rfl rfl dX6_come_37 ?_
  refine x_get (C := RX6) (T := TX6) sh_0 (by decide) rfl in_X6 0 (by decide) fl_X6_12 xf_6_0 dX6_come_38 ?_
  refine x_get (C := RX5) (T := TX5) sh_1 (by decide) rfl in_X5 4 (by decide) fl_X6_114 xf_5_4 dX6_come_41 ?_
  refine x_icmp_ge (tgt := 101) dX6_come_44 (by decide) ?_ ?_
  · refine x_iload_n (q := 2) rfl rfl dX6_come_101 ?_
    exact x_iret rfl rfl dX6_come_102
  · refine x_iload_n (q := 1) rfl rfl dX6_come_47 ?_
    refine x_iload_n (q := 3) rfl rfl dX6_come_48 ?_
    refine x_callSR (av := [.int x1, .int x3]) (st := []) (m_X6_has  x1 x3 im) rfl (by decide) (by decide) lk_X6_253 cd_X6_has xd_X6_has rfl (Nat.le_of_ble_eq_true rfl) dX6_come_49 ?_
    refine x_if_eq (tgt := 95) dX6_come_52 (by decide) ?_ ?_
    · refine x_sub [0, 1, 2, 3] rfl ?_
      exact s_X6_come_j2 k36 hk36 x1 x2 x3 im
    · refine x_aload_n (q := 0) rfl rfl dX6_come_55 ?_
      refine x_get (C := RX6) (T := TX6) sh_0 (by decide) rfl in_X6 5 (by decide) fl_X6_32 xf_6_5 dX6_come_56 ?_
      refine x_aload_n (q := 0) rfl rfl dX6_come_59 ?_
      refine x_get (C := RX6) (T := TX6) sh_0 (by decide) rfl in_X6 0 (by decide) fl_X6_12 xf_6_0 dX6_come_60 ?_
      refine x_aload_n (q := 0) rfl rfl dX6_come_63 ?_
      refine x_get (C := RX6) (T := TX6) sh_0 (by decide) rfl in_X6 0 (by decide) fl_X6_12 xf_6_0 dX6_come_64 ?_
      refine x_get (C := RX5) (T := TX5) sh_1 (by decide) rfl in_X5 2 (by decide) fl_X6_120 xf_5_2 dX6_come_67 ?_
      refine x_iload_n (q := 3) rfl rfl dX6_come_70 ?_
      refine x_aldT sh_4 dX6_come_71 (fun hi5 => ?_)
      refine x_bind (fun r6 er6 => ?_)
      refine x_callVV (av := [.ref (g.1 1), .ref (g.1 ((6 + ix x3)))]) (st := []) (m_X2_run xTo_c1 (xTh xTo_c1 hi5)  im r6 er6) sh_61 (by decide) rfl rfl (by decide) (by decide) lk_X6_211 cd_X2_run xd_X2_run rfl (Nat.le_of_ble_eq_true rfl) dX6_come_72 ?_
      refine x_iload_n (q := 2) rfl rfl dX6_come_75 ?_
      refine x_aload_n (q := 0) rfl rfl dX6_come_76 ?_
      refine x_get (C := RX6) (T := TX6) sh_0 (by decide) rfl in_X6 5 (by decide) fl_X6_32 xf_6_5 dX6_come_77 ?_
      refine x_bipush (v := (30)) (by decide) dX6_come_80 ?_
      refine x_callVR (av := [.int 30]) (st := [.int x2]) (m_X2_endsOn  30 r6) sh_61 (by decide) rfl rfl (by decide) (by decide) lk_X6_234 cd_X2_endsOn xd_X2_endsOn rfl (Nat.le_of_ble_eq_true rfl) dX6_come_82 ?_
      refine x_if_eq (tgt := 92) dX6_come_85 (by decide) ?_ ?_
      · refine x_iconst (v := (0)) (by decide) dX6_come_92 ?_
        refine x_sub [0, 1, 3] rfl ?_
        exact s_X6_come_j3 k36 hk36 x1 x3 0 x2 r6
      · refine x_iconst (v := (1)) (by decide) dX6_come_88 ?_
        refine x_goto (tgt := 93) dX6_come_89 (by decide) ?_
        refine x_sub [0, 1, 3] rfl ?_
        exact s_X6_come_j3 k36 hk36 x1 x3 1 x2 r6
set_option maxRecDepth 20000 in
set_option maxHeartbeats 4000000 in
theorem s_X6_come_l1 {g : GX}    (n : Nat) : ∀ (x1 : Int32) (x2 : Int32) (x3 : Int32) (im : IM), X g md_X6_come eI 36 [(0, .ref (g.1 0)), (1, .int x1), (2, .int x2), (3, .int x3)] [] im (f_X6_come_l1 n x1 x2 x3 im) := by
  induction n with
  | zero => intro x1 x2 x3 im; exact x_none
  | succ n ih => intro x1 x2 x3 im; exact s_X6_come_l1b (f_X6_come_l1 n) ih x1 x2 x3 im
def f_X6_come  (im : IM) : Option (Int32 × IM) :=
  if (f_X6_isTooLateToRoll im) = 0 then
    (f_X5_allIn 1 0 im).bind fun r1 =>
    (f_X5_allOn 1 0 im).bind fun r2 =>
    bnd (r1 &&& r2) fun v3 =>
    f_X6_come_l1 xF v3 0 0 im
  else
    (f_X6_refuse ((-1000005)) im).bind fun r8 =>
    some ((r8.1, r8.2))
set_option maxRecDepth 20000 in
set_option maxHeartbeats 4000000 in
theorem s_X6_come {g : GX}   (im : IM) : X g md_X6_come eI 0 [(0, .ref (g.1 0))] [] im (f_X6_come im) := by
  refine x_aload_n (q := 0) rfl rfl dX6_come_0 ?_
  refine x_callVR (av := []) (st := []) (m_X6_isTooLateToRoll   im) sh_0 (by decide) rfl rfl (by decide) (by decide) lk_X6_250 cd_X6_isTooLateToRoll xd_X6_isTooLateToRoll rfl (Nat.le_of_ble_eq_true rfl) dX6_come_1 ?_
  refine x_if_eq (tgt := 14) dX6_come_4 (by decide) ?_ ?_
  · refine x_aload_n (q := 0) rfl rfl dX6_come_14 ?_
    refine x_get (C := RX6) (T := TX6) sh_0 (by decide) rfl in_X6 0 (by decide) fl_X6_12 xf_6_0 dX6_come_15 ?_
    refine x_iconst (v := (0)) (by decide) dX6_come_18 ?_
    refine x_bind (fun r1 er1 => ?_)
    refine x_callVR (av := [.int 0]) (st := []) (m_X5_allIn xTo_c1 0 im r1 er1) sh_1 (by decide) rfl rfl (by decide) (by decide) lk_X6_180 cd_X5_allIn xd_X5_allIn rfl (Nat.le_of_ble_eq_true rfl) dX6_come_19 ?_
    refine x_aload_n (q := 0) rfl rfl dX6_come_22 ?_
    refine x_get (C := RX6) (T := TX6) sh_0 (by decide) rfl in_X6 0 (by decide) fl_X6_12 xf_6_0 dX6_come_23 ?_
    refine x_iconst (v := (0)) (by decide) dX6_come_26 ?_
    refine x_bind (fun r2 er2 => ?_)
    refine x_callVR (av := [.int 0]) (st := [.int r1]) (m_X5_allOn xTo_c1 0 im r2 er2) sh_1 (by decide) rfl rfl (by decide) (by decide) lk_X6_191 cd_X5_allOn xd_X5_allOn rfl (Nat.le_of_ble_eq_true rfl) dX6_come_27 ?_
    refine x_iand dX6_come_30 ?_
    refine x_bi (fun v3 => ?_)
    refine x_istore_n (lv' := [(1, .int v3), (0, .ref (g.1 0))]) rfl dX6_come_31 (by decide) rfl ?_
    refine x_iconst (v := (0)) (by decide) dX6_come_32 ?_
    refine x_istore_n (lv' := [(2, .int 0), (1, .int v3), (0, .ref (g.1 0))]) rfl dX6_come_33 (by decide) rfl ?_
    refine x_iconst (v := (0)) (by decide) dX6_come_34 ?_
    refine x_istore_n (lv' := [(3, .int 0), (2, .int 0), (1, .int v3), (0, .ref (g.1 0))]) rfl dX6_come_35 (by decide) rfl ?_
    refine x_sub [3, 2, 1, 0] rfl ?_
    exact s_X6_come_l1 xF v3 0 0 im
  · refine x_aload_n (q := 0) rfl rfl dX6_come_7 ?_
    refine x_ldc co_X6_169 dX6_come_8 ?_
    refine x_bind (fun r8 er8 => ?_)
    refine x_callVI (av := [.int ((-1000005))]) (st := []) (m_X6_refuse  (((-1000005))) im r8 er8) sh_0 (by decide) rfl rfl (by decide) (by decide) lk_X6_72 cd_X6_refuse xd_X6_refuse rfl (Nat.le_of_ble_eq_true rfl) dX6_come_10 ?_
    exact x_iret rfl rfl dX6_come_13
theorem m_X6_come {g : GX}   (im : IM) (r : Int32 × IM) (hr : f_X6_come im = some r) : xMet g 5 yX6_come cX6_come 4 (some .int) [.ref (g.1 0)] im (eI r) := x_met (by decide) (Nat.le_of_ble_eq_true rfl) rfl (s_X6_come im) r hr
abbrev md_X6_isSetOfThings : xM := (1, 2, RX6, cX6_isSetOfThings, (some .boolean))
def f_X6_isSetOfThings (a1 : Int32) (im : IM) : Int32 :=
  (zb (f_X6_within a1 1 ((jshl 1 (im 1 4)) - 1)))
set_option maxRecDepth 20000 in
set_option maxHeartbeats 4000000 in
theorem s_X6_isSetOfThings {g : GX}  (a1 : Int32) (im : IM) : X g md_X6_isSetOfThings (eR im) 0 [(0, .ref (g.1 0)), (1, .int a1)] [] im (some (f_X6_isSetOfThings a1 im)) := by
  refine x_iload_n (q := 1) rfl rfl dX6_isSetOfThings_0 ?_
  refine x_iconst (v := (1)) (by decide) dX6_isSetOfThings_1 ?_
  refine x_iconst (v := (1)) (by decide) dX6_isSetOfThings_2 ?_
  refine x_aload_n (q := 0) rfl rfl dX6_isSetOfThings_3 ?_
  refine x_get (C := RX6) (T := TX6) sh_0 (by decide) rfl in_X6 0 (by decide) fl_X6_12 xf_6_0 dX6_isSetOfThings_4 ?_
  refine x_get (C := RX5) (T := TX5) sh_1 (by decide) rfl in_X5 4 (by decide) fl_X6_114 xf_5_4 dX6_isSetOfThings_7 ?_
  refine x_ishl dX6_isSetOfThings_10 ?_
  refine x_iconst (v := (1)) (by decide) dX6_isSetOfThings_11 ?_
  refine x_isub dX6_isSetOfThings_12 ?_
  refine x_callSR (av := [.int a1, .int 1, .int ((jshl 1 (im 1 4)) - 1)]) (st := []) (m_X6_within  a1 1 (((jshl 1 (im 1 4)) - 1)) im) rfl (by decide) (by decide) lk_X6_79 cd_X6_within xd_X6_within rfl (Nat.le_of_ble_eq_true rfl) dX6_isSetOfThings_13 ?_
  exact x_nret (y := zb (f_X6_within a1 1 ((jshl 1 (im 1 4)) - 1))) rfl rfl rfl dX6_isSetOfThings_16
theorem m_X6_isSetOfThings {g : GX}  (a1 : Int32) (im : IM) : xMet g 1 yX6_isSetOfThings cX6_isSetOfThings 2 (some .boolean) [.ref (g.1 0), .int a1] im ((eR im) (f_X6_isSetOfThings a1 im)) := x_met (by decide) (Nat.le_of_ble_eq_true rfl) rfl (s_X6_isSetOfThings a1 im) _ rfl
abbrev md_X6_pack : xM := (3, 2, RX6, cX6_pack, (some .int))
def f_X6_pack (a1 : Int32) (im : IM) : Option (Int32 × IM) :=
  if (f_X6_isSetOfThings a1 im) = 0 then
    (f_X6_refuse ((-1000001)) im).bind fun r2 =>
    some ((r2.1, r2.2))
  else
    (f_X0_leftSide 1 a1 im).bind fun r1 =>
    some ((r1.1, r1.2))
set_option maxRecDepth 20000 in
set_option maxHeartbeats 4000000 in
theorem s_X6_pack {g : GX}  (a1 : Int32) (im : IM) : X g md_X6_pack eI 0 [(0, .ref (g.1 0)), (1, .int a1)] [] im (f_X6_pack a1 im) := by
  refine x_aload_n (q := 0) rfl rfl dX6_pack_0 ?_
  refine x_iload_n (q := 1) rfl rfl dX6_pack_1 ?_
  refine x_callVR (av := [.int a1]) (st := []) (m_X6_isSetOfThings  a1 im) sh_0 (by decide) rfl rfl (by decide) (by decide) lk_X6_257 cd_X6_isSetOfThings xd_X6_isSetOfThings rfl (Nat.le_of_ble_eq_true rfl) dX6_pack_2 ?_
  refine x_if_ne (tgt := 15) dX6_pack_5 (by decide) ?_ ?_
  · refine x_aload_n (q := 0) rfl rfl dX6_pack_15 ?_
    refine x_get (C := RX6) (T := TX6) sh_0 (by decide) rfl in_X6 6 (by decide) fl_X6_39 xf_6_6 dX6_pack_16 ?_
    refine x_aload_n (q := 0) rfl rfl dX6_pack_19 ?_
    refine x_get (C := RX6) (T := TX6) sh_0 (by decide) rfl in_X6 0 (by decide) fl_X6_12 xf_6_0 dX6_pack_20 ?_
    refine x_iload_n (q := 1) rfl rfl dX6_pack_23 ?_
    refine x_bind (fun r1 er1 => ?_)
    refine x_callVI (av := [.ref (g.1 1), .int a1]) (st := []) (m_X0_leftSide xTo_c1 a1 im r1 er1) sh_63 (by decide) rfl rfl (by decide) (by decide) lk_X6_260 cd_X0_leftSide xd_X0_leftSide rfl (Nat.le_of_ble_eq_true rfl) dX6_pack_24 ?_
    exact x_iret rfl rfl dX6_pack_27
  · refine x_aload_n (q := 0) rfl rfl dX6_pack_8 ?_
    refine x_ldc co_X6_71 dX6_pack_9 ?_
    refine x_bind (fun r2 er2 => ?_)
    refine x_callVI (av := [.int ((-1000001))]) (st := []) (m_X6_refuse  (((-1000001))) im r2 er2) sh_0 (by decide) rfl rfl (by decide) (by decide) lk_X6_72 cd_X6_refuse xd_X6_refuse rfl (Nat.le_of_ble_eq_true rfl) dX6_pack_11 ?_
    exact x_iret rfl rfl dX6_pack_14
theorem m_X6_pack {g : GX}  (a1 : Int32) (im : IM) (r : Int32 × IM) (hr : f_X6_pack a1 im = some r) : xMet g 3 yX6_pack cX6_pack 2 (some .int) [.ref (g.1 0), .int a1] im (eI r) := x_met (by decide) (Nat.le_of_ble_eq_true rfl) rfl (s_X6_pack a1 im) r hr
abbrev md_X6_lean : xM := (3, 2, RX6, cX6_lean, (some .int))
def f_X6_lean (a1 : Int32) (im : IM) : Option (Int32 × IM) :=
  if (f_X6_isSetOfThings a1 im) = 0 then
    (f_X6_refuse ((-1000001)) im).bind fun r3 =>
    some ((r3.1, r3.2))
  else
    (f_X0_leftSide 1 a1 im).bind fun r1 =>
    (f_X0_difference a1 r1.1 r1.2).bind fun r2 =>
    some ((r2, r1.2))
set_option maxRecDepth 20000 in
set_option maxHeartbeats 4000000 in
theorem s_X6_lean {g : GX}  (a1 : Int32) (im : IM) : X g md_X6_lean eI 0 [(0, .ref (g.1 0)), (1, .int a1)] [] im (f_X6_lean a1 im) := by
  refine x_aload_n (q := 0) rfl rfl dX6_lean_0 ?_
  refine x_iload_n (q := 1) rfl rfl dX6_lean_1 ?_
  refine x_callVR (av := [.int a1]) (st := []) (m_X6_isSetOfThings  a1 im) sh_0 (by decide) rfl rfl (by decide) (by decide) lk_X6_257 cd_X6_isSetOfThings xd_X6_isSetOfThings rfl (Nat.le_of_ble_eq_true rfl) dX6_lean_2 ?_
  refine x_if_ne (tgt := 15) dX6_lean_5 (by decide) ?_ ?_
  · refine x_aload_n (q := 0) rfl rfl dX6_lean_15 ?_
    refine x_get (C := RX6) (T := TX6) sh_0 (by decide) rfl in_X6 6 (by decide) fl_X6_39 xf_6_6 dX6_lean_16 ?_
    refine x_iload_n (q := 1) rfl rfl dX6_lean_19 ?_
    refine x_aload_n (q := 0) rfl rfl dX6_lean_20 ?_
    refine x_get (C := RX6) (T := TX6) sh_0 (by decide) rfl in_X6 6 (by decide) fl_X6_39 xf_6_6 dX6_lean_21 ?_
    refine x_aload_n (q := 0) rfl rfl dX6_lean_24 ?_
    refine x_get (C := RX6) (T := TX6) sh_0 (by decide) rfl in_X6 0 (by decide) fl_X6_12 xf_6_0 dX6_lean_25 ?_
    refine x_iload_n (q := 1) rfl rfl dX6_lean_28 ?_
    refine x_bind (fun r1 er1 => ?_)
    refine x_callVI (av := [.ref (g.1 1), .int a1]) (st := [.int a1, .ref (g.1 63)]) (m_X0_leftSide xTo_c1 a1 im r1 er1) sh_63 (by decide) rfl rfl (by decide) (by decide) lk_X6_260 cd_X0_leftSide xd_X0_leftSide rfl (Nat.le_of_ble_eq_true rfl) dX6_lean_29 ?_
    refine x_bind (fun r2 er2 => ?_)
    refine x_callVR (av := [.int a1, .int r1.1]) (st := []) (m_X0_difference  a1 r1.1 r1.2 r2 er2) sh_63 (by decide) rfl rfl (by decide) (by decide) lk_X6_264 cd_X0_difference xd_X0_difference rfl (Nat.le_of_ble_eq_true rfl) dX6_lean_32 ?_
    exact x_iret rfl rfl dX6_lean_35
  · refine x_aload_n (q := 0) rfl rfl dX6_lean_8 ?_
    refine x_ldc co_X6_71 dX6_lean_9 ?_
    refine x_bind (fun r3 er3 => ?_)
    refine x_callVI (av := [.int ((-1000001))]) (st := []) (m_X6_refuse  (((-1000001))) im r3 er3) sh_0 (by decide) rfl rfl (by decide) (by decide) lk_X6_72 cd_X6_refuse xd_X6_refuse rfl (Nat.le_of_ble_eq_true rfl) dX6_lean_11 ?_
    exact x_iret rfl rfl dX6_lean_14
theorem m_X6_lean {g : GX}  (a1 : Int32) (im : IM) (r : Int32 × IM) (hr : f_X6_lean a1 im = some r) : xMet g 3 yX6_lean cX6_lean 2 (some .int) [.ref (g.1 0), .int a1] im (eI r) := x_met (by decide) (Nat.le_of_ble_eq_true rfl) rfl (s_X6_lean a1 im) r hr
abbrev md_X6_drums : xM := (3, 3, RX6, cX6_drums, (some .int))
def f_X6_drums_j1 (a1 : Int32) (a2 : Int32)   (im : IM) : Option (Int32 × IM) :=
  (f_X6_refuse ((-1000001)) im).bind fun r1 =>
  some ((r1.1, r1.2))
set_option maxRecDepth 20000 in
set_option maxHeartbeats 4000000 in
theorem s_X6_drums_j1 {g : GX} (a1 : Int32) (a2 : Int32)      (im : IM) : X g md_X6_drums eI 19 [(0, .ref (g.1 0))] [] im (f_X6_drums_j1 a1 a2 im) := by
  refine x_aload_n (q := 0) rfl rfl dX6_drums_19 ?_
  refine x_ldc co_X6_71 dX6_drums_20 ?_
  refine x_bind (fun r1 er1 => ?_)
  refine x_callVI (av := [.int ((-1000001))]) (st := []) (m_X6_refuse  (((-1000001))) im r1 er1) sh_0 (by decide) rfl rfl (by decide) (by decide) lk_X6_72 cd_X6_refuse xd_X6_refuse rfl (Nat.le_of_ble_eq_true rfl) dX6_drums_22 ?_
  exact x_iret rfl rfl dX6_drums_25
def f_X6_drums (a1 : Int32) (a2 : Int32) (im : IM) : Option (Int32 × IM) :=
  if (f_X6_isSetOfThings a1 im) = 0 then
    f_X6_drums_j1 a1 a2 im
  else
    if (f_X6_within a2 1 999) = 0 then
      f_X6_drums_j1 a1 a2 im
    else
      (f_X5_heaviest 1 a1 im).bind fun r2 =>
      if r2 ≤ a2 then
        (f_X0_fewestDrums 1 a1 a2 im).bind fun r3 =>
        some ((r3.1, r3.2))
      else
        (f_X6_refuse ((-1000004)) im).bind fun r4 =>
        some ((r4.1, r4.2))
set_option maxRecDepth 20000 in
set_option maxHeartbeats 4000000 in
theorem s_X6_drums {g : GX}   (a1 : Int32) (a2 : Int32) (im : IM) : X g md_X6_drums eI 0 [(0, .ref (g.1 0)), (1, .int a1), (2, .int a2)] [] im (f_X6_drums a1 a2 im) := by
  refine x_aload_n (q := 0) rfl rfl dX6_drums_0 ?_
  refine x_iload_n (q := 1) rfl rfl dX6_drums_1 ?_
  refine x_callVR (av := [.int a1]) (st := []) (m_X6_isSetOfThings  a1 im) sh_0 (by decide) rfl rfl (by decide) (by decide) lk_X6_257 cd_X6_isSetOfThings xd_X6_isSetOfThings rfl (Nat.le_of_ble_eq_true rfl) dX6_drums_2 ?_
  refine x_if_eq (tgt := 19) dX6_drums_5 (by decide) ?_ ?_
  · refine x_sub [0] rfl ?_
    exact s_X6_drums_j1 a1 a2 im
  · refine x_iload_n (q := 2) rfl rfl dX6_drums_8 ?_
    refine x_iconst (v := (1)) (by decide) dX6_drums_9 ?_
    refine x_sipush (v := (999)) (by decide) dX6_drums_10 ?_
    refine x_callSR (av := [.int a2, .int 1, .int 999]) (st := []) (m_X6_within  a2 1 999 im) rfl (by decide) (by decide) lk_X6_79 cd_X6_within xd_X6_within rfl (Nat.le_of_ble_eq_true rfl) dX6_drums_13 ?_
    refine x_if_ne (tgt := 26) dX6_drums_16 (by decide) ?_ ?_
    · refine x_aload_n (q := 0) rfl rfl dX6_drums_26 ?_
      refine x_get (C := RX6) (T := TX6) sh_0 (by decide) rfl in_X6 0 (by decide) fl_X6_12 xf_6_0 dX6_drums_27 ?_
      refine x_iload_n (q := 1) rfl rfl dX6_drums_30 ?_
      refine x_bind (fun r2 er2 => ?_)
      refine x_callVR (av := [.int a1]) (st := []) (m_X5_heaviest xTo_c1 a1 im r2 er2) sh_1 (by decide) rfl rfl (by decide) (by decide) lk_X6_268 cd_X5_heaviest xd_X5_heaviest rfl (Nat.le_of_ble_eq_true rfl) dX6_drums_31 ?_
      refine x_iload_n (q := 2) rfl rfl dX6_drums_34 ?_
      refine x_icmp_le (tgt := 45) dX6_drums_35 (by decide) ?_ ?_
      · refine x_aload_n (q := 0) rfl rfl dX6_drums_45 ?_
        refine x_get (C := RX6) (T := TX6) sh_0 (by decide) rfl in_X6 6 (by decide) fl_X6_39 xf_6_6 dX6_drums_46 ?_
        refine x_aload_n (q := 0) rfl rfl dX6_drums_49 ?_
        refine x_get (C := RX6) (T := TX6) sh_0 (by decide) rfl in_X6 0 (by decide) fl_X6_12 xf_6_0 dX6_drums_50 ?_
        refine x_iload_n (q := 1) rfl rfl dX6_drums_53 ?_
        refine x_iload_n (q := 2) rfl rfl dX6_drums_54 ?_
        refine x_bind (fun r3 er3 => ?_)
        refine x_callVI (av := [.ref (g.1 1), .int a1, .int a2]) (st := []) (m_X0_fewestDrums xTo_c1 a1 a2 im r3 er3) sh_63 (by decide) rfl rfl (by decide) (by decide) lk_X6_271 cd_X0_fewestDrums xd_X0_fewestDrums rfl (Nat.le_of_ble_eq_true rfl) dX6_drums_55 ?_
        exact x_iret rfl rfl dX6_drums_58
      · refine x_aload_n (q := 0) rfl rfl dX6_drums_38 ?_
        refine x_ldc co_X6_207 dX6_drums_39 ?_
        refine x_bind (fun r4 er4 => ?_)
        refine x_callVI (av := [.int ((-1000004))]) (st := []) (m_X6_refuse  (((-1000004))) im r4 er4) sh_0 (by decide) rfl rfl (by decide) (by decide) lk_X6_72 cd_X6_refuse xd_X6_refuse rfl (Nat.le_of_ble_eq_true rfl) dX6_drums_41 ?_
        exact x_iret rfl rfl dX6_drums_44
    · refine x_sub [0] rfl ?_
      exact s_X6_drums_j1 a1 a2 im
theorem m_X6_drums {g : GX}   (a1 : Int32) (a2 : Int32) (im : IM) (r : Int32 × IM) (hr : f_X6_drums a1 a2 im = some r) : xMet g 3 yX6_drums cX6_drums 3 (some .int) [.ref (g.1 0), .int a1, .int a2] im (eI r) := x_met (by decide) (Nat.le_of_ble_eq_true rfl) rfl (s_X6_drums a1 a2 im) r hr
abbrev md_X6_lineUpByNumber : xM := (3, 4, RX6, cX6_lineUpByNumber, (some .int))
def f_X6_lineUpByNumber_j2  (k12 : Int32 → Int32 → Int32 → IM → Option (Int32 × IM)) (x1 : Int32) (x2 : Int32) (x3 : Int32) (im : IM) : Option (Int32 × IM) :=
  bnd (x3 + 1) fun v2 =>
  k12 x1 x2 v2 im
set_option maxRecDepth 20000 in
set_option maxHeartbeats 4000000 in
theorem s_X6_lineUpByNumber_j2 {g : GX}  (k12 : Int32 → Int32 → Int32 → IM → Option (Int32 × IM)) (hk12 : ∀ (x1 : Int32) (x2 : Int32) (x3 : Int32) (im : IM), X g md_X6_lineUpByNumber eI 12 [(0, .ref (g.1 0)), (1, .int x1), (2, .int x2), (3, .int x3)] [] im (k12 x1 x2 x3 im)) (x1 : Int32) (x2 : Int32) (x3 : Int32)  (im : IM) : X g md_X6_lineUpByNumber eI 41 [(0, .ref (g.1 0)), (1, .int x1), (2, .int x2), (3, .int x3)] [] im (f_X6_lineUpByNumber_j2 k12 x1 x2 x3 im) := by
  refine x_iinc (q := 3) (a := 1) (lv' := fun v2 => [(3, .int v2), (0, .ref (g.1 0)), (1, .int x1), (2, .int x2)]) dX6_lineUpByNumber_41 rfl (by decide) (by decide) (fun _ => rfl) (fun v2 => ?_)
  refine x_goto (tgt := 12) dX6_lineUpByNumber_44 (by decide) ?_
  refine x_sub [1, 2, 3, 0] rfl ?_
  exact hk12 x1 x2 v2 im
def f_X6_lineUpByNumber_l1b    (k12 : Int32 → Int32 → Int32 → IM → Option (Int32 × IM)) (x1 : Int32) (x2 : Int32) (x3 : Int32) (im : IM) : Option (Int32 × IM) :=
  if (im 1 4) ≤ x3 then
    some ((x2, im))
  else
    if (f_X6_has x1 x3) = 0 then
      f_X6_lineUpByNumber_j2 k12 x1 x2 x3 im
    else
      if inb x2 10 = true then
        bnd (up im 65 (ix x2) x3) fun m3 =>
        bnd (x2 + 1) fun v4 =>
        f_X6_lineUpByNumber_j2 k12 x1 v4 x3 m3
      else none
def f_X6_lineUpByNumber_l1    : Nat → Int32 → Int32 → Int32 → IM → Option (Int32 × IM)
  | 0, _, _, _, _ => none
  | n + 1, x1, x2, x3, im => f_X6_lineUpByNumber_l1b (f_X6_lineUpByNumber_l1 n) x1 x2 x3 im
set_option maxRecDepth 20000 in
set_option maxHeartbeats 4000000 in
theorem s_X6_lineUpByNumber_l1b {g : GX}    (k12 : Int32 → Int32 → Int32 → IM → Option (Int32 × IM)) (hk12 : ∀ (x1 : Int32) (x2 : Int32) (x3 : Int32) (im : IM), X g md_X6_lineUpByNumber eI 12 [(0, .ref (g.1 0)), (1, .int x1), (2, .int x2), (3, .int x3)] [] im (k12 x1 x2 x3 im)) (x1 : Int32) (x2 : Int32) (x3 : Int32)  (im : IM) : X g md_X6_lineUpByNumber eI 12 [(0, .ref (g.1 0)), (1, .int x1), (2, .int x2), (3, .int x3)] [] im (f_X6_lineUpByNumber_l1b k12 x1 x2 x3 im) := by
  refine x_iload_n (q := 3) rfl rfl dX6_lineUpByNumber_12 ?_
  refine x_aload_n (q := 0) rfl rfl dX6_lineUpByNumber_13 ?_
  refine x_get (C := RX6) (T := TX6) sh_0 (by decide) rfl in_X6 0 (by decide) fl_X6_12 xf_6_0 dX6_lineUpByNumber_14 ?_
  refine x_get (C := RX5) (T := TX5) sh_1 (by decide) rfl in_X5 4 (by decide) fl_X6_114 xf_5_4 dX6_lineUpByNumber_17 ?_
  refine x_icmp_ge (tgt := 47) dX6_lineUpByNumber_20 (by decide) ?_ ?_
  · refine x_iload_n (q := 2) rfl rfl dX6_lineUpByNumber_47 ?_
    exact x_iret rfl rfl dX6_lineUpByNumber_48
  · refine x_iload_n (q := 1) rfl rfl dX6_lineUpByNumber_23 ?_
    refine x_iload_n (q := 3) rfl rfl dX6_lineUpByNumber_24 ?_
    refine x_callSR (av := [.int x1, .int x3]) (st := []) (m_X6_has  x1 x3 im) rfl (by decide) (by decide) lk_X6_253 cd_X6_has xd_X6_has rfl (Nat.le_of_ble_eq_true rfl) dX6_lineUpByNumber_25 ?_
    refine x_if_eq (tgt := 41) dX6_lineUpByNumber_28 (by decide) ?_ ?_
    · refine x_sub [0, 1, 2, 3] rfl ?_
      exact s_X6_lineUpByNumber_j2 k12 hk12 x1 x2 x3 im
    · refine x_aload_n (q := 0) rfl rfl dX6_lineUpByNumber_31 ?_
      refine x_get (C := RX6) (T := TX6) sh_0 (by decide) rfl in_X6 7 (by decide) fl_X6_43 xf_6_7 dX6_lineUpByNumber_32 ?_
      refine x_iload_n (q := 2) rfl rfl dX6_lineUpByNumber_35 ?_
      refine x_iload_n (q := 3) rfl rfl dX6_lineUpByNumber_36 ?_
      refine x_iast sh_65 dX6_lineUpByNumber_37 ?_
      refine x_bm (fun m3 => ?_)
      refine x_iinc (q := 2) (a := 1) (lv' := fun v4 => [(2, .int v4), (0, .ref (g.1 0)), (1, .int x1), (3, .int x3)]) dX6_lineUpByNumber_38 rfl (by decide) (by decide) (fun _ => rfl) (fun v4 => ?_)
      refine x_sub [1, 2, 0, 3] rfl ?_
      exact s_X6_lineUpByNumber_j2 k12 hk12 x1 v4 x3 m3
set_option maxRecDepth 20000 in
set_option maxHeartbeats 4000000 in
theorem s_X6_lineUpByNumber_l1 {g : GX}    (n : Nat) : ∀ (x1 : Int32) (x2 : Int32) (x3 : Int32) (im : IM), X g md_X6_lineUpByNumber eI 12 [(0, .ref (g.1 0)), (1, .int x1), (2, .int x2), (3, .int x3)] [] im (f_X6_lineUpByNumber_l1 n x1 x2 x3 im) := by
  induction n with
  | zero => intro x1 x2 x3 im; exact x_none
  | succ n ih => intro x1 x2 x3 im; exact s_X6_lineUpByNumber_l1b (f_X6_lineUpByNumber_l1 n) ih x1 x2 x3 im
def f_X6_lineUpByNumber  (im : IM) : Option (Int32 × IM) :=
  (f_X5_restingOnFoot 1 im).bind fun r1 =>
  f_X6_lineUpByNumber_l1 xF r1 0 0 im
set_option maxRecDepth 20000 in
set_option maxHeartbeats 4000000 in
theorem s_X6_lineUpByNumber {g : GX}   (im : IM) : X g md_X6_lineUpByNumber eI 0 [(0, .ref (g.1 0))] [] im (f_X6_lineUpByNumber im) := by
  refine x_aload_n (q := 0) rfl rfl dX6_lineUpByNumber_0 ?_
  refine x_get (C := RX6) (T := TX6) sh_0 (by decide) rfl in_X6 0 (by decide) fl_X6_12 xf_6_0 dX6_lineUpByNumber_1 ?_
  refine x_bind (fun r1 er1 => ?_)
  refine x_callVR (av := []) (st := []) (m_X5_restingOnFoot xTo_c1  im r1 er1) sh_1 (by decide) rfl rfl (by decide) (by decide) lk_X6_198 cd_X5_restingOnFoot xd_X5_restingOnFoot rfl (Nat.le_of_ble_eq_true rfl) dX6_lineUpByNumber_4 ?_
  refine x_istore_n (lv' := [(1, .int r1), (0, .ref (g.1 0))]) rfl dX6_lineUpByNumber_7 (by decide) rfl ?_
  refine x_iconst (v := (0)) (by decide) dX6_lineUpByNumber_8 ?_
  refine x_istore_n (lv' := [(2, .int 0), (1, .int r1), (0, .ref (g.1 0))]) rfl dX6_lineUpByNumber_9 (by decide) rfl ?_
  refine x_iconst (v := (0)) (by decide) dX6_lineUpByNumber_10 ?_
  refine x_istore_n (lv' := [(3, .int 0), (2, .int 0), (1, .int r1), (0, .ref (g.1 0))]) rfl dX6_lineUpByNumber_11 (by decide) rfl ?_
  refine x_sub [3, 2, 1, 0] rfl ?_
  exact s_X6_lineUpByNumber_l1 xF r1 0 0 im
theorem m_X6_lineUpByNumber {g : GX}   (im : IM) (r : Int32 × IM) (hr : f_X6_lineUpByNumber im = some r) : xMet g 3 yX6_lineUpByNumber cX6_lineUpByNumber 4 (some .int) [.ref (g.1 0)] im (eI r) := x_met (by decide) (Nat.le_of_ble_eq_true rfl) rfl (s_X6_lineUpByNumber im) r hr
abbrev md_X6_waitsOfQueue : xM := (1, 5, RX6, cX6_waitsOfQueue, (some .int))
def f_X6_waitsOfQueue_l1b (a1 : Int32)  (im : IM) (k7 : Int32 → Int32 → Int32 → Option (Int32)) (x2 : Int32) (x3 : Int32) (x4 : Int32)  : Option (Int32) :=
  if a1 ≤ x4 then
    some x3
  else
    if inb x4 10 = true then
      bnd (im 65 (ix x4)) fun v2 =>
      if inb v2 10 = true then
        bnd (x2 + (f_X4_wheelTime (6 + ix v2) im)) fun v3 =>
        bnd (x3 + v3) fun v4 =>
        bnd (x4 + 1) fun v5 =>
        k7 v3 v4 v5
      else none
    else none
def f_X6_waitsOfQueue_l1 (a1 : Int32)  (im : IM) : Nat → Int32 → Int32 → Int32 → Option (Int32)
  | 0, _, _, _ => none
  | n + 1, x2, x3, x4 => f_X6_waitsOfQueue_l1b a1 im (f_X6_waitsOfQueue_l1 a1 im n) x2 x3 x4
set_option maxRecDepth 20000 in
set_option maxHeartbeats 4000000 in
theorem s_X6_waitsOfQueue_l1b {g : GX} (a1 : Int32)   (im : IM)  (k7 : Int32 → Int32 → Int32 → Option (Int32)) (hk7 : ∀ (x2 : Int32) (x3 : Int32) (x4 : Int32), X g md_X6_waitsOfQueue (eR im) 7 [(0, .ref (g.1 0)), (1, .int a1), (2, .int x2), (3, .int x3), (4, .int x4)] [] im (k7 x2 x3 x4)) (x2 : Int32) (x3 : Int32) (x4 : Int32)  : X g md_X6_waitsOfQueue (eR im) 7 [(0, .ref (g.1 0)), (1, .int a1), (2, .int x2), (3, .int x3), (4, .int x4)] [] im (f_X6_waitsOfQueue_l1b a1 im k7 x2 x3 x4) := by
  refine x_iload (q := 4) rfl dX6_waitsOfQueue_7 ?_
  refine x_iload_n (q := 1) rfl rfl dX6_waitsOfQueue_9 ?_
  refine x_icmp_ge (tgt := 44) dX6_waitsOfQueue_10 (by decide) ?_ ?_
  · refine x_iload_n (q := 3) rfl rfl dX6_waitsOfQueue_44 ?_
    exact x_iret rfl rfl dX6_waitsOfQueue_45
  · refine x_iload_n (q := 2) rfl rfl dX6_waitsOfQueue_13 ?_
    refine x_aload_n (q := 0) rfl rfl dX6_waitsOfQueue_14 ?_
    refine x_get (C := RX6) (T := TX6) sh_0 (by decide) rfl in_X6 0 (by decide) fl_X6_12 xf_6_0 dX6_waitsOfQueue_15 ?_
    refine x_get (C := RX5) (T := TX5) sh_1 (by decide) rfl in_X5 2 (by decide) fl_X6_120 xf_5_2 dX6_waitsOfQueue_18 ?_
    refine x_aload_n (q := 0) rfl rfl dX6_waitsOfQueue_21 ?_
    refine x_get (C := RX6) (T := TX6) sh_0 (by decide) rfl in_X6 7 (by decide) fl_X6_43 xf_6_7 dX6_waitsOfQueue_22 ?_
    refine x_iload (q := 4) rfl dX6_waitsOfQueue_25 ?_
    refine x_iald sh_65 dX6_waitsOfQueue_27 ?_
    refine x_bi (fun v2 => ?_)
    refine x_aldT sh_4 dX6_waitsOfQueue_28 (fun hi1 => ?_)
    refine x_callVR (av := []) (st := [.int x2]) (m_X4_wheelTime (xTh xTo_c1 hi1)  im) (xTh xTo_c1 hi1) (by decide) rfl rfl (by decide) (by decide) lk_X6_284 cd_X4_wheelTime xd_X4_wheelTime rfl (Nat.le_of_ble_eq_true rfl) dX6_waitsOfQueue_29 ?_
    refine x_iadd dX6_waitsOfQueue_32 ?_
    refine x_bi (fun v3 => ?_)
    refine x_istore_n (lv' := [(2, .int v3), (0, .ref (g.1 0)), (1, .int a1), (3, .int x3), (4, .int x4)]) rfl dX6_waitsOfQueue_33 (by decide) rfl ?_
    refine x_iload_n (q := 3) rfl rfl dX6_waitsOfQueue_34 ?_
    refine x_iload_n (q := 0) rfl rfl dX6_waitsOfQueue_35 ?_
    refine x_iadd dX6_waitsOfQueue_36 ?_
    refine x_bi (fun v4 => ?_)
    refine x_istore_n (lv' := [(3, .int v4), (2, .int v3), (0, .ref (g.1 0)), (1, .int a1), (4, .int x4)]) rfl dX6_waitsOfQueue_37 (by decide) rfl ?_
    refine x_iinc (q := 4) (a := 1) (lv' := fun v5 => [(4, .int v5), (3, .int v4), (2, .int v3), (0, .ref (g.1 0)), (1, .int a1)]) dX6_waitsOfQueue_38 rfl (by decide) (by decide) (fun _ => rfl) (fun v5 => ?_)
    refine x_goto (tgt := 7) dX6_waitsOfQueue_41 (by decide) ?_
    refine x_sub [3, 4, 2, 1, 0] rfl ?_
    exact hk7 v3 v4 v5
set_option maxRecDepth 20000 in
set_option maxHeartbeats 4000000 in
theorem s_X6_waitsOfQueue_l1 {g : GX} (a1 : Int32)   (im : IM)  (n : Nat) : ∀ (x2 : Int32) (x3 : Int32) (x4 : Int32), X g md_X6_waitsOfQueue (eR im) 7 [(0, .ref (g.1 0)), (1, .int a1), (2, .int x2), (3, .int x3), (4, .int x4)] [] im (f_X6_waitsOfQueue_l1 a1 im n x2 x3 x4) := by
  induction n with
  | zero => intro x2 x3 x4; exact x_none
  | succ n ih => intro x2 x3 x4; exact s_X6_waitsOfQueue_l1b a1 im (f_X6_waitsOfQueue_l1 a1 im n) ih x2 x3 x4
def f_X6_waitsOfQueue (a1 : Int32) (im : IM) : Option (Int32) :=
  f_X6_waitsOfQueue_l1 a1 im xF 0 0 0
set_option maxRecDepth 20000 in
set_option maxHeartbeats 4000000 in
theorem s_X6_waitsOfQueue {g : GX}  (a1 : Int32) (im : IM) : X g md_X6_waitsOfQueue (eR im) 0 [(0, .ref (g.1 0)), (1, .int a1)] [] im (f_X6_waitsOfQueue a1 im) := by
  refine x_iconst (v := (0)) (by decide) dX6_waitsOfQueue_0 ?_
  refine x_istore_n (lv' := [(2, .int 0), (0, .ref (g.1 0)), (1, .int a1)]) rfl dX6_waitsOfQueue_1 (by decide) rfl ?_
  refine x_iconst (v := (0)) (by decide) dX6_waitsOfQueue_2 ?_
  refine x_istore_n (lv' := [(3, .int 0), (2, .int 0), (0, .ref (g.1 0)), (1, .int a1)]) rfl dX6_waitsOfQueue_3 (by decide) rfl ?_
  refine x_iconst (v := (0)) (by decide) dX6_waitsOfQueue_4 ?_
  refine x_istore (lv' := [(4, .int 0), (3, .int 0), (2, .int 0), (0, .ref (g.1 0)), (1, .int a1)]) dX6_waitsOfQueue_5 (by decide) rfl ?_
  refine x_sub [3, 4, 2, 1, 0] rfl ?_
  exact s_X6_waitsOfQueue_l1 a1 im xF 0 0 0
theorem m_X6_waitsOfQueue {g : GX}  (a1 : Int32) (im : IM) (r : Int32) (hr : f_X6_waitsOfQueue a1 im = some r) : xMet g 1 yX6_waitsOfQueue cX6_waitsOfQueue 5 (some .int) [.ref (g.1 0), .int a1] im ((eR im) r) := x_met (by decide) (Nat.le_of_ble_eq_true rfl) rfl (s_X6_waitsOfQueue a1 im) r hr
abbrev md_X6_waits : xM := (4, 1, RX6, cX6_waits, (some .int))
def f_X6_waits  (im : IM) : Option (Int32 × IM) :=
  (f_X6_lineUpByNumber im).bind fun r1 =>
  (f_X6_waitsOfQueue r1.1 r1.2).bind fun r2 =>
  some ((r2, r1.2))
set_option maxRecDepth 20000 in
set_option maxHeartbeats 4000000 in
theorem s_X6_waits {g : GX}   (im : IM) : X g md_X6_waits eI 0 [(0, .ref (g.1 0))] [] im (f_X6_waits im) := by
  refine x_aload_n (q := 0) rfl rfl dX6_waits_0 ?_
  refine x_aload_n (q := 0) rfl rfl dX6_waits_1 ?_
  refine x_bind (fun r1 er1 => ?_)
  refine x_callVI (av := []) (st := [.ref (g.1 0)]) (m_X6_lineUpByNumber   im r1 er1) sh_0 (by decide) rfl rfl (by decide) (by decide) lk_X6_275 cd_X6_lineUpByNumber xd_X6_lineUpByNumber rfl (Nat.le_of_ble_eq_true rfl) dX6_waits_2 ?_
  refine x_bind (fun r2 er2 => ?_)
  refine x_callVR (av := [.int r1.1]) (st := []) (m_X6_waitsOfQueue  r1.1 r1.2 r2 er2) sh_0 (by decide) rfl rfl (by decide) (by decide) lk_X6_278 cd_X6_waitsOfQueue xd_X6_waitsOfQueue rfl (Nat.le_of_ble_eq_true rfl) dX6_waits_5 ?_
  exact x_iret rfl rfl dX6_waits_8
theorem m_X6_waits {g : GX}   (im : IM) (r : Int32 × IM) (hr : f_X6_waits im = some r) : xMet g 4 yX6_waits cX6_waits 1 (some .int) [.ref (g.1 0)] im (eI r) := x_met (by decide) (Nat.le_of_ble_eq_true rfl) rfl (s_X6_waits im) r hr
abbrev md_X6_lineUpByWeight : xM := (4, 5, RX6, cX6_lineUpByWeight, (some .int))
def f_X6_lineUpByWeight_j3  (k7 : Int32 → Int32 → IM → Option (Int32 × IM)) (x1 : Int32) (x2 : Int32) (x3 : Int32) (x4 : Int32) (im : IM) : Option (Int32 × IM) :=
  if inb x4 10 = true then
    bnd (up im 65 (ix x4) x3) fun m3 =>
    bnd (x2 + 1) fun v4 =>
    k7 x1 v4 m3
  else none
set_option maxRecDepth 20000 in
set_option maxHeartbeats 4000000 in
theorem s_X6_lineUpByWeight_j3 {g : GX}  (k7 : Int32 → Int32 → IM → Option (Int32 × IM)) (hk7 : ∀ (x1 : Int32) (x2 : Int32) (im : IM), X g md_X6_lineUpByWeight eI 7 [(0, .ref (g.1 0)), (1, .int x1), (2, .int x2)] [] im (k7 x1 x2 im)) (x1 : Int32) (x2 : Int32) (x3 : Int32) (x4 : Int32)  (im : IM) : X g md_X6_lineUpByWeight eI 84 [(0, .ref (g.1 0)), (1, .int x1), (2, .int x2), (3, .int x3), (4, .int x4)] [] im (f_X6_lineUpByWeight_j3 k7 x1 x2 x3 x4 im) := by
  refine x_aload_n (q := 0) rfl rfl dX6_lineUpByWeight_84 ?_
  refine x_get (C := RX6) (T := TX6) sh_0 (by decide) rfl in_X6 7 (by decide) fl_X6_43 xf_6_7 dX6_lineUpByWeight_85 ?_
  refine x_iload (q := 4) rfl dX6_lineUpByWeight_88 ?_
  refine x_iload_n (q := 3) rfl rfl dX6_lineUpByWeight_90 ?_
  refine x_iast sh_65 dX6_lineUpByWeight_91 ?_
  refine x_bm (fun m3 => ?_)
  refine x_iinc (q := 2) (a := 1) (lv' := fun v4 => [(2, .int v4), (0, .ref (g.1 0)), (1, .int x1), (3, .int x3), (4, .int x4)]) dX6_lineUpByWeight_92 rfl (by decide) (by decide) (fun _ => rfl) (fun v4 => ?_)
  refine x_goto (tgt := 7) dX6_lineUpByWeight_95 (by decide) ?_
  refine x_sub [1, 2, 0] rfl ?_
  exact hk7 x1 v4 m3
def f_X6_lineUpByWeight_l2b  (k7 : Int32 → Int32 → IM → Option (Int32 × IM))  (k22 : Int32 → Int32 → Int32 → Int32 → IM → Option (Int32 × IM)) (x1 : Int32) (x2 : Int32) (x3 : Int32) (x4 : Int32) (im : IM) : Option (Int32 × IM) :=
  if x4 ≤ 0 then
    f_X6_lineUpByWeight_j3 k7 x1 x2 x3 x4 im
  else
    if inb (x4 - 1) 10 = true then
      bnd (im 65 (ix (x4 - 1))) fun v6 =>
      if inb v6 10 = true then
        if inb x3 10 = true then
          if (im (6 + ix v6) 1) ≤ (im (6 + ix x3) 1) then
            f_X6_lineUpByWeight_j3 k7 x1 x2 x3 x4 im
          else
            if inb (x4 - 1) 10 = true then
              if inb x4 10 = true then
                bnd (up im 65 (ix x4) (im 65 (ix (x4 - 1)))) fun m8 =>
                bnd (x4 + (-1)) fun v9 =>
                k22 x1 x2 x3 v9 m8
              else none
            else none
        else none
      else none
    else none
def f_X6_lineUpByWeight_l2  (k7 : Int32 → Int32 → IM → Option (Int32 × IM))  : Nat → Int32 → Int32 → Int32 → Int32 → IM → Option (Int32 × IM)
  | 0, _, _, _, _, _ => none
  | n + 1, x1, x2, x3, x4, im => f_X6_lineUpByWeight_l2b k7 (f_X6_lineUpByWeight_l2 k7 n) x1 x2 x3 x4 im
set_option maxRecDepth 20000 in
set_option maxHeartbeats 4000000 in
theorem s_X6_lineUpByWeight_l2b {g : GX}  (k7 : Int32 → Int32 → IM → Option (Int32 × IM)) (hk7 : ∀ (x1 : Int32) (x2 : Int32) (im : IM), X g md_X6_lineUpByWeight eI 7 [(0, .ref (g.1 0)), (1, .int x1), (2, .int x2)] [] im (k7 x1 x2 im)) (k22 : Int32 → Int32 → Int32 → Int32 → IM → Option (Int32 × IM)) (hk22 : ∀ (x1 : Int32) (x2 : Int32) (x3 : Int32) (x4 : Int32) (im : IM), X g md_X6_lineUpByWeight eI 22 [(0, .ref (g.1 0)), (1, .int x1), (2, .int x2), (3, .int x3), (4, .int x4)] [] im (k22 x1 x2 x3 x4 im)) (x1 : Int32) (x2 : Int32) (x3 : Int32) (x4 : Int32)  (im : IM) : X g md_X6_lineUpByWeight eI 22 [(0, .ref (g.1 0)), (1, .int x1), (2, .int x2), (3, .int x3), (4, .int x4)] [] im (f_X6_lineUpByWeight_l2b k7 k22 x1 x2 x3 x4 im) := by
  refine x_iload (q := 4) rfl dX6_lineUpByWeight_22 ?_
  refine x_if_le (tgt := 84) dX6_lineUpByWeight_24 (by decide) ?_ ?_
  · refine x_sub [0, 1, 2, 3, 4] rfl ?_
    exact s_X6_lineUpByWeight_j3 k7 hk7 x1 x2 x3 x4 im
  · refine x_aload_n (q := 0) rfl rfl dX6_lineUpByWeight_27 ?_
    refine x_get (C := RX6) (T := TX6) sh_0 (by decide) rfl in_X6 0 (by decide) fl_X6_12 xf_6_0 dX6_lineUpByWeight_28 ?_
    refine x_get (C := RX5) (T := TX5) sh_1 (by decide) rfl in_X5 2 (by decide) fl_X6_120 xf_5_2 dX6_lineUpByWeight_31 ?_
    refine x_aload_n (q := 0) rfl rfl dX6_lineUpByWeight_34 ?_
    refine x_get (C := RX6) (T := TX6) sh_0 (by decide) rfl in_X6 7 (by decide) fl_X6_43 xf_6_7 dX6_lineUpByWeight_35 ?_
    refine x_iload (q := 4) rfl dX6_lineUpByWeight_38 ?_
    refine x_iconst (v := (1)) (by decide) dX6_lineUpByWeight_40 ?_
    refine x_isub dX6_lineUpByWeight_41 ?_
    refine x_iald sh_65 dX6_lineUpByWeight_42 ?_
    refine x_bi (fun v6 => ?_)
    refine x_aldT sh_4 dX6_lineUpByWeight_43 (fun hi5 => ?_)
    refine x_get (C := RX4) (T := TX4) (xTh xTo_c1 hi5) (by decide) rfl in_X4 1 (by decide) fl_X6_129 xf_4_1 dX6_lineUpByWeight_44 ?_
    refine x_aload_n (q := 0) rfl rfl dX6_lineUpByWeight_47 ?_
    refine x_get (C := RX6) (T := TX6) sh_0 (by decide) rfl in_X6 0 (by decide) fl_X6_12 xf_6_0 dX6_lineUpByWeight_48 ?_
    refine x_get (C := RX5) (T := TX5) sh_1 (by decide) rfl in_X5 2 (by decide) fl_X6_120 xf_5_2 dX6_lineUpByWeight_51 ?_
    refine x_iload_n (q := 3) rfl rfl dX6_lineUpByWeight_54 ?_
    refine x_aldT sh_4 dX6_lineUpByWeight_55 (fun hi7 => ?_)
    refine x_get (C := RX4) (T := TX4) (xTh xTo_c1 hi7) (by decide) rfl in_X4 1 (by decide) fl_X6_129 xf_4_1 dX6_lineUpByWeight_56 ?_
    refine x_icmp_le (tgt := 84) dX6_lineUpByWeight_59 (by decide) ?_ ?_
    · refine x_sub [0, 1, 2, 3, 4] rfl ?_
      exact s_X6_lineUpByWeight_j3 k7 hk7 x1 x2 x3 x4 im
    · refine x_aload_n (q := 0) rfl rfl dX6_lineUpByWeight_62 ?_
      refine x_get (C := RX6) (T := TX6) sh_0 (by decide) rfl in_X6 7 (by decide) fl_X6_43 xf_6_7 dX6_lineUpByWeight_63 ?_
      refine x_iload (q := 4) rfl dX6_lineUpByWeight_66 ?_
      refine x_aload_n (q := 0) rfl rfl dX6_lineUpByWeight_68 ?_
      refine x_get (C := RX6) (T := TX6) sh_0 (by decide) rfl in_X6 7 (by decide) fl_X6_43 xf_6_7 dX6_lineUpByWeight_69 ?_
      refine x_iload (q := 4) rfl dX6_lineUpByWeight_72 ?_
      refine x_iconst (v := (1)) (by decide) dX6_lineUpByWeight_74 ?_
      refine x_isub dX6_lineUpByWeight_75 ?_
      refine x_iald sh_65 dX6_lineUpByWeight_76 ?_
      refine x_iast sh_65 dX6_lineUpByWeight_77 ?_
      refine x_bm (fun m8 => ?_)
      refine x_iinc (q := 4) (a := (-1)) (lv' := fun v9 => [(4, .int v9), (0, .ref (g.1 0)), (1, .int x1), (2, .int x2), (3, .int x3)]) dX6_lineUpByWeight_78 rfl (by decide) (by decide) (fun _ => rfl) (fun v9 => ?_)
      refine x_goto (tgt := 22) dX6_lineUpByWeight_81 (by decide) ?_
      refine x_sub [1, 2, 3, 4, 0] rfl ?_
      exact hk22 x1 x2 x3 v9 m8
set_option maxRecDepth 20000 in
set_option maxHeartbeats 4000000 in
theorem s_X6_lineUpByWeight_l2 {g : GX}  (k7 : Int32 → Int32 → IM → Option (Int32 × IM)) (hk7 : ∀ (x1 : Int32) (x2 : Int32) (im : IM), X g md_X6_lineUpByWeight eI 7 [(0, .ref (g.1 0)), (1, .int x1), (2, .int x2)] [] im (k7 x1 x2 im)) (n : Nat) : ∀ (x1 : Int32) (x2 : Int32) (x3 : Int32) (x4 : Int32) (im : IM), X g md_X6_lineUpByWeight eI 22 [(0, .ref (g.1 0)), (1, .int x1), (2, .int x2), (3, .int x3), (4, .int x4)] [] im (f_X6_lineUpByWeight_l2 k7 n x1 x2 x3 x4 im) := by
  induction n with
  | zero => intro x1 x2 x3 x4 im; exact x_none
  | succ n ih => intro x1 x2 x3 x4 im; exact s_X6_lineUpByWeight_l2b k7 hk7 (f_X6_lineUpByWeight_l2 k7 n) ih x1 x2 x3 x4 im
def f_X6_lineUpByWeight_l1b    (k7 : Int32 → Int32 → IM → Option (Int32 × IM)) (x1 : Int32) (x2 : Int32) (im : IM) : Option (Int32 × IM) :=
  if x1 ≤ x2 then
    some ((x1, im))
  else
    if inb x2 10 = true then
      bnd (im 65 (ix x2)) fun v2 =>
      f_X6_lineUpByWeight_l2 k7 xF x1 x2 v2 x2 im
    else none
def f_X6_lineUpByWeight_l1    : Nat → Int32 → Int32 → IM → Option (Int32 × IM)
  | 0, _, _, _ => none
  | n + 1, x1, x2, im => f_X6_lineUpByWeight_l1b (f_X6_lineUpByWeight_l1 n) x1 x2 im
set_option maxRecDepth 20000 in
set_option maxHeartbeats 4000000 in
theorem s_X6_lineUpByWeight_l1b {g : GX}    (k7 : Int32 → Int32 → IM → Option (Int32 × IM)) (hk7 : ∀ (x1 : Int32) (x2 : Int32) (im : IM), X g md_X6_lineUpByWeight eI 7 [(0, .ref (g.1 0)), (1, .int x1), (2, .int x2)] [] im (k7 x1 x2 im)) (x1 : Int32) (x2 : Int32)  (im : IM) : X g md_X6_lineUpByWeight eI 7 [(0, .ref (g.1 0)), (1, .int x1), (2, .int x2)] [] im (f_X6_lineUpByWeight_l1b k7 x1 x2 im) := by
  refine x_iload_n (q := 2) rfl rfl dX6_lineUpByWeight_7 ?_
  refine x_iload_n (q := 1) rfl rfl dX6_lineUpByWeight_8 ?_
  refine x_icmp_ge (tgt := 98) dX6_lineUpByWeight_9 (by decide) ?_ ?_
  · refine x_iload_n (q := 1) rfl rfl dX6_lineUpByWeight_98 ?_
    exact x_iret rfl rfl dX6_lineUpByWeight_99
  · refine x_aload_n (q := 0) rfl rfl dX6_lineUpByWeight_12 ?_
    refine x_get (C := RX6) (T := TX6) sh_0 (by decide) rfl in_X6 7 (by decide) fl_X6_43 xf_6_7 dX6_lineUpByWeight_13 ?_
    refine x_iload_n (q := 2) rfl rfl dX6_lineUpByWeight_16 ?_
    refine x_iald sh_65 dX6_lineUpByWeight_17 ?_
    refine x_bi (fun v2 => ?_)
    refine x_istore_n (lv' := [(3, .int v2), (0, .ref (g.1 0)), (1, .int x1), (2, .int x2)]) rfl dX6_lineUpByWeight_18 (by decide) rfl ?_
    refine x_iload_n (q := 3) rfl rfl dX6_lineUpByWeight_19 ?_
    refine x_istore (lv' := [(4, .int x2), (3, .int v2), (0, .ref (g.1 0)), (1, .int x1), (2, .int x2)]) dX6_lineUpByWeight_20 (by decide) rfl ?_
    refine x_sub [2, 3, 4, 1, 0] rfl ?_
    exact s_X6_lineUpByWeight_l2 k7 hk7 xF x1 x2 v2 x2 im
set_option maxRecDepth 20000 in
set_option maxHeartbeats 4000000 in
theorem s_X6_lineUpByWeight_l1 {g : GX}    (n : Nat) : ∀ (x1 : Int32) (x2 : Int32) (im : IM), X g md_X6_lineUpByWeight eI 7 [(0, .ref (g.1 0)), (1, .int x1), (2, .int x2)] [] im (f_X6_lineUpByWeight_l1 n x1 x2 im) := by
  induction n with
  | zero => intro x1 x2 im; exact x_none
  | succ n ih => intro x1 x2 im; exact s_X6_lineUpByWeight_l1b (f_X6_lineUpByWeight_l1 n) ih x1 x2 im
def f_X6_lineUpByWeight  (im : IM) : Option (Int32 × IM) :=
  (f_X6_lineUpByNumber im).bind fun r1 =>
  f_X6_lineUpByWeight_l1 xF r1.1 1 r1.2
set_option maxRecDepth 20000 in
set_option maxHeartbeats 4000000 in
theorem s_X6_lineUpByWeight {g : GX}   (im : IM) : X g md_X6_lineUpByWeight eI 0 [(0, .ref (g.1 0))] [] im (f_X6_lineUpByWeight im) := by
  refine x_aload_n (q := 0) rfl rfl dX6_lineUpByWeight_0 ?_
  refine x_bind (fun r1 er1 => ?_)
  refine x_callVI (av := []) (st := []) (m_X6_lineUpByNumber   im r1 er1) sh_0 (by decide) rfl rfl (by decide) (by decide) lk_X6_275 cd_X6_lineUpByNumber xd_X6_lineUpByNumber rfl (Nat.le_of_ble_eq_true rfl) dX6_lineUpByWeight_1 ?_
  refine x_istore_n (lv' := [(1, .int r1.1), (0, .ref (g.1 0))]) rfl dX6_lineUpByWeight_4 (by decide) rfl ?_
  refine x_iconst (v := (1)) (by decide) dX6_lineUpByWeight_5 ?_
  refine x_istore_n (lv' := [(2, .int 1), (1, .int r1.1), (0, .ref (g.1 0))]) rfl dX6_lineUpByWeight_6 (by decide) rfl ?_
  refine x_sub [2, 1, 0] rfl ?_
  exact s_X6_lineUpByWeight_l1 xF r1.1 1 r1.2
theorem m_X6_lineUpByWeight {g : GX}   (im : IM) (r : Int32 × IM) (hr : f_X6_lineUpByWeight im = some r) : xMet g 4 yX6_lineUpByWeight cX6_lineUpByWeight 5 (some .int) [.ref (g.1 0)] im (eI r) := x_met (by decide) (Nat.le_of_ble_eq_true rfl) rfl (s_X6_lineUpByWeight im) r hr
abbrev md_X6_least : xM := (5, 1, RX6, cX6_least, (some .int))
def f_X6_least  (im : IM) : Option (Int32 × IM) :=
  (f_X6_lineUpByWeight im).bind fun r1 =>
  (f_X6_waitsOfQueue r1.1 r1.2).bind fun r2 =>
  some ((r2, r1.2))
set_option maxRecDepth 20000 in
set_option maxHeartbeats 4000000 in
theorem s_X6_least {g : GX}   (im : IM) : X g md_X6_least eI 0 [(0, .ref (g.1 0))] [] im (f_X6_least im) := by
  refine x_aload_n (q := 0) rfl rfl dX6_least_0 ?_
  refine x_aload_n (q := 0) rfl rfl dX6_least_1 ?_
  refine x_bind (fun r1 er1 => ?_)
  refine x_callVI (av := []) (st := [.ref (g.1 0)]) (m_X6_lineUpByWeight   im r1 er1) sh_0 (by decide) rfl rfl (by decide) (by decide) lk_X6_281 cd_X6_lineUpByWeight xd_X6_lineUpByWeight rfl (Nat.le_of_ble_eq_true rfl) dX6_least_2 ?_
  refine x_bind (fun r2 er2 => ?_)
  refine x_callVR (av := [.int r1.1]) (st := []) (m_X6_waitsOfQueue  r1.1 r1.2 r2 er2) sh_0 (by decide) rfl rfl (by decide) (by decide) lk_X6_278 cd_X6_waitsOfQueue xd_X6_waitsOfQueue rfl (Nat.le_of_ble_eq_true rfl) dX6_least_5 ?_
  exact x_iret rfl rfl dX6_least_8
theorem m_X6_least {g : GX}   (im : IM) (r : Int32 × IM) (hr : f_X6_least im = some r) : xMet g 5 yX6_least cX6_least 1 (some .int) [.ref (g.1 0)] im (eI r) := x_met (by decide) (Nat.le_of_ble_eq_true rfl) rfl (s_X6_least im) r hr
abbrev md_X6_order : xM := (5, 2, RX6, cX6_order, (some .int))
def f_X6_order (a1 : Int32) (im : IM) : Option (Int32 × IM) :=
  if (f_X6_within a1 0 9) = 0 then
    (f_X6_refuse ((-1000001)) im).bind fun r3 =>
    some ((r3.1, r3.2))
  else
    (f_X6_lineUpByWeight im).bind fun r1 =>
    if r1.1 ≤ a1 then
      (f_X6_refuse ((-1000004)) r1.2).bind fun r2 =>
      some ((r2.1, r2.2))
    else
      if inb a1 10 = true then
        some ((r1.2 65 (ix a1), r1.2))
      else none
set_option maxRecDepth 20000 in
set_option maxHeartbeats 4000000 in
theorem s_X6_order {g : GX}  (a1 : Int32) (im : IM) : X g md_X6_order eI 0 [(0, .ref (g.1 0)), (1, .int a1)] [] im (f_X6_order a1 im) := by
  refine x_iload_n (q := 1) rfl rfl dX6_order_0 ?_
  refine x_iconst (v := (0)) (by decide) dX6_order_1 ?_
  refine x_bipush (v := (9)) (by decide) dX6_order_2 ?_
  refine x_callSR (av := [.int a1, .int 0, .int 9]) (st := []) (m_X6_within  a1 0 9 im) rfl (by decide) (by decide) lk_X6_79 cd_X6_within xd_X6_within rfl (Nat.le_of_ble_eq_true rfl) dX6_order_4 ?_
  refine x_if_ne (tgt := 17) dX6_order_7 (by decide) ?_ ?_
  · refine x_iload_n (q := 1) rfl rfl dX6_order_17 ?_
    refine x_aload_n (q := 0) rfl rfl dX6_order_18 ?_
    refine x_bind (fun r1 er1 => ?_)
    refine x_callVI (av := []) (st := [.int a1]) (m_X6_lineUpByWeight   im r1 er1) sh_0 (by decide) rfl rfl (by decide) (by decide) lk_X6_281 cd_X6_lineUpByWeight xd_X6_lineUpByWeight rfl (Nat.le_of_ble_eq_true rfl) dX6_order_19 ?_
    refine x_icmp_ge (tgt := 34) dX6_order_22 (by decide) ?_ ?_
    · refine x_aload_n (q := 0) rfl rfl dX6_order_34 ?_
      refine x_ldc co_X6_207 dX6_order_35 ?_
      refine x_bind (fun r2 er2 => ?_)
      refine x_callVI (av := [.int ((-1000004))]) (st := []) (m_X6_refuse  (((-1000004))) r1.2 r2 er2) sh_0 (by decide) rfl rfl (by decide) (by decide) lk_X6_72 cd_X6_refuse xd_X6_refuse rfl (Nat.le_of_ble_eq_true rfl) dX6_order_37 ?_
      exact x_iret rfl rfl dX6_order_40
    · refine x_aload_n (q := 0) rfl rfl dX6_order_25 ?_
      refine x_get (C := RX6) (T := TX6) sh_0 (by decide) rfl in_X6 7 (by decide) fl_X6_43 xf_6_7 dX6_order_26 ?_
      refine x_iload_n (q := 1) rfl rfl dX6_order_29 ?_
      refine x_iald sh_65 dX6_order_30 ?_
      refine x_goto (tgt := 40) dX6_order_31 (by decide) ?_
      exact x_iret rfl rfl dX6_order_40
  · refine x_aload_n (q := 0) rfl rfl dX6_order_10 ?_
    refine x_ldc co_X6_71 dX6_order_11 ?_
    refine x_bind (fun r3 er3 => ?_)
    refine x_callVI (av := [.int ((-1000001))]) (st := []) (m_X6_refuse  (((-1000001))) im r3 er3) sh_0 (by decide) rfl rfl (by decide) (by decide) lk_X6_72 cd_X6_refuse xd_X6_refuse rfl (Nat.le_of_ble_eq_true rfl) dX6_order_13 ?_
    exact x_iret rfl rfl dX6_order_16
theorem m_X6_order {g : GX}  (a1 : Int32) (im : IM) (r : Int32 × IM) (hr : f_X6_order a1 im = some r) : xMet g 5 yX6_order cX6_order 2 (some .int) [.ref (g.1 0), .int a1] im (eI r) := x_met (by decide) (Nat.le_of_ble_eq_true rfl) rfl (s_X6_order a1 im) r hr
abbrev md_X6_wheel : xM := (5, 5, RX6, cX6_wheel, (some .int))
def f_X6_wheel_j2 (a1 : Int32)  (x4 : Int32) (im : IM) : Option (Int32 × IM) :=
  some ((x4, im))
set_option maxRecDepth 20000 in
set_option maxHeartbeats 4000000 in
theorem s_X6_wheel_j2 {g : GX} (a1 : Int32)    (x4 : Int32)  (im : IM) : X g md_X6_wheel eI 102 [(4, .int x4)] [] im (f_X6_wheel_j2 a1 x4 im) := by
  refine x_iload (q := 0) rfl dX6_wheel_102 ?_
  exact x_iret rfl rfl dX6_wheel_104
def f_X6_wheel_l1b (a1 : Int32)   (k28 : Int32 → Int32 → Int32 → IM → Option (Int32 × IM)) (x2 : Int32) (x3 : Int32) (x4 : Int32) (im : IM) : Option (Int32 × IM) :=
  if x2 ≤ x4 then
    f_X6_wheel_j2 a1 x4 im
  else
    if inb x4 10 = true then
      bnd (im 65 (ix x4)) fun v3 =>
      if inb v3 10 = true then
        if x3 < (f_X4_wheelTime (6 + ix v3) im) then
          f_X6_wheel_j2 a1 x4 im
        else
          if inb x4 10 = true then
            bnd (im 65 (ix x4)) fun v5 =>
            if inb v5 10 = true then
              bnd (x3 - (f_X4_wheelTime (6 + ix v5) im)) fun v6 =>
              if inb x4 10 = true then
                bnd (im 65 (ix x4)) fun v8 =>
                if inb v8 10 = true then
                  bnd (up im (6 + ix v8) 6 3) fun m9 =>
                  bnd (x4 + 1) fun v10 =>
                  k28 x2 v6 v10 m9
                else none
              else none
            else none
          else none
      else none
    else none
def f_X6_wheel_l1 (a1 : Int32)   : Nat → Int32 → Int32 → Int32 → IM → Option (Int32 × IM)
  | 0, _, _, _, _ => none
  | n + 1, x2, x3, x4, im => f_X6_wheel_l1b a1 (f_X6_wheel_l1 a1 n) x2 x3 x4 im
set_option maxRecDepth 20000 in
set_option maxHeartbeats 4000000 in
theorem s_X6_wheel_l1b {g : GX} (a1 : Int32)    (k28 : Int32 → Int32 → Int32 → IM → Option (Int32 × IM)) (hk28 : ∀ (x2 : Int32) (x3 : Int32) (x4 : Int32) (im : IM), X g md_X6_wheel eI 28 [(0, .ref (g.1 0)), (2, .int x2), (3, .int x3), (4, .int x4)] [] im (k28 x2 x3 x4 im)) (x2 : Int32) (x3 : Int32) (x4 : Int32)  (im : IM) : X g md_X6_wheel eI 28 [(0, .ref (g.1 0)), (2, .int x2), (3, .int x3), (4, .int x4)] [] im (f_X6_wheel_l1b a1 k28 x2 x3 x4 im) := by
  refine x_iload (q := 3) rfl dX6_wheel_28 ?_
  refine x_iload_n (q := 1) rfl rfl dX6_wheel_30 ?_
  refine x_icmp_ge (tgt := 102) dX6_wheel_31 (by decide) ?_ ?_
  · refine x_sub [3] rfl ?_
    exact s_X6_wheel_j2 a1 x4 im
  · refine x_aload_n (q := 0) rfl rfl dX6_wheel_34 ?_
    refine x_get (C := RX6) (T := TX6) sh_0 (by decide) rfl in_X6 0 (by decide) fl_X6_12 xf_6_0 dX6_wheel_35 ?_
    refine x_get (C := RX5) (T := TX5) sh_1 (by decide) rfl in_X5 2 (by decide) fl_X6_120 xf_5_2 dX6_wheel_38 ?_
    refine x_aload_n (q := 0) rfl rfl dX6_wheel_41 ?_
    refine x_get (C := RX6) (T := TX6) sh_0 (by decide) rfl in_X6 7 (by decide) fl_X6_43 xf_6_7 dX6_wheel_42 ?_
    refine x_iload (q := 3) rfl dX6_wheel_45 ?_
    refine x_iald sh_65 dX6_wheel_47 ?_
    refine x_bi (fun v3 => ?_)
    refine x_aldT sh_4 dX6_wheel_48 (fun hi2 => ?_)
    refine x_callVR (av := []) (st := []) (m_X4_wheelTime (xTh xTo_c1 hi2)  im) (xTh xTo_c1 hi2) (by decide) rfl rfl (by decide) (by decide) lk_X6_284 cd_X4_wheelTime xd_X4_wheelTime rfl (Nat.le_of_ble_eq_true rfl) dX6_wheel_49 ?_
    refine x_iload_n (q := 2) rfl rfl dX6_wheel_52 ?_
    refine x_icmp_gt (tgt := 102) dX6_wheel_53 (by decide) ?_ ?_
    · refine x_sub [3] rfl ?_
      exact s_X6_wheel_j2 a1 x4 im
    · refine x_iload_n (q := 2) rfl rfl dX6_wheel_56 ?_
      refine x_aload_n (q := 0) rfl rfl dX6_wheel_57 ?_
      refine x_get (C := RX6) (T := TX6) sh_0 (by decide) rfl in_X6 0 (by decide) fl_X6_12 xf_6_0 dX6_wheel_58 ?_
      refine x_get (C := RX5) (T := TX5) sh_1 (by decide) rfl in_X5 2 (by decide) fl_X6_120 xf_5_2 dX6_wheel_61 ?_
      refine x_aload_n (q := 0) rfl rfl dX6_wheel_64 ?_
      refine x_get (C := RX6) (T := TX6) sh_0 (by decide) rfl in_X6 7 (by decide) fl_X6_43 xf_6_7 dX6_wheel_65 ?_
      refine x_iload (q := 3) rfl dX6_wheel_68 ?_
      refine x_iald sh_65 dX6_wheel_70 ?_
      refine x_bi (fun v5 => ?_)
      refine x_aldT sh_4 dX6_wheel_71 (fun hi4 => ?_)
      refine x_callVR (av := []) (st := [.int x3]) (m_X4_wheelTime (xTh xTo_c1 hi4)  im) (xTh xTo_c1 hi4) (by decide) rfl rfl (by decide) (by decide) lk_X6_284 cd_X4_wheelTime xd_X4_wheelTime rfl (Nat.le_of_ble_eq_true rfl) dX6_wheel_72 ?_
      refine x_isub dX6_wheel_75 ?_
      refine x_bi (fun v6 => ?_)
      refine x_istore_n (lv' := [(3, .int v6), (0, .ref (g.1 0)), (2, .int x2), (4, .int x4)]) rfl dX6_wheel_76 (by decide) rfl ?_
      refine x_aload_n (q := 1) rfl rfl dX6_wheel_77 ?_
      refine x_get (C := RX6) (T := TX6) sh_0 (by decide) rfl in_X6 0 (by decide) fl_X6_12 xf_6_0 dX6_wheel_78 ?_
      refine x_get (C := RX5) (T := TX5) sh_1 (by decide) rfl in_X5 2 (by decide) fl_X6_120 xf_5_2 dX6_wheel_81 ?_
      refine x_aload_n (q := 1) rfl rfl dX6_wheel_84 ?_
      refine x_get (C := RX6) (T := TX6) sh_0 (by decide) rfl in_X6 7 (by decide) fl_X6_43 xf_6_7 dX6_wheel_85 ?_
      refine x_iload (q := 3) rfl dX6_wheel_88 ?_
      refine x_iald sh_65 dX6_wheel_90 ?_
      refine x_bi (fun v8 => ?_)
      refine x_aldT sh_4 dX6_wheel_91 (fun hi7 => ?_)
      refine x_iconst (v := (3)) (by decide) dX6_wheel_92 ?_
      refine x_put (C := RX4) (T := TX4) (ty := .int) tyX4 tyX4_ok nmX4 (xTh xTo_c1 hi7) (by decide) rfl in_X4 6 (by decide) (by decide) fl_X6_144 rfl (by decide +kernel) rfl rfl dX6_wheel_93 ?_
      refine x_bm (fun m9 => ?_)
      refine x_iinc (q := 3) (a := 1) (lv' := fun v10 => [(4, .int v10), (3, .int v6), (0, .ref (g.1 0)), (2, .int x2)]) dX6_wheel_96 rfl (by decide) (by decide) (fun _ => rfl) (fun v10 => ?_)
      refine x_goto (tgt := 28) dX6_wheel_99 (by decide) ?_
      refine x_sub [2, 3, 1, 0] rfl ?_
      exact hk28 x2 v6 v10 m9
set_option maxRecDepth 20000 in
set_option maxHeartbeats 4000000 in
theorem s_X6_wheel_l1 {g : GX} (a1 : Int32)    (n : Nat) : ∀ (x2 : Int32) (x3 : Int32) (x4 : Int32) (im : IM), X g md_X6_wheel eI 28 [(0, .ref (g.1 0)), (2, .int x2), (3, .int x3), (4, .int x4)] [] im (f_X6_wheel_l1 a1 n x2 x3 x4 im) := by
  induction n with
  | zero => intro x2 x3 x4 im; exact x_none
  | succ n ih => intro x2 x3 x4 im; exact s_X6_wheel_l1b a1 (f_X6_wheel_l1 a1 n) ih x2 x3 x4 im
def f_X6_wheel (a1 : Int32) (im : IM) : Option (Int32 × IM) :=
  if (f_X6_within a1 1 999) = 0 then
    (f_X6_refuse ((-1000001)) im).bind fun r11 =>
    some ((r11.1, r11.2))
  else
    (f_X6_lineUpByWeight im).bind fun r1 =>
    f_X6_wheel_l1 a1 xF r1.1 a1 0 r1.2
set_option maxRecDepth 20000 in
set_option maxHeartbeats 4000000 in
theorem s_X6_wheel {g : GX}  (a1 : Int32) (im : IM) : X g md_X6_wheel eI 0 [(0, .ref (g.1 0)), (1, .int a1)] [] im (f_X6_wheel a1 im) := by
  refine x_iload_n (q := 1) rfl rfl dX6_wheel_0 ?_
  refine x_iconst (v := (1)) (by decide) dX6_wheel_1 ?_
  refine x_sipush (v := (999)) (by decide) dX6_wheel_2 ?_
  refine x_callSR (av := [.int a1, .int 1, .int 999]) (st := []) (m_X6_within  a1 1 999 im) rfl (by decide) (by decide) lk_X6_79 cd_X6_within xd_X6_within rfl (Nat.le_of_ble_eq_true rfl) dX6_wheel_5 ?_
  refine x_if_ne (tgt := 18) dX6_wheel_8 (by decide) ?_ ?_
  · refine x_aload_n (q := 0) rfl rfl dX6_wheel_18 ?_
    refine x_bind (fun r1 er1 => ?_)
    refine x_callVI (av := []) (st := []) (m_X6_lineUpByWeight   im r1 er1) sh_0 (by decide) rfl rfl (by decide) (by decide) lk_X6_281 cd_X6_lineUpByWeight xd_X6_lineUpByWeight rfl (Nat.le_of_ble_eq_true rfl) dX6_wheel_19 ?_
    refine x_istore_n (lv' := [(2, .int r1.1), (0, .ref (g.1 0)), (1, .int a1)]) rfl dX6_wheel_22 (by decide) rfl ?_
    refine x_iload_n (q := 2) rfl rfl dX6_wheel_23 ?_
    refine x_istore_n (lv' := [(3, .int a1), (2, .int r1.1), (0, .ref (g.1 0)), (1, .int a1)]) rfl dX6_wheel_24 (by decide) rfl ?_
    refine x_iconst (v := (0)) (by decide) dX6_wheel_25 ?_
    refine x_istore (lv' := [(4, .int 0), (3, .int a1), (2, .int r1.1), (0, .ref (g.1 0)), (1, .int a1)]) dX6_wheel_26 (by decide) rfl ?_
    refine x_sub [3, 2, 1, 0] rfl ?_
    exact s_X6_wheel_l1 a1 xF r1.1 a1 0 r1.2
  · refine x_aload_n (q := 0) rfl rfl dX6_wheel_11 ?_
    refine x_ldc co_X6_71 dX6_wheel_12 ?_
    refine x_bind (fun r11 er11 => ?_)
    refine x_callVI (av := [.int ((-1000001))]) (st := []) (m_X6_refuse  (((-1000001))) im r11 er11) sh_0 (by decide) rfl rfl (by decide) (by decide) lk_X6_72 cd_X6_refuse xd_X6_refuse rfl (Nat.le_of_ble_eq_true rfl) dX6_wheel_14 ?_
    exact x_iret rfl rfl dX6_wheel_17
theorem m_X6_wheel {g : GX}  (a1 : Int32) (im : IM) (r : Int32 × IM) (hr : f_X6_wheel a1 im = some r) : xMet g 5 yX6_wheel cX6_wheel 5 (some .int) [.ref (g.1 0), .int a1] im (eI r) := x_met (by decide) (Nat.le_of_ble_eq_true rfl) rfl (s_X6_wheel a1 im) r hr
abbrev md_X6_odds : xM := (4, 5, RX6, cX6_odds, (some .int))
def f_X6_odds_j1 (a1 : Int32) (a2 : Int32)   (im : IM) : Option (Int32 × IM) :=
  (f_X6_refuse ((-1000001)) im).bind fun r1 =>
  some ((r1.1, r1.2))
set_option maxRecDepth 20000 in
set_option maxHeartbeats 4000000 in
theorem s_X6_odds_j1 {g : GX} (a1 : Int32) (a2 : Int32)      (im : IM) : X g md_X6_odds eI 18 [(0, .ref (g.1 0))] [] im (f_X6_odds_j1 a1 a2 im) := by
  refine x_aload_n (q := 0) rfl rfl dX6_odds_18 ?_
  refine x_ldc co_X6_71 dX6_odds_19 ?_
  refine x_bind (fun r1 er1 => ?_)
  refine x_callVI (av := [.int ((-1000001))]) (st := []) (m_X6_refuse  (((-1000001))) im r1 er1) sh_0 (by decide) rfl rfl (by decide) (by decide) lk_X6_72 cd_X6_refuse xd_X6_refuse rfl (Nat.le_of_ble_eq_true rfl) dX6_odds_21 ?_
  exact x_iret rfl rfl dX6_odds_24
def f_X6_odds_j2 (a1 : Int32) (a2 : Int32)   (im : IM) : Option (Int32 × IM) :=
  (f_X6_refuse ((-1000005)) im).bind fun r3 =>
  some ((r3.1, r3.2))
set_option maxRecDepth 20000 in
set_option maxHeartbeats 4000000 in
theorem s_X6_odds_j2 {g : GX} (a1 : Int32) (a2 : Int32)      (im : IM) : X g md_X6_odds eI 47 [(0, .ref (g.1 0))] [] im (f_X6_odds_j2 a1 a2 im) := by
  refine x_aload_n (q := 0) rfl rfl dX6_odds_47 ?_
  refine x_ldc co_X6_169 dX6_odds_48 ?_
  refine x_bind (fun r3 er3 => ?_)
  refine x_callVI (av := [.int ((-1000005))]) (st := []) (m_X6_refuse  (((-1000005))) im r3 er3) sh_0 (by decide) rfl rfl (by decide) (by decide) lk_X6_72 cd_X6_refuse xd_X6_refuse rfl (Nat.le_of_ble_eq_true rfl) dX6_odds_50 ?_
  exact x_iret rfl rfl dX6_odds_53
def f_X6_odds_j4 (a1 : Int32) (a2 : Int32) (k59 : Int32 → Int32 → IM → Option (Int32 × IM)) (x4 : Int32) (s0 : Int32) (s1 : Int32) (im : IM) : Option (Int32 × IM) :=
  bnd (s1 + s0) fun v7 =>
  bnd (x4 + 1) fun v8 =>
  k59 v7 v8 im
set_option maxRecDepth 20000 in
set_option maxHeartbeats 4000000 in
theorem s_X6_odds_j4 {g : GX} (a1 : Int32) (a2 : Int32)  (k59 : Int32 → Int32 → IM → Option (Int32 × IM)) (hk59 : ∀ (x3 : Int32) (x4 : Int32) (im : IM), X g md_X6_odds eI 59 [(0, .ref (g.1 0)), (1, .int a1), (2, .int a2), (3, .int x3), (4, .int x4)] [] im (k59 x3 x4 im)) (x4 : Int32) (s0 : Int32) (s1 : Int32)  (im : IM) : X g md_X6_odds eI 114 [(0, .ref (g.1 0)), (1, .int a1), (2, .int a2), (4, .int x4)] [.int s0, .int s1] im (f_X6_odds_j4 a1 a2 k59 x4 s0 s1 im) := by
  refine x_iadd dX6_odds_114 ?_
  refine x_bi (fun v7 => ?_)
  refine x_istore_n (lv' := [(3, .int v7), (0, .ref (g.1 0)), (1, .int a1), (2, .int a2), (4, .int x4)]) rfl dX6_odds_115 (by decide) rfl ?_
  refine x_iinc (q := 4) (a := 1) (lv' := fun v8 => [(4, .int v8), (3, .int v7), (0, .ref (g.1 0)), (1, .int a1), (2, .int a2)]) dX6_odds_116 rfl (by decide) (by decide) (fun _ => rfl) (fun v8 => ?_)
  refine x_goto (tgt := 59) dX6_odds_119 (by decide) ?_
  refine x_sub [2, 3, 4, 1, 0] rfl ?_
  exact hk59 v7 v8 im
def f_X6_odds_l3b (a1 : Int32) (a2 : Int32)   (k59 : Int32 → Int32 → IM → Option (Int32 × IM)) (x3 : Int32) (x4 : Int32) (im : IM) : Option (Int32 × IM) :=
  if a2 ≤ x4 then
    some ((x3, im))
  else
    if inb a1 10 = true then
      bnd (f_X5_draw 1 im) fun r5 =>
      (f_X2_runFrom 1 (6 + ix a1) (10 + (jrem r5.1 30)) r5.2).bind fun r6 =>
      if 0 ≤ (f_X2_place r6) then
        f_X6_odds_j4 a1 a2 k59 x4 0 x3 r6
      else
        f_X6_odds_j4 a1 a2 k59 x4 1 x3 r6
    else none
def f_X6_odds_l3 (a1 : Int32) (a2 : Int32)   : Nat → Int32 → Int32 → IM → Option (Int32 × IM)
  | 0, _, _, _ => none
  | n + 1, x3, x4, im => f_X6_odds_l3b a1 a2 (f_X6_odds_l3 a1 a2 n) x3 x4 im
set_option maxRecDepth 20000 in
set_option maxHeartbeats 4000000 in
theorem s_X6_odds_l3b {g : GX} (a1 : Int32) (a2 : Int32)    (k59 : Int32 → Int32 → IM → Option (Int32 × IM)) (hk59 : ∀ (x3 : Int32) (x4 : Int32) (im : IM), X g md_X6_odds eI 59 [(0, .ref (g.1 0)), (1, .int a1), (2, .int a2), (3, .int x3), (4, .int x4)] [] im (k59 x3 x4 im)) (x3 : Int32) (x4 : Int32)  (im : IM) : X g md_X6_odds eI 59 [(0, .ref (g.1 0)), (1, .int a1), (2, .int a2), (3, .int x3), (4, .int x4)] [] im (f_X6_odds_l3b a1 a2 k59 x3 x4 im) := by
  refine x_iload (q := 4) rfl dX6_odds_59 ?_
  refine x_iload_n (q := 2) rfl rfl dX6_odds_61 ?_
  refine x_icmp_ge (tgt := 122) dX6_odds_62 (by decide) ?_ ?_
  · refine x_iload_n (q := 3) rfl rfl dX6_odds_122 ?_
    exact x_iret rfl rfl dX6_odds_123
  · refine x_aload_n (q := 0) rfl rfl dX6_odds_65 ?_
    refine x_get (C := RX6) (T := TX6) sh_0 (by decide) rfl in_X6 5 (by decide) fl_X6_32 xf_6_5 dX6_odds_66 ?_
    refine x_aload_n (q := 0) rfl rfl dX6_odds_69 ?_
    refine x_get (C := RX6) (T := TX6) sh_0 (by decide) rfl in_X6 0 (by decide) fl_X6_12 xf_6_0 dX6_odds_70 ?_
    refine x_aload_n (q := 0) rfl rfl dX6_odds_73 ?_
    refine x_get (C := RX6) (T := TX6) sh_0 (by decide) rfl in_X6 0 (by decide) fl_X6_12 xf_6_0 dX6_odds_74 ?_
    refine x_get (C := RX5) (T := TX5) sh_1 (by decide) rfl in_X5 2 (by decide) fl_X6_120 xf_5_2 dX6_odds_77 ?_
    refine x_iload_n (q := 1) rfl rfl dX6_odds_80 ?_
    refine x_aldT sh_4 dX6_odds_81 (fun hi4 => ?_)
    refine x_bipush (v := (10)) (by decide) dX6_odds_82 ?_
    refine x_aload_n (q := 0) rfl rfl dX6_odds_84 ?_
    refine x_get (C := RX6) (T := TX6) sh_0 (by decide) rfl in_X6 0 (by decide) fl_X6_12 xf_6_0 dX6_odds_85 ?_
    refine x_callVI (av := []) (st := [.int 10, .ref (g.1 ((6 + ix a1))), .ref (g.1 1), .ref (g.1 61)]) (m_X5_draw xTo_c1  im) sh_1 (by decide) rfl rfl (by decide) (by decide) lk_X6_287 cd_X5_draw xd_X5_draw rfl (Nat.le_of_ble_eq_true rfl) dX6_odds_88 ?_
    refine x_bp (fun r5 => ?_)
    refine x_bipush (v := (30)) (by decide) dX6_odds_91 ?_
    refine x_irem (by decide) dX6_odds_93 ?_
    refine x_iadd dX6_odds_94 ?_
    refine x_bind (fun r6 er6 => ?_)
    refine x_callVV (av := [.ref (g.1 1), .ref (g.1 ((6 + ix a1))), .int (10 + (jrem r5.1 30))]) (st := []) (m_X2_runFrom xTo_c1 (xTh xTo_c1 hi4) ((10 + (jrem r5.1 30))) r5.2 r6 er6) sh_61 (by decide) rfl rfl (by decide) (by decide) lk_X6_290 cd_X2_runFrom xd_X2_runFrom rfl (Nat.le_of_ble_eq_true rfl) dX6_odds_95 ?_
    refine x_iload_n (q := 3) rfl rfl dX6_odds_98 ?_
    refine x_aload_n (q := 0) rfl rfl dX6_odds_99 ?_
    refine x_get (C := RX6) (T := TX6) sh_0 (by decide) rfl in_X6 5 (by decide) fl_X6_32 xf_6_5 dX6_odds_100 ?_
    refine x_callVR (av := []) (st := [.int x3]) (m_X2_place   r6) sh_61 (by decide) rfl rfl (by decide) (by decide) lk_X6_218 cd_X2_place xd_X2_place rfl (Nat.le_of_ble_eq_true rfl) dX6_odds_103 ?_
    refine x_if_ge (tgt := 113) dX6_odds_106 (by decide) ?_ ?_
    · refine x_iconst (v := (0)) (by decide) dX6_odds_113 ?_
      refine x_sub [0, 1, 2, 4] rfl ?_
      exact s_X6_odds_j4 a1 a2 k59 hk59 x4 0 x3 r6
    · refine x_iconst (v := (1)) (by decide) dX6_odds_109 ?_
      refine x_goto (tgt := 114) dX6_odds_110 (by decide) ?_
      refine x_sub [0, 1, 2, 4] rfl ?_
      exact s_X6_odds_j4 a1 a2 k59 hk59 x4 1 x3 r6
set_option maxRecDepth 20000 in
set_option maxHeartbeats 4000000 in
theorem s_X6_odds_l3 {g : GX} (a1 : Int32) (a2 : Int32)    (n : Nat) : ∀ (x3 : Int32) (x4 : Int32) (im : IM), X g md_X6_odds eI 59 [(0, .ref (g.1 0)), (1, .int a1), (2, .int a2), (3, .int x3), (4, .int x4)] [] im (f_X6_odds_l3 a1 a2 n x3 x4 im) := by
  induction n with
  | zero => intro x3 x4 im; exact x_none
  | succ n ih => intro x3 x4 im; exact s_X6_odds_l3b a1 a2 (f_X6_odds_l3 a1 a2 n) ih x3 x4 im
def f_X6_odds (a1 : Int32) (a2 : Int32) (im : IM) : Option (Int32 × IM) :=
  if (f_X6_isThing a1 im) = 0 then
    f_X6_odds_j1 a1 a2 im
  else
    if (f_X6_within a2 1 20) = 0 then
      f_X6_odds_j1 a1 a2 im
    else
      if inb a1 10 = true then
        if (f_X4_canBeLetGo (6 + ix a1) im) = 0 then
          f_X6_odds_j2 a1 a2 im
        else
          if (f_X6_isTooLateToRoll im) = 0 then
            f_X6_odds_l3 a1 a2 xF 0 0 im
          else
            f_X6_odds_j2 a1 a2 im
      else none
set_option maxRecDepth 20000 in
set_option maxHeartbeats 4000000 in
theorem s_X6_odds {g : GX}   (a1 : Int32) (a2 : Int32) (im : IM) : X g md_X6_odds eI 0 [(0, .ref (g.1 0)), (1, .int a1), (2, .int a2)] [] im (f_X6_odds a1 a2 im) := by
  refine x_aload_n (q := 0) rfl rfl dX6_odds_0 ?_
  refine x_iload_n (q := 1) rfl rfl dX6_odds_1 ?_
  refine x_callVR (av := [.int a1]) (st := []) (m_X6_isThing  a1 im) sh_0 (by decide) rfl rfl (by decide) (by decide) lk_X6_117 cd_X6_isThing xd_X6_isThing rfl (Nat.le_of_ble_eq_true rfl) dX6_odds_2 ?_
  refine x_if_eq (tgt := 18) dX6_odds_5 (by decide) ?_ ?_
  · refine x_sub [0] rfl ?_
    exact s_X6_odds_j1 a1 a2 im
  · refine x_iload_n (q := 2) rfl rfl dX6_odds_8 ?_
    refine x_iconst (v := (1)) (by decide) dX6_odds_9 ?_
    refine x_bipush (v := (20)) (by decide) dX6_odds_10 ?_
    refine x_callSR (av := [.int a2, .int 1, .int 20]) (st := []) (m_X6_within  a2 1 20 im) rfl (by decide) (by decide) lk_X6_79 cd_X6_within xd_X6_within rfl (Nat.le_of_ble_eq_true rfl) dX6_odds_12 ?_
    refine x_if_ne (tgt := 25) dX6_odds_15 (by decide) ?_ ?_
    · refine x_aload_n (q := 0) rfl rfl dX6_odds_25 ?_
      refine x_get (C := RX6) (T := TX6) sh_0 (by decide) rfl in_X6 0 (by decide) fl_X6_12 xf_6_0 dX6_odds_26 ?_
      refine x_get (C := RX5) (T := TX5) sh_1 (by decide) rfl in_X5 2 (by decide) fl_X6_120 xf_5_2 dX6_odds_29 ?_
      refine x_iload_n (q := 1) rfl rfl dX6_odds_32 ?_
      refine x_aldT sh_4 dX6_odds_33 (fun hi2 => ?_)
      refine x_callVR (av := []) (st := []) (m_X4_canBeLetGo (xTh xTo_c1 hi2)  im) (xTh xTo_c1 hi2) (by decide) rfl rfl (by decide) (by decide) lk_X6_166 cd_X4_canBeLetGo xd_X4_canBeLetGo rfl (Nat.le_of_ble_eq_true rfl) dX6_odds_34 ?_
      refine x_if_eq (tgt := 47) dX6_odds_37 (by decide) ?_ ?_
      · refine x_sub [0] rfl ?_
        exact s_X6_odds_j2 a1 a2 im
      · refine x_aload_n (q := 0) rfl rfl dX6_odds_40 ?_
        refine x_callVR (av := []) (st := []) (m_X6_isTooLateToRoll   im) sh_0 (by decide) rfl rfl (by decide) (by decide) lk_X6_250 cd_X6_isTooLateToRoll xd_X6_isTooLateToRoll rfl (Nat.le_of_ble_eq_true rfl) dX6_odds_41 ?_
        refine x_if_eq (tgt := 54) dX6_odds_44 (by decide) ?_ ?_
        · refine x_iconst (v := (0)) (by decide) dX6_odds_54 ?_
          refine x_istore_n (lv' := [(3, .int 0), (0, .ref (g.1 0)), (1, .int a1), (2, .int a2)]) rfl dX6_odds_55 (by decide) rfl ?_
          refine x_iconst (v := (0)) (by decide) dX6_odds_56 ?_
          refine x_istore (lv' := [(4, .int 0), (3, .int 0), (0, .ref (g.1 0)), (1, .int a1), (2, .int a2)]) dX6_odds_57 (by decide) rfl ?_
          refine x_sub [2, 3, 4, 1, 0] rfl ?_
          exact s_X6_odds_l3 a1 a2 xF 0 0 im
        · refine x_sub [0] rfl ?_
          exact s_X6_odds_j2 a1 a2 im
    · refine x_sub [0] rfl ?_
      exact s_X6_odds_j1 a1 a2 im
theorem m_X6_odds {g : GX}   (a1 : Int32) (a2 : Int32) (im : IM) (r : Int32 × IM) (hr : f_X6_odds a1 a2 im = some r) : xMet g 4 yX6_odds cX6_odds 5 (some .int) [.ref (g.1 0), .int a1, .int a2] im (eI r) := x_met (by decide) (Nat.le_of_ble_eq_true rfl) rfl (s_X6_odds a1 a2 im) r hr
abbrev md_X6_worst : xM := (2, 4, RX6, cX6_worst, (some .int))
def f_X6_worst_j2  (k6 : Int32 → Int32 → Int32 → IM → Option (Int32 × IM)) (x1 : Int32) (x2 : Int32) (x3 : Int32) (im : IM) : Option (Int32 × IM) :=
  bnd (x3 + 1) fun v3 =>
  k6 x1 x2 v3 im
set_option maxRecDepth 20000 in
set_option maxHeartbeats 4000000 in
theorem s_X6_worst_j2 {g : GX}  (k6 : Int32 → Int32 → Int32 → IM → Option (Int32 × IM)) (hk6 : ∀ (x1 : Int32) (x2 : Int32) (x3 : Int32) (im : IM), X g md_X6_worst eI 6 [(0, .ref (g.1 0)), (1, .int x1), (2, .int x2), (3, .int x3)] [] im (k6 x1 x2 x3 im)) (x1 : Int32) (x2 : Int32) (x3 : Int32)  (im : IM) : X g md_X6_worst eI 48 [(0, .ref (g.1 0)), (1, .int x1), (2, .int x2), (3, .int x3)] [] im (f_X6_worst_j2 k6 x1 x2 x3 im) := by
  refine x_iinc (q := 3) (a := 1) (lv' := fun v3 => [(3, .int v3), (0, .ref (g.1 0)), (1, .int x1), (2, .int x2)]) dX6_worst_48 rfl (by decide) (by decide) (fun _ => rfl) (fun v3 => ?_)
  refine x_goto (tgt := 6) dX6_worst_51 (by decide) ?_
  refine x_sub [1, 2, 3, 0] rfl ?_
  exact hk6 x1 x2 v3 im
def f_X6_worst_l1b    (k6 : Int32 → Int32 → Int32 → IM → Option (Int32 × IM)) (x1 : Int32) (x2 : Int32) (x3 : Int32) (im : IM) : Option (Int32 × IM) :=
  if (im 1 4) ≤ x3 then
    if 0 ≤ x1 then
      some ((x1, im))
    else
      (f_X6_refuse ((-1000004)) im).bind fun r1 =>
      some ((r1.1, r1.2))
  else
    if inb x3 10 = true then
      if (im (6 + ix x3) 7) ≤ x2 then
        f_X6_worst_j2 k6 x1 x2 x3 im
      else
        if inb x3 10 = true then
          bnd (im (6 + ix x3) 7) fun v5 =>
          f_X6_worst_j2 k6 x3 v5 x3 im
        else none
    else none
def f_X6_worst_l1    : Nat → Int32 → Int32 → Int32 → IM → Option (Int32 × IM)
  | 0, _, _, _, _ => none
  | n + 1, x1, x2, x3, im => f_X6_worst_l1b (f_X6_worst_l1 n) x1 x2 x3 im
set_option maxRecDepth 20000 in
set_option maxHeartbeats 4000000 in
theorem s_X6_worst_l1b {g : GX}    (k6 : Int32 → Int32 → Int32 → IM → Option (Int32 × IM)) (hk6 : ∀ (x1 : Int32) (x2 : Int32) (x3 : Int32) (im : IM), X g md_X6_worst eI 6 [(0, .ref (g.1 0)), (1, .int x1), (2, .int x2), (3, .int x3)] [] im (k6 x1 x2 x3 im)) (x1 : Int32) (x2 : Int32) (x3 : Int32)  (im : IM) : X g md_X6_worst eI 6 [(0, .ref (g.1 0)), (1, .int x1), (2, .int x2), (3, .int x3)] [] im (f_X6_worst_l1b k6 x1 x2 x3 im) := by
  refine x_iload_n (q := 3) rfl rfl dX6_worst_6 ?_
  refine x_aload_n (q := 0) rfl rfl dX6_worst_7 ?_
  refine x_get (C := RX6) (T := TX6) sh_0 (by decide) rfl in_X6 0 (by decide) fl_X6_12 xf_6_0 dX6_worst_8 ?_
  refine x_get (C := RX5) (T := TX5) sh_1 (by decide) rfl in_X5 4 (by decide) fl_X6_114 xf_5_4 dX6_worst_11 ?_
  refine x_icmp_ge (tgt := 54) dX6_worst_14 (by decide) ?_ ?_
  · refine x_iload_n (q := 1) rfl rfl dX6_worst_54 ?_
    refine x_if_ge (tgt := 67) dX6_worst_55 (by decide) ?_ ?_
    · refine x_iload_n (q := 1) rfl rfl dX6_worst_67 ?_
      exact x_iret rfl rfl dX6_worst_68
    · refine x_aload_n (q := 0) rfl rfl dX6_worst_58 ?_
      refine x_ldc co_X6_207 dX6_worst_59 ?_
      refine x_bind (fun r1 er1 => ?_)
      refine x_callVI (av := [.int ((-1000004))]) (st := []) (m_X6_refuse  (((-1000004))) im r1 er1) sh_0 (by decide) rfl rfl (by decide) (by decide) lk_X6_72 cd_X6_refuse xd_X6_refuse rfl (Nat.le_of_ble_eq_true rfl) dX6_worst_61 ?_
      refine x_goto (tgt := 68) dX6_worst_64 (by decide) ?_
      exact x_iret rfl rfl dX6_worst_68
  · refine x_aload_n (q := 0) rfl rfl dX6_worst_17 ?_
    refine x_get (C := RX6) (T := TX6) sh_0 (by decide) rfl in_X6 0 (by decide) fl_X6_12 xf_6_0 dX6_worst_18 ?_
    refine x_get (C := RX5) (T := TX5) sh_1 (by decide) rfl in_X5 2 (by decide) fl_X6_120 xf_5_2 dX6_worst_21 ?_
    refine x_iload_n (q := 3) rfl rfl dX6_worst_24 ?_
    refine x_aldT sh_4 dX6_worst_25 (fun hi2 => ?_)
    refine x_get (C := RX4) (T := TX4) (xTh xTo_c1 hi2) (by decide) rfl in_X4 7 (by decide) fl_X6_147 xf_4_7 dX6_worst_26 ?_
    refine x_iload_n (q := 2) rfl rfl dX6_worst_29 ?_
    refine x_icmp_le (tgt := 48) dX6_worst_30 (by decide) ?_ ?_
    · refine x_sub [0, 1, 2, 3] rfl ?_
      exact s_X6_worst_j2 k6 hk6 x1 x2 x3 im
    · refine x_aload_n (q := 0) rfl rfl dX6_worst_33 ?_
      refine x_get (C := RX6) (T := TX6) sh_0 (by decide) rfl in_X6 0 (by decide) fl_X6_12 xf_6_0 dX6_worst_34 ?_
      refine x_get (C := RX5) (T := TX5) sh_1 (by decide) rfl in_X5 2 (by decide) fl_X6_120 xf_5_2 dX6_worst_37 ?_
      refine x_iload_n (q := 3) rfl rfl dX6_worst_40 ?_
      refine x_aldT sh_4 dX6_worst_41 (fun hi4 => ?_)
      refine x_get (C := RX4) (T := TX4) (xTh xTo_c1 hi4) (by decide) rfl in_X4 7 (by decide) fl_X6_147 xf_4_7 dX6_worst_42 ?_
      refine x_bi (fun v5 => ?_)
      refine x_istore_n (lv' := [(2, .int v5), (0, .ref (g.1 0)), (1, .int x1), (3, .int x3)]) rfl dX6_worst_45 (by decide) rfl ?_
      refine x_iload_n (q := 3) rfl rfl dX6_worst_46 ?_
      refine x_istore_n (lv' := [(1, .int x3), (2, .int v5), (0, .ref (g.1 0)), (3, .int x3)]) rfl dX6_worst_47 (by decide) rfl ?_
      refine x_sub [2, 0, 1, 3] rfl ?_
      exact s_X6_worst_j2 k6 hk6 x3 v5 x3 im
set_option maxRecDepth 20000 in
set_option maxHeartbeats 4000000 in
theorem s_X6_worst_l1 {g : GX}    (n : Nat) : ∀ (x1 : Int32) (x2 : Int32) (x3 : Int32) (im : IM), X g md_X6_worst eI 6 [(0, .ref (g.1 0)), (1, .int x1), (2, .int x2), (3, .int x3)] [] im (f_X6_worst_l1 n x1 x2 x3 im) := by
  induction n with
  | zero => intro x1 x2 x3 im; exact x_none
  | succ n ih => intro x1 x2 x3 im; exact s_X6_worst_l1b (f_X6_worst_l1 n) ih x1 x2 x3 im
def f_X6_worst  (im : IM) : Option (Int32 × IM) :=
  f_X6_worst_l1 xF ((-1)) 0 0 im
set_option maxRecDepth 20000 in
set_option maxHeartbeats 4000000 in
theorem s_X6_worst {g : GX}   (im : IM) : X g md_X6_worst eI 0 [(0, .ref (g.1 0))] [] im (f_X6_worst im) := by
  refine x_iconst (v := (-1)) (by decide) dX6_worst_0 ?_
  refine x_istore_n (lv' := [(1, .int ((-1))), (0, .ref (g.1 0))]) rfl dX6_worst_1 (by decide) rfl ?_
  refine x_iconst (v := (0)) (by decide) dX6_worst_2 ?_
  refine x_istore_n (lv' := [(2, .int 0), (1, .int ((-1))), (0, .ref (g.1 0))]) rfl dX6_worst_3 (by decide) rfl ?_
  refine x_iconst (v := (0)) (by decide) dX6_worst_4 ?_
  refine x_istore_n (lv' := [(3, .int 0), (2, .int 0), (1, .int ((-1))), (0, .ref (g.1 0))]) rfl dX6_worst_5 (by decide) rfl ?_
  refine x_sub [3, 2, 1, 0] rfl ?_
  exact s_X6_worst_l1 xF ((-1)) 0 0 im
theorem m_X6_worst {g : GX}   (im : IM) (r : Int32 × IM) (hr : f_X6_worst im = some r) : xMet g 2 yX6_worst cX6_worst 4 (some .int) [.ref (g.1 0)] im (eI r) := x_met (by decide) (Nat.le_of_ble_eq_true rfl) rfl (s_X6_worst im) r hr
abbrev md_X6_seed : xM := (0, 3, RX6, cX6_seed, (some .int))
def f_X6_seed (a1 : Int32) (im : IM) : Int32 × IM :=
  bnd (im 1 8) fun v1 =>
  bnd (up im 1 8 a1) fun m2 =>
  ((v1, m2))
set_option maxRecDepth 20000 in
set_option maxHeartbeats 4000000 in
theorem s_X6_seed {g : GX}  (a1 : Int32) (im : IM) : X g md_X6_seed eI 0 [(0, .ref (g.1 0)), (1, .int a1)] [] im (some (f_X6_seed a1 im)) := by
  refine x_aload_n (q := 0) rfl rfl dX6_seed_0 ?_
  refine x_get (C := RX6) (T := TX6) sh_0 (by decide) rfl in_X6 0 (by decide) fl_X6_12 xf_6_0 dX6_seed_1 ?_
  refine x_get (C := RX5) (T := TX5) sh_1 (by decide) rfl in_X5 8 (by decide) fl_X6_294 xf_5_8 dX6_seed_4 ?_
  refine x_bs (x_bi (fun v1 => ?_))
  refine x_istore_n (lv' := [(2, .int v1), (0, .ref (g.1 0)), (1, .int a1)]) rfl dX6_seed_7 (by decide) rfl ?_
  refine x_aload_n (q := 1) rfl rfl dX6_seed_8 ?_
  refine x_get (C := RX6) (T := TX6) sh_0 (by decide) rfl in_X6 0 (by decide) fl_X6_12 xf_6_0 dX6_seed_9 ?_
  refine x_iload_n (q := 2) rfl rfl dX6_seed_12 ?_
  refine x_put (C := RX5) (T := TX5) (ty := .int) tyX5 tyX5_ok nmX5 sh_1 (by decide) rfl in_X5 8 (by decide) (by decide) fl_X6_294 rfl (by decide +kernel) rfl rfl dX6_seed_13 ?_
  refine x_bs (x_bm (fun m2 => ?_))
  refine x_iload_n (q := 0) rfl rfl dX6_seed_16 ?_
  exact x_iret rfl rfl dX6_seed_17
theorem m_X6_seed {g : GX}  (a1 : Int32) (im : IM) : xMet g 0 yX6_seed cX6_seed 3 (some .int) [.ref (g.1 0), .int a1] im (eI (f_X6_seed a1 im)) := x_met (by decide) (Nat.le_of_ble_eq_true rfl) rfl (s_X6_seed a1 im) _ rfl
abbrev md_X6_feed : xM := (2, 4, RX6, cX6_feed, (some .int))
def f_X6_feed_l1b (a1 : Int32) (a2 : Int32)   (k41 : Int32 → IM → Option (Int32 × IM)) (x3 : Int32) (im : IM) : Option (Int32 × IM) :=
  if x3 < 0 then
    some ((im 66 1, im))
  else
    (f_X1_addByte ((jush a1 (8 * x3)) &&& 255) im).bind fun r2 =>
    bnd (x3 + (-1)) fun v3 =>
    k41 v3 r2
def f_X6_feed_l1 (a1 : Int32) (a2 : Int32)   : Nat → Int32 → IM → Option (Int32 × IM)
  | 0, _, _ => none
  | n + 1, x3, im => f_X6_feed_l1b a1 a2 (f_X6_feed_l1 a1 a2 n) x3 im
set_option maxRecDepth 20000 in
set_option maxHeartbeats 4000000 in
theorem s_X6_feed_l1b {g : GX} (a1 : Int32) (a2 : Int32)    (k41 : Int32 → IM → Option (Int32 × IM)) (hk41 : ∀ (x3 : Int32) (im : IM), X g md_X6_feed eI 41 [(0, .ref (g.1 0)), (1, .int a1), (3, .int x3)] [] im (k41 x3 im)) (x3 : Int32)  (im : IM) : X g md_X6_feed eI 41 [(0, .ref (g.1 0)), (1, .int a1), (3, .int x3)] [] im (f_X6_feed_l1b a1 a2 k41 x3 im) := by
  refine x_iload_n (q := 2) rfl rfl dX6_feed_41 ?_
  refine x_if_lt (tgt := 68) dX6_feed_42 (by decide) ?_ ?_
  · refine x_aload_n (q := 0) rfl rfl dX6_feed_68 ?_
    refine x_get (C := RX6) (T := TX6) sh_0 (by decide) rfl in_X6 8 (by decide) fl_X6_50 xf_6_8 dX6_feed_69 ?_
    refine x_get (C := RX1) (T := TX1) sh_66 (by decide) rfl in_X1 1 (by decide) fl_X6_297 xf_1_1 dX6_feed_72 ?_
    exact x_iret rfl rfl dX6_feed_75
  · refine x_aload_n (q := 0) rfl rfl dX6_feed_45 ?_
    refine x_get (C := RX6) (T := TX6) sh_0 (by decide) rfl in_X6 8 (by decide) fl_X6_50 xf_6_8 dX6_feed_46 ?_
    refine x_iload_n (q := 1) rfl rfl dX6_feed_49 ?_
    refine x_bipush (v := (8)) (by decide) dX6_feed_50 ?_
    refine x_iload_n (q := 2) rfl rfl dX6_feed_52 ?_
    refine x_imul dX6_feed_53 ?_
    refine x_iushr dX6_feed_54 ?_
    refine x_sipush (v := (255)) (by decide) dX6_feed_55 ?_
    refine x_iand dX6_feed_58 ?_
    refine x_bind (fun r2 er2 => ?_)
    refine x_callVV (av := [.int ((jush a1 (8 * x3)) &&& 255)]) (st := []) (m_X1_addByte  (((jush a1 (8 * x3)) &&& 255)) im r2 er2) sh_66 (by decide) rfl rfl (by decide) (by decide) lk_X6_298 cd_X1_addByte xd_X1_addByte rfl (Nat.le_of_ble_eq_true rfl) dX6_feed_59 ?_
    refine x_iinc (q := 2) (a := (-1)) (lv' := fun v3 => [(3, .int v3), (0, .ref (g.1 0)), (1, .int a1)]) dX6_feed_62 rfl (by decide) (by decide) (fun _ => rfl) (fun v3 => ?_)
    refine x_goto (tgt := 41) dX6_feed_65 (by decide) ?_
    refine x_sub [1, 2, 0] rfl ?_
    exact hk41 v3 r2
set_option maxRecDepth 20000 in
set_option maxHeartbeats 4000000 in
theorem s_X6_feed_l1 {g : GX} (a1 : Int32) (a2 : Int32)    (n : Nat) : ∀ (x3 : Int32) (im : IM), X g md_X6_feed eI 41 [(0, .ref (g.1 0)), (1, .int a1), (3, .int x3)] [] im (f_X6_feed_l1 a1 a2 n x3 im) := by
  induction n with
  | zero => intro x3 im; exact x_none
  | succ n ih => intro x3 im; exact s_X6_feed_l1b a1 a2 (f_X6_feed_l1 a1 a2 n) ih x3 im
def f_X6_feed (a1 : Int32) (a2 : Int32) (im : IM) : Option (Int32 × IM) :=
  if (f_X6_within a2 1 4) = 0 then
    (f_X6_refuse ((-1000001)) im).bind fun r5 =>
    some ((r5.1, r5.2))
  else
    if (im 66 1) ≤ (120 - a2) then
      bnd (a2 - 1) fun v1 =>
      f_X6_feed_l1 a1 a2 xF v1 im
    else
      (f_X6_refuse ((-1000002)) im).bind fun r4 =>
      some ((r4.1, r4.2))
set_option maxRecDepth 20000 in
set_option maxHeartbeats 4000000 in
theorem s_X6_feed {g : GX}   (a1 : Int32) (a2 : Int32) (im : IM) : X g md_X6_feed eI 0 [(0, .ref (g.1 0)), (1, .int a1), (2, .int a2)] [] im (f_X6_feed a1 a2 im) := by
  refine x_iload_n (q := 2) rfl rfl dX6_feed_0 ?_
  refine x_iconst (v := (1)) (by decide) dX6_feed_1 ?_
  refine x_iconst (v := (4)) (by decide) dX6_feed_2 ?_
  refine x_callSR (av := [.int a2, .int 1, .int 4]) (st := []) (m_X6_within  a2 1 4 im) rfl (by decide) (by decide) lk_X6_79 cd_X6_within xd_X6_within rfl (Nat.le_of_ble_eq_true rfl) dX6_feed_3 ?_
  refine x_if_ne (tgt := 16) dX6_feed_6 (by decide) ?_ ?_
  · refine x_aload_n (q := 0) rfl rfl dX6_feed_16 ?_
    refine x_get (C := RX6) (T := TX6) sh_0 (by decide) rfl in_X6 8 (by decide) fl_X6_50 xf_6_8 dX6_feed_17 ?_
    refine x_get (C := RX1) (T := TX1) sh_66 (by decide) rfl in_X1 1 (by decide) fl_X6_297 xf_1_1 dX6_feed_20 ?_
    refine x_bipush (v := (120)) (by decide) dX6_feed_23 ?_
    refine x_iload_n (q := 2) rfl rfl dX6_feed_25 ?_
    refine x_isub dX6_feed_26 ?_
    refine x_icmp_le (tgt := 37) dX6_feed_27 (by decide) ?_ ?_
    · refine x_iload_n (q := 2) rfl rfl dX6_feed_37 ?_
      refine x_iconst (v := (1)) (by decide) dX6_feed_38 ?_
      refine x_isub dX6_feed_39 ?_
      refine x_bi (fun v1 => ?_)
      refine x_istore_n (lv' := [(3, .int v1), (0, .ref (g.1 0)), (1, .int a1), (2, .int a2)]) rfl dX6_feed_40 (by decide) rfl ?_
      refine x_sub [1, 2, 0] rfl ?_
      exact s_X6_feed_l1 a1 a2 xF v1 im
    · refine x_aload_n (q := 0) rfl rfl dX6_feed_30 ?_
      refine x_ldc co_X6_109 dX6_feed_31 ?_
      refine x_bind (fun r4 er4 => ?_)
      refine x_callVI (av := [.int ((-1000002))]) (st := []) (m_X6_refuse  (((-1000002))) im r4 er4) sh_0 (by decide) rfl rfl (by decide) (by decide) lk_X6_72 cd_X6_refuse xd_X6_refuse rfl (Nat.le_of_ble_eq_true rfl) dX6_feed_33 ?_
      exact x_iret rfl rfl dX6_feed_36
  · refine x_aload_n (q := 0) rfl rfl dX6_feed_9 ?_
    refine x_ldc co_X6_71 dX6_feed_10 ?_
    refine x_bind (fun r5 er5 => ?_)
    refine x_callVI (av := [.int ((-1000001))]) (st := []) (m_X6_refuse  (((-1000001))) im r5 er5) sh_0 (by decide) rfl rfl (by decide) (by decide) lk_X6_72 cd_X6_refuse xd_X6_refuse rfl (Nat.le_of_ble_eq_true rfl) dX6_feed_12 ?_
    exact x_iret rfl rfl dX6_feed_15
theorem m_X6_feed {g : GX}   (a1 : Int32) (a2 : Int32) (im : IM) (r : Int32 × IM) (hr : f_X6_feed a1 a2 im = some r) : xMet g 2 yX6_feed cX6_feed 4 (some .int) [.ref (g.1 0), .int a1, .int a2] im (eI r) := x_met (by decide) (Nat.le_of_ble_eq_true rfl) rfl (s_X6_feed a1 a2 im) r hr
abbrev md_X6_wipe : xM := (0, 2, RX6, cX6_wipe, (some .int))
def f_X6_wipe  (im : IM) : Int32 × IM :=
  bnd (im 66 1) fun v1 =>
  bnd (up im 66 1 0) fun m2 =>
  ((v1, m2))
set_option maxRecDepth 20000 in
set_option maxHeartbeats 4000000 in
theorem s_X6_wipe {g : GX}   (im : IM) : X g md_X6_wipe eI 0 [(0, .ref (g.1 0))] [] im (some (f_X6_wipe im)) := by
  refine x_aload_n (q := 0) rfl rfl dX6_wipe_0 ?_
  refine x_get (C := RX6) (T := TX6) sh_0 (by decide) rfl in_X6 8 (by decide) fl_X6_50 xf_6_8 dX6_wipe_1 ?_
  refine x_get (C := RX1) (T := TX1) sh_66 (by decide) rfl in_X1 1 (by decide) fl_X6_297 xf_1_1 dX6_wipe_4 ?_
  refine x_bs (x_bi (fun v1 => ?_))
  refine x_istore_n (lv' := [(1, .int v1), (0, .ref (g.1 0))]) rfl dX6_wipe_7 (by decide) rfl ?_
  refine x_aload_n (q := 1) rfl rfl dX6_wipe_8 ?_
  refine x_get (C := RX6) (T := TX6) sh_0 (by decide) rfl in_X6 8 (by decide) fl_X6_50 xf_6_8 dX6_wipe_9 ?_
  refine x_iconst (v := (0)) (by decide) dX6_wipe_12 ?_
  refine x_put (C := RX1) (T := TX1) (ty := .int) tyX1 tyX1_ok nmX1 sh_66 (by decide) rfl in_X1 1 (by decide) (by decide) fl_X6_297 rfl (by decide +kernel) rfl rfl dX6_wipe_13 ?_
  refine x_bs (x_bm (fun m2 => ?_))
  refine x_iload_n (q := 0) rfl rfl dX6_wipe_16 ?_
  exact x_iret rfl rfl dX6_wipe_17
theorem m_X6_wipe {g : GX}   (im : IM) : xMet g 0 yX6_wipe cX6_wipe 2 (some .int) [.ref (g.1 0)] im (eI (f_X6_wipe im)) := x_met (by decide) (Nat.le_of_ble_eq_true rfl) rfl (s_X6_wipe im) _ rfl
abbrev md_X6_text : xM := (10, 2, RX6, cX6_text, (some .int))
def f_X6_text_j1   (x1 : Int32) (im : IM) : Option (Int32 × IM) :=
  bnd (up im 66 1 0) fun m3 =>
  some ((x1, m3))
set_option maxRecDepth 20000 in
set_option maxHeartbeats 4000000 in
theorem s_X6_text_j1 {g : GX}    (x1 : Int32)  (im : IM) : X g md_X6_text eI 38 [(0, .ref (g.1 0)), (1, .int x1)] [] im (f_X6_text_j1 x1 im) := by
  refine x_aload_n (q := 0) rfl rfl dX6_text_38 ?_
  refine x_get (C := RX6) (T := TX6) sh_0 (by decide) rfl in_X6 8 (by decide) fl_X6_50 xf_6_8 dX6_text_39 ?_
  refine x_iconst (v := (0)) (by decide) dX6_text_42 ?_
  refine x_put (C := RX1) (T := TX1) (ty := .int) tyX1 tyX1_ok nmX1 sh_66 (by decide) rfl in_X1 1 (by decide) (by decide) fl_X6_297 rfl (by decide +kernel) rfl rfl dX6_text_43 ?_
  refine x_bm (fun m3 => ?_)
  refine x_iload_n (q := 1) rfl rfl dX6_text_46 ?_
  exact x_iret rfl rfl dX6_text_47
def f_X6_text  (im : IM) : Option (Int32 × IM) :=
  (f_X5_become 31 1 im).bind fun r1 =>
  (f_X1_readText 31 r1).bind fun r2 =>
  if r2.1 ≤ 0 then
    f_X6_text_j1 r2.1 r2.2
  else
    (f_X5_become 1 31 r2.2).bind fun r4 =>
    f_X6_text_j1 r2.1 r4
set_option maxRecDepth 20000 in
set_option maxHeartbeats 4000000 in
theorem s_X6_text {g : GX}   (im : IM) : X g md_X6_text eI 0 [(0, .ref (g.1 0))] [] im (f_X6_text im) := by
  refine x_aload_n (q := 0) rfl rfl dX6_text_0 ?_
  refine x_get (C := RX6) (T := TX6) sh_0 (by decide) rfl in_X6 3 (by decide) fl_X6_23 xf_6_3 dX6_text_1 ?_
  refine x_aload_n (q := 0) rfl rfl dX6_text_4 ?_
  refine x_get (C := RX6) (T := TX6) sh_0 (by decide) rfl in_X6 0 (by decide) fl_X6_12 xf_6_0 dX6_text_5 ?_
  refine x_bind (fun r1 er1 => ?_)
  refine x_callVV (av := [.ref (g.1 1)]) (st := []) (m_X5_become xTo_c31 xTo_c1  im r1 er1) sh_31 (by decide) rfl rfl (by decide) (by decide) lk_X6_194 cd_X5_become xd_X5_become rfl (Nat.le_of_ble_eq_true rfl) dX6_text_8 ?_
  refine x_aload_n (q := 0) rfl rfl dX6_text_11 ?_
  refine x_get (C := RX6) (T := TX6) sh_0 (by decide) rfl in_X6 8 (by decide) fl_X6_50 xf_6_8 dX6_text_12 ?_
  refine x_aload_n (q := 0) rfl rfl dX6_text_15 ?_
  refine x_get (C := RX6) (T := TX6) sh_0 (by decide) rfl in_X6 3 (by decide) fl_X6_23 xf_6_3 dX6_text_16 ?_
  refine x_bind (fun r2 er2 => ?_)
  refine x_callVI (av := [.ref (g.1 31)]) (st := []) (m_X1_readText xTo_c31  r1 r2 er2) sh_66 (by decide) rfl rfl (by decide) (by decide) lk_X6_301 cd_X1_readText xd_X1_readText rfl (Nat.le_of_ble_eq_true rfl) dX6_text_19 ?_
  refine x_istore_n (lv' := [(1, .int r2.1), (0, .ref (g.1 0))]) rfl dX6_text_22 (by decide) rfl ?_
  refine x_iload_n (q := 0) rfl rfl dX6_text_23 ?_
  refine x_if_le (tgt := 38) dX6_text_24 (by decide) ?_ ?_
  · refine x_sub [1, 0] rfl ?_
    exact s_X6_text_j1 r2.1 r2.2
  · refine x_aload_n (q := 1) rfl rfl dX6_text_27 ?_
    refine x_get (C := RX6) (T := TX6) sh_0 (by decide) rfl in_X6 0 (by decide) fl_X6_12 xf_6_0 dX6_text_28 ?_
    refine x_aload_n (q := 1) rfl rfl dX6_text_31 ?_
    refine x_get (C := RX6) (T := TX6) sh_0 (by decide) rfl in_X6 3 (by decide) fl_X6_23 xf_6_3 dX6_text_32 ?_
    refine x_bind (fun r4 er4 => ?_)
    refine x_callVV (av := [.ref (g.1 31)]) (st := []) (m_X5_become xTo_c1 xTo_c31  r2.2 r4 er4) sh_1 (by decide) rfl rfl (by decide) (by decide) lk_X6_194 cd_X5_become xd_X5_become rfl (Nat.le_of_ble_eq_true rfl) dX6_text_35 ?_
    refine x_sub [1, 0] rfl ?_
    exact s_X6_text_j1 r2.1 r4
theorem m_X6_text {g : GX}   (im : IM) (r : Int32 × IM) (hr : f_X6_text im = some r) : xMet g 10 yX6_text cX6_text 2 (some .int) [.ref (g.1 0)] im (eI r) := x_met (by decide) (Nat.le_of_ble_eq_true rfl) rfl (s_X6_text im) r hr
abbrev md_X6_hold : xM := (2, 3, RX6, cX6_hold, (some .int))
def f_X6_hold_j1 (a1 : Int32) (a2 : Int32)   (im : IM) : Option (Int32 × IM) :=
  (f_X6_refuse ((-1000001)) im).bind fun r1 =>
  some ((r1.1, r1.2))
set_option maxRecDepth 20000 in
set_option maxHeartbeats 4000000 in
theorem s_X6_hold_j1 {g : GX} (a1 : Int32) (a2 : Int32)      (im : IM) : X g md_X6_hold eI 23 [(0, .ref (g.1 0))] [] im (f_X6_hold_j1 a1 a2 im) := by
  refine x_aload_n (q := 0) rfl rfl dX6_hold_23 ?_
  refine x_ldc co_X6_71 dX6_hold_24 ?_
  refine x_bind (fun r1 er1 => ?_)
  refine x_callVI (av := [.int ((-1000001))]) (st := []) (m_X6_refuse  (((-1000001))) im r1 er1) sh_0 (by decide) rfl rfl (by decide) (by decide) lk_X6_72 cd_X6_refuse xd_X6_refuse rfl (Nat.le_of_ble_eq_true rfl) dX6_hold_26 ?_
  exact x_iret rfl rfl dX6_hold_29
def f_X6_hold_j2 (a1 : Int32) (a2 : Int32)   (im : IM) : Option (Int32 × IM) :=
  if inb a1 10 = true then
    bnd (up im 5 (ix a1) a2) fun m2 =>
    some ((1, m2))
  else none
set_option maxRecDepth 20000 in
set_option maxHeartbeats 4000000 in
theorem s_X6_hold_j2 {g : GX} (a1 : Int32) (a2 : Int32)      (im : IM) : X g md_X6_hold eI 30 [(0, .ref (g.1 0)), (1, .int a1), (2, .int a2)] [] im (f_X6_hold_j2 a1 a2 im) := by
  refine x_aload_n (q := 0) rfl rfl dX6_hold_30 ?_
  refine x_get (C := RX6) (T := TX6) sh_0 (by decide) rfl in_X6 0 (by decide) fl_X6_12 xf_6_0 dX6_hold_31 ?_
  refine x_get (C := RX5) (T := TX5) sh_1 (by decide) rfl in_X5 3 (by decide) fl_X6_305 xf_5_3 dX6_hold_34 ?_
  refine x_iload_n (q := 1) rfl rfl dX6_hold_37 ?_
  refine x_iload_n (q := 2) rfl rfl dX6_hold_38 ?_
  refine x_iast sh_5 dX6_hold_39 ?_
  refine x_bm (fun m2 => ?_)
  refine x_iconst (v := (1)) (by decide) dX6_hold_40 ?_
  exact x_iret rfl rfl dX6_hold_41
def f_X6_hold (a1 : Int32) (a2 : Int32) (im : IM) : Option (Int32 × IM) :=
  if (f_X6_within a1 0 9) = 0 then
    f_X6_hold_j1 a1 a2 im
  else
    if a2 = ((-1)) then
      f_X6_hold_j2 a1 a2 im
    else
      if (f_X6_isThing a2 im) = 0 then
        f_X6_hold_j1 a1 a2 im
      else
        f_X6_hold_j2 a1 a2 im
set_option maxRecDepth 20000 in
set_option maxHeartbeats 4000000 in
theorem s_X6_hold {g : GX}   (a1 : Int32) (a2 : Int32) (im : IM) : X g md_X6_hold eI 0 [(0, .ref (g.1 0)), (1, .int a1), (2, .int a2)] [] im (f_X6_hold a1 a2 im) := by
  refine x_iload_n (q := 1) rfl rfl dX6_hold_0 ?_
  refine x_iconst (v := (0)) (by decide) dX6_hold_1 ?_
  refine x_bipush (v := (9)) (by decide) dX6_hold_2 ?_
  refine x_callSR (av := [.int a1, .int 0, .int 9]) (st := []) (m_X6_within  a1 0 9 im) rfl (by decide) (by decide) lk_X6_79 cd_X6_within xd_X6_within rfl (Nat.le_of_ble_eq_true rfl) dX6_hold_4 ?_
  refine x_if_eq (tgt := 23) dX6_hold_7 (by decide) ?_ ?_
  · refine x_sub [0] rfl ?_
    exact s_X6_hold_j1 a1 a2 im
  · refine x_iload_n (q := 2) rfl rfl dX6_hold_10 ?_
    refine x_iconst (v := (-1)) (by decide) dX6_hold_11 ?_
    refine x_icmp_eq (tgt := 30) dX6_hold_12 (by decide) ?_ ?_
    · refine x_sub [0, 1, 2] rfl ?_
      exact s_X6_hold_j2 a1 a2 im
    · refine x_aload_n (q := 0) rfl rfl dX6_hold_15 ?_
      refine x_iload_n (q := 2) rfl rfl dX6_hold_16 ?_
      refine x_callVR (av := [.int a2]) (st := []) (m_X6_isThing  a2 im) sh_0 (by decide) rfl rfl (by decide) (by decide) lk_X6_117 cd_X6_isThing xd_X6_isThing rfl (Nat.le_of_ble_eq_true rfl) dX6_hold_17 ?_
      refine x_if_ne (tgt := 30) dX6_hold_20 (by decide) ?_ ?_
      · refine x_sub [0, 1, 2] rfl ?_
        exact s_X6_hold_j2 a1 a2 im
      · refine x_sub [0] rfl ?_
        exact s_X6_hold_j1 a1 a2 im
theorem m_X6_hold {g : GX}   (a1 : Int32) (a2 : Int32) (im : IM) (r : Int32 × IM) (hr : f_X6_hold a1 a2 im = some r) : xMet g 2 yX6_hold cX6_hold 3 (some .int) [.ref (g.1 0), .int a1, .int a2] im (eI r) := x_met (by decide) (Nat.le_of_ble_eq_true rfl) rfl (s_X6_hold a1 a2 im) r hr
abbrev md_X6_as : xM := (2, 4, RX6, cX6_as, (some .int))
def f_X6_as_j1 (a1 : Int32) (a2 : Int32)   (im : IM) : Option (Int32 × IM) :=
  (f_X6_refuse ((-1000001)) im).bind fun r1 =>
  some ((r1.1, r1.2))
set_option maxRecDepth 20000 in
set_option maxHeartbeats 4000000 in
theorem s_X6_as_j1 {g : GX} (a1 : Int32) (a2 : Int32)      (im : IM) : X g md_X6_as eI 17 [(0, .ref (g.1 0))] [] im (f_X6_as_j1 a1 a2 im) := by
  refine x_aload_n (q := 0) rfl rfl dX6_as_17 ?_
  refine x_ldc co_X6_71 dX6_as_18 ?_
  refine x_bind (fun r1 er1 => ?_)
  refine x_callVI (av := [.int ((-1000001))]) (st := []) (m_X6_refuse  (((-1000001))) im r1 er1) sh_0 (by decide) rfl rfl (by decide) (by decide) lk_X6_72 cd_X6_refuse xd_X6_refuse rfl (Nat.le_of_ble_eq_true rfl) dX6_as_20 ?_
  exact x_iret rfl rfl dX6_as_23
def f_X6_as (a1 : Int32) (a2 : Int32) (im : IM) : Option (Int32 × IM) :=
  if (f_X6_within a1 0 9) = 0 then
    f_X6_as_j1 a1 a2 im
  else
    if (f_X6_isKind a2) = 0 then
      f_X6_as_j1 a1 a2 im
    else
      if inb a1 10 = true then
        bnd (im 5 (ix a1)) fun v2 =>
        if (f_X6_isThing v2 im) = 0 then
          (f_X6_refuse ((-1000006)) im).bind fun r6 =>
          some ((r6.1, r6.2))
        else
          if inb v2 10 = true then
            (f_X4_isOfKind (6 + ix v2) a2 im).bind fun r4 =>
            if r4 = 0 then
              (f_X6_refuse ((-1000003)) im).bind fun r5 =>
              some ((r5.1, r5.2))
            else
              some ((v2, im))
          else none
      else none
set_option maxRecDepth 20000 in
set_option maxHeartbeats 4000000 in
theorem s_X6_as {g : GX}   (a1 : Int32) (a2 : Int32) (im : IM) : X g md_X6_as eI 0 [(0, .ref (g.1 0)), (1, .int a1), (2, .int a2)] [] im (f_X6_as a1 a2 im) := by
  refine x_iload_n (q := 1) rfl rfl dX6_as_0 ?_
  refine x_iconst (v := (0)) (by decide) dX6_as_1 ?_
  refine x_bipush (v := (9)) (by decide) dX6_as_2 ?_
  refine x_callSR (av := [.int a1, .int 0, .int 9]) (st := []) (m_X6_within  a1 0 9 im) rfl (by decide) (by decide) lk_X6_79 cd_X6_within xd_X6_within rfl (Nat.le_of_ble_eq_true rfl) dX6_as_4 ?_
  refine x_if_eq (tgt := 17) dX6_as_7 (by decide) ?_ ?_
  · refine x_sub [0] rfl ?_
    exact s_X6_as_j1 a1 a2 im
  · refine x_iload_n (q := 2) rfl rfl dX6_as_10 ?_
    refine x_callSR (av := [.int a2]) (st := []) (m_X6_isKind  a2 im) rfl (by decide) (by decide) lk_X6_99 cd_X6_isKind xd_X6_isKind rfl (Nat.le_of_ble_eq_true rfl) dX6_as_11 ?_
    refine x_if_ne (tgt := 24) dX6_as_14 (by decide) ?_ ?_
    · refine x_aload_n (q := 0) rfl rfl dX6_as_24 ?_
      refine x_get (C := RX6) (T := TX6) sh_0 (by decide) rfl in_X6 0 (by decide) fl_X6_12 xf_6_0 dX6_as_25 ?_
      refine x_get (C := RX5) (T := TX5) sh_1 (by decide) rfl in_X5 3 (by decide) fl_X6_305 xf_5_3 dX6_as_28 ?_
      refine x_iload_n (q := 1) rfl rfl dX6_as_31 ?_
      refine x_iald sh_5 dX6_as_32 ?_
      refine x_bi (fun v2 => ?_)
      refine x_istore_n (lv' := [(3, .int v2), (0, .ref (g.1 0)), (1, .int a1), (2, .int a2)]) rfl dX6_as_33 (by decide) rfl ?_
      refine x_aload_n (q := 1) rfl rfl dX6_as_34 ?_
      refine x_iload_n (q := 0) rfl rfl dX6_as_35 ?_
      refine x_callVR (av := [.int v2]) (st := []) (m_X6_isThing  v2 im) sh_0 (by decide) rfl rfl (by decide) (by decide) lk_X6_117 cd_X6_isThing xd_X6_isThing rfl (Nat.le_of_ble_eq_true rfl) dX6_as_36 ?_
      refine x_if_ne (tgt := 50) dX6_as_39 (by decide) ?_ ?_
      · refine x_aload_n (q := 1) rfl rfl dX6_as_50 ?_
        refine x_get (C := RX6) (T := TX6) sh_0 (by decide) rfl in_X6 0 (by decide) fl_X6_12 xf_6_0 dX6_as_51 ?_
        refine x_get (C := RX5) (T := TX5) sh_1 (by decide) rfl in_X5 2 (by decide) fl_X6_120 xf_5_2 dX6_as_54 ?_
        refine x_iload_n (q := 0) rfl rfl dX6_as_57 ?_
        refine x_aldT sh_4 dX6_as_58 (fun hi3 => ?_)
        refine x_iload_n (q := 3) rfl rfl dX6_as_59 ?_
        refine x_bind (fun r4 er4 => ?_)
        refine x_callVR (av := [.int a2]) (st := []) (m_X4_isOfKind (xTh xTo_c1 hi3) a2 im r4 er4) (xTh xTo_c1 hi3) (by decide) rfl rfl (by decide) (by decide) lk_X6_309 cd_X4_isOfKind xd_X4_isOfKind rfl (Nat.le_of_ble_eq_true rfl) dX6_as_60 ?_
        refine x_if_eq (tgt := 70) dX6_as_63 (by decide) ?_ ?_
        · refine x_aload_n (q := 1) rfl rfl dX6_as_70 ?_
          refine x_ldcw co_X6_312 dX6_as_71 ?_
          refine x_bind (fun r5 er5 => ?_)
          refine x_callVI (av := [.int ((-1000003))]) (st := []) (m_X6_refuse  (((-1000003))) im r5 er5) sh_0 (by decide) rfl rfl (by decide) (by decide) lk_X6_72 cd_X6_refuse xd_X6_refuse rfl (Nat.le_of_ble_eq_true rfl) dX6_as_74 ?_
          exact x_iret rfl rfl dX6_as_77
        · refine x_iload_n (q := 0) rfl rfl dX6_as_66 ?_
          refine x_goto (tgt := 77) dX6_as_67 (by decide) ?_
          exact x_iret rfl rfl dX6_as_77
      · refine x_aload_n (q := 1) rfl rfl dX6_as_42 ?_
        refine x_ldcw co_X6_308 dX6_as_43 ?_
        refine x_bind (fun r6 er6 => ?_)
        refine x_callVI (av := [.int ((-1000006))]) (st := []) (m_X6_refuse  (((-1000006))) im r6 er6) sh_0 (by decide) rfl rfl (by decide) (by decide) lk_X6_72 cd_X6_refuse xd_X6_refuse rfl (Nat.le_of_ble_eq_true rfl) dX6_as_46 ?_
        exact x_iret rfl rfl dX6_as_49
    · refine x_sub [0] rfl ?_
      exact s_X6_as_j1 a1 a2 im
theorem m_X6_as {g : GX}   (a1 : Int32) (a2 : Int32) (im : IM) (r : Int32 × IM) (hr : f_X6_as a1 a2 im = some r) : xMet g 2 yX6_as cX6_as 4 (some .int) [.ref (g.1 0), .int a1, .int a2] im (eI r) := x_met (by decide) (Nat.le_of_ble_eq_true rfl) rfl (s_X6_as a1 a2 im) r hr
abbrev md_X6_sheet : xM := (2, 4, RX6, cX6_sheet, (some .int))
def f_X6_sheet_j1 (a1 : Int32) (a2 : Int32) (a3 : Int32)   (im : IM) : Option (Int32 × IM) :=
  (f_X6_refuse ((-1000001)) im).bind fun r1 =>
  some ((r1.1, r1.2))
set_option maxRecDepth 20000 in
set_option maxHeartbeats 4000000 in
theorem s_X6_sheet_j1 {g : GX} (a1 : Int32) (a2 : Int32) (a3 : Int32)      (im : IM) : X g md_X6_sheet eI 29 [(0, .ref (g.1 0))] [] im (f_X6_sheet_j1 a1 a2 a3 im) := by
  refine x_aload_n (q := 0) rfl rfl dX6_sheet_29 ?_
  refine x_ldc co_X6_71 dX6_sheet_30 ?_
  refine x_bind (fun r1 er1 => ?_)
  refine x_callVI (av := [.int ((-1000001))]) (st := []) (m_X6_refuse  (((-1000001))) im r1 er1) sh_0 (by decide) rfl rfl (by decide) (by decide) lk_X6_72 cd_X6_refuse xd_X6_refuse rfl (Nat.le_of_ble_eq_true rfl) dX6_sheet_32 ?_
  exact x_iret rfl rfl dX6_sheet_35
def f_X6_sheet_j2 (a1 : Int32) (a2 : Int32) (a3 : Int32)   (im : IM) : Option (Int32 × IM) :=
  if 0 ≤ a3 then
    if a3 ≤ 40 then
      if inb a1 4 = true then
        (f_X3_begin (74 + 2 * ix a1) a2 a3 im).bind fun r3 =>
        if inb a1 4 = true then
          some ((r3 (74 + 2 * ix a1) 2, r3))
        else none
      else none
    else
      (f_X6_refuse ((-1000001)) im).bind fun r5 =>
      some ((r5.1, r5.2))
  else
    (f_X6_refuse ((-1000007)) im).bind fun r6 =>
    some ((r6.1, r6.2))
set_option maxRecDepth 20000 in
set_option maxHeartbeats 4000000 in
theorem s_X6_sheet_j2 {g : GX} (a1 : Int32) (a2 : Int32) (a3 : Int32)      (im : IM) : X g md_X6_sheet eI 36 [(0, .ref (g.1 0)), (1, .int a1), (2, .int a2), (3, .int a3)] [] im (f_X6_sheet_j2 a1 a2 a3 im) := by
  refine x_iload_n (q := 3) rfl rfl dX6_sheet_36 ?_
  refine x_if_ge (tgt := 48) dX6_sheet_37 (by decide) ?_ ?_
  · refine x_iload_n (q := 3) rfl rfl dX6_sheet_48 ?_
    refine x_bipush (v := (40)) (by decide) dX6_sheet_49 ?_
    refine x_icmp_le (tgt := 61) dX6_sheet_51 (by decide) ?_ ?_
    · refine x_aload_n (q := 0) rfl rfl dX6_sheet_61 ?_
      refine x_get (C := RX6) (T := TX6) sh_0 (by decide) rfl in_X6 9 (by decide) fl_X6_56 xf_6_9 dX6_sheet_62 ?_
      refine x_iload_n (q := 1) rfl rfl dX6_sheet_65 ?_
      refine x_aldS sh_72 dX6_sheet_66 (fun hi2 => ?_)
      refine x_iload_n (q := 2) rfl rfl dX6_sheet_67 ?_
      refine x_iload_n (q := 3) rfl rfl dX6_sheet_68 ?_
      refine x_bind (fun r3 er3 => ?_)
      refine x_callVV (av := [.int a2, .int a3]) (st := []) (m_X3_begin (xShe hi2) a2 a3 im r3 er3) (xSs_o (xShe hi2)) (by decide) rfl rfl (by decide) (by decide) lk_X6_317 cd_X3_begin xd_X3_begin rfl (Nat.le_of_ble_eq_true rfl) dX6_sheet_69 ?_
      refine x_aload_n (q := 0) rfl rfl dX6_sheet_72 ?_
      refine x_get (C := RX6) (T := TX6) sh_0 (by decide) rfl in_X6 9 (by decide) fl_X6_56 xf_6_9 dX6_sheet_73 ?_
      refine x_iload_n (q := 1) rfl rfl dX6_sheet_76 ?_
      refine x_aldS sh_72 dX6_sheet_77 (fun hi4 => ?_)
      refine x_get (C := RX3) (T := TX3) (xSs_o (xShe hi4)) (by decide) rfl in_X3 2 (by decide) fl_X6_320 xf_3_2 dX6_sheet_78 ?_
      exact x_iret rfl rfl dX6_sheet_81
    · refine x_aload_n (q := 0) rfl rfl dX6_sheet_54 ?_
      refine x_ldc co_X6_71 dX6_sheet_55 ?_
      refine x_bind (fun r5 er5 => ?_)
      refine x_callVI (av := [.int ((-1000001))]) (st := []) (m_X6_refuse  (((-1000001))) im r5 er5) sh_0 (by decide) rfl rfl (by decide) (by decide) lk_X6_72 cd_X6_refuse xd_X6_refuse rfl (Nat.le_of_ble_eq_true rfl) dX6_sheet_57 ?_
      exact x_iret rfl rfl dX6_sheet_60
  · refine x_aload_n (q := 0) rfl rfl dX6_sheet_40 ?_
    refine x_ldcw co_X6_316 dX6_sheet_41 ?_
    refine x_bind (fun r6 er6 => ?_)
    refine x_callVI (av := [.int ((-1000007))]) (st := []) (m_X6_refuse  (((-1000007))) im r6 er6) sh_0 (by decide) rfl rfl (by decide) (by decide) lk_X6_72 cd_X6_refuse xd_X6_refuse rfl (Nat.le_of_ble_eq_true rfl) dX6_sheet_44 ?_
    exact x_iret rfl rfl dX6_sheet_47
def f_X6_sheet (a1 : Int32) (a2 : Int32) (a3 : Int32) (im : IM) : Option (Int32 × IM) :=
  if (f_X6_isSheet a1) = 0 then
    f_X6_sheet_j1 a1 a2 a3 im
  else
    if a2 = 0 then
      f_X6_sheet_j2 a1 a2 a3 im
    else
      if a2 = 8 then
        f_X6_sheet_j2 a1 a2 a3 im
      else
        if a2 = 16 then
          f_X6_sheet_j2 a1 a2 a3 im
        else
          if a2 = 32 then
            f_X6_sheet_j2 a1 a2 a3 im
          else
            f_X6_sheet_j1 a1 a2 a3 im
set_option maxRecDepth 20000 in
set_option maxHeartbeats 4000000 in
theorem s_X6_sheet {g : GX}    (a1 : Int32) (a2 : Int32) (a3 : Int32) (im : IM) : X g md_X6_sheet eI 0 [(0, .ref (g.1 0)), (1, .int a1), (2, .int a2), (3, .int a3)] [] im (f_X6_sheet a1 a2 a3 im) := by
  refine x_iload_n (q := 1) rfl rfl dX6_sheet_0 ?_
  refine x_callSR (av := [.int a1]) (st := []) (m_X6_isSheet  a1 im) rfl (by decide) (by decide) lk_X6_313 cd_X6_isSheet xd_X6_isSheet rfl (Nat.le_of_ble_eq_true rfl) dX6_sheet_1 ?_
  refine x_if_eq (tgt := 29) dX6_sheet_4 (by decide) ?_ ?_
  · refine x_sub [0] rfl ?_
    exact s_X6_sheet_j1 a1 a2 a3 im
  · refine x_iload_n (q := 2) rfl rfl dX6_sheet_7 ?_
    refine x_if_eq (tgt := 36) dX6_sheet_8 (by decide) ?_ ?_
    · refine x_sub [0, 1, 2, 3] rfl ?_
      exact s_X6_sheet_j2 a1 a2 a3 im
    · refine x_iload_n (q := 2) rfl rfl dX6_sheet_11 ?_
      refine x_bipush (v := (8)) (by decide) dX6_sheet_12 ?_
      refine x_icmp_eq (tgt := 36) dX6_sheet_14 (by decide) ?_ ?_
      · refine x_sub [0, 1, 2, 3] rfl ?_
        exact s_X6_sheet_j2 a1 a2 a3 im
      · refine x_iload_n (q := 2) rfl rfl dX6_sheet_17 ?_
        refine x_bipush (v := (16)) (by decide) dX6_sheet_18 ?_
        refine x_icmp_eq (tgt := 36) dX6_sheet_20 (by decide) ?_ ?_
        · refine x_sub [0, 1, 2, 3] rfl ?_
          exact s_X6_sheet_j2 a1 a2 a3 im
        · refine x_iload_n (q := 2) rfl rfl dX6_sheet_23 ?_
          refine x_bipush (v := (32)) (by decide) dX6_sheet_24 ?_
          refine x_icmp_eq (tgt := 36) dX6_sheet_26 (by decide) ?_ ?_
          · refine x_sub [0, 1, 2, 3] rfl ?_
            exact s_X6_sheet_j2 a1 a2 a3 im
          · refine x_sub [0] rfl ?_
            exact s_X6_sheet_j1 a1 a2 a3 im
theorem m_X6_sheet {g : GX}    (a1 : Int32) (a2 : Int32) (a3 : Int32) (im : IM) (r : Int32 × IM) (hr : f_X6_sheet a1 a2 a3 im = some r) : xMet g 2 yX6_sheet cX6_sheet 4 (some .int) [.ref (g.1 0), .int a1, .int a2, .int a3] im (eI r) := x_met (by decide) (Nat.le_of_ble_eq_true rfl) rfl (s_X6_sheet a1 a2 a3 im) r hr
abbrev md_X6_write : xM := (2, 4, RX6, cX6_write, (some .int))
def f_X6_write (a1 : Int32) (a2 : Int32) (a3 : Int32) (im : IM) : Option (Int32 × IM) :=
  if (f_X6_isSheet a1) = 0 then
    (f_X6_refuse ((-1000001)) im).bind fun r8 =>
    some ((r8.1, r8.2))
  else
    if inb a1 4 = true then
      if (f_X3_isMissing (74 + 2 * ix a1) im) = 0 then
        if inb a1 4 = true then
          if (f_X6_within a2 0 ((im (74 + 2 * ix a1) 2) - 1)) = 0 then
            (f_X6_refuse ((-1000001)) im).bind fun r6 =>
            some ((r6.1, r6.2))
          else
            if inb a1 4 = true then
              if inb a1 4 = true then
                if inb a2 40 = true then
                  bnd (up im ((74 + 2 * ix a1) + 1) (ix a2) (f_X3_cutToBits (74 + 2 * ix a1) a3 im)) fun m5 =>
                  some ((1, m5))
                else none
              else none
            else none
        else none
      else
        (f_X6_refuse ((-1000006)) im).bind fun r7 =>
        some ((r7.1, r7.2))
    else none
set_option maxRecDepth 20000 in
set_option maxHeartbeats 4000000 in
theorem s_X6_write {g : GX}    (a1 : Int32) (a2 : Int32) (a3 : Int32) (im : IM) : X g md_X6_write eI 0 [(0, .ref (g.1 0)), (1, .int a1), (2, .int a2), (3, .int a3)] [] im (f_X6_write a1 a2 a3 im) := by
  refine x_iload_n (q := 1) rfl rfl dX6_write_0 ?_
  refine x_callSR (av := [.int a1]) (st := []) (m_X6_isSheet  a1 im) rfl (by decide) (by decide) lk_X6_313 cd_X6_isSheet xd_X6_isSheet rfl (Nat.le_of_ble_eq_true rfl) dX6_write_1 ?_
  refine x_if_ne (tgt := 14) dX6_write_4 (by decide) ?_ ?_
  · refine x_aload_n (q := 0) rfl rfl dX6_write_14 ?_
    refine x_get (C := RX6) (T := TX6) sh_0 (by decide) rfl in_X6 9 (by decide) fl_X6_56 xf_6_9 dX6_write_15 ?_
    refine x_iload_n (q := 1) rfl rfl dX6_write_18 ?_
    refine x_aldS sh_72 dX6_write_19 (fun hi1 => ?_)
    refine x_callVR (av := []) (st := []) (m_X3_isMissing (xShe hi1)  im) (xSs_o (xShe hi1)) (by decide) rfl rfl (by decide) (by decide) lk_X6_321 cd_X3_isMissing xd_X3_isMissing rfl (Nat.le_of_ble_eq_true rfl) dX6_write_20 ?_
    refine x_if_eq (tgt := 34) dX6_write_23 (by decide) ?_ ?_
    · refine x_iload_n (q := 2) rfl rfl dX6_write_34 ?_
      refine x_iconst (v := (0)) (by decide) dX6_write_35 ?_
      refine x_aload_n (q := 0) rfl rfl dX6_write_36 ?_
      refine x_get (C := RX6) (T := TX6) sh_0 (by decide) rfl in_X6 9 (by decide) fl_X6_56 xf_6_9 dX6_write_37 ?_
      refine x_iload_n (q := 1) rfl rfl dX6_write_40 ?_
      refine x_aldS sh_72 dX6_write_41 (fun hi2 => ?_)
      refine x_get (C := RX3) (T := TX3) (xSs_o (xShe hi2)) (by decide) rfl in_X3 2 (by decide) fl_X6_320 xf_3_2 dX6_write_42 ?_
      refine x_iconst (v := (1)) (by decide) dX6_write_45 ?_
      refine x_isub dX6_write_46 ?_
      refine x_callSR (av := [.int a2, .int 0, .int ((im (74 + 2 * ix a1) 2) - 1)]) (st := []) (m_X6_within  a2 0 (((im (74 + 2 * ix a1) 2) - 1)) im) rfl (by decide) (by decide) lk_X6_79 cd_X6_within xd_X6_within rfl (Nat.le_of_ble_eq_true rfl) dX6_write_47 ?_
      refine x_if_ne (tgt := 60) dX6_write_50 (by decide) ?_ ?_
      · refine x_aload_n (q := 0) rfl rfl dX6_write_60 ?_
        refine x_get (C := RX6) (T := TX6) sh_0 (by decide) rfl in_X6 9 (by decide) fl_X6_56 xf_6_9 dX6_write_61 ?_
        refine x_iload_n (q := 1) rfl rfl dX6_write_64 ?_
        refine x_aldS sh_72 dX6_write_65 (fun hi3 => ?_)
        refine x_get (C := RX3) (T := TX3) (xSs_o (xShe hi3)) (by decide) rfl in_X3 0 (by decide) fl_X6_324 xf_3_0 dX6_write_66 ?_
        refine x_iload_n (q := 2) rfl rfl dX6_write_69 ?_
        refine x_aload_n (q := 0) rfl rfl dX6_write_70 ?_
        refine x_get (C := RX6) (T := TX6) sh_0 (by decide) rfl in_X6 9 (by decide) fl_X6_56 xf_6_9 dX6_write_71 ?_
        refine x_iload_n (q := 1) rfl rfl dX6_write_74 ?_
        refine x_aldS sh_72 dX6_write_75 (fun hi4 => ?_)
        refine x_iload_n (q := 3) rfl rfl dX6_write_76 ?_
        refine x_callVR (av := [.int a3]) (st := [.int a2, .ref (g.1 (((74 + 2 * ix a1) + 1)))]) (m_X3_cutToBits (xShe hi4) a3 im) (xSs_o (xShe hi4)) (by decide) rfl rfl (by decide) (by decide) lk_X6_327 cd_X3_cutToBits xd_X3_cutToBits rfl (Nat.le_of_ble_eq_true rfl) dX6_write_77 ?_
        refine x_iast (xSs_1 (xShe hi3)) dX6_write_80 ?_
        refine x_bm (fun m5 => ?_)
        refine x_iconst (v := (1)) (by decide) dX6_write_81 ?_
        exact x_iret rfl rfl dX6_write_82
      · refine x_aload_n (q := 0) rfl rfl dX6_write_53 ?_
        refine x_ldc co_X6_71 dX6_write_54 ?_
        refine x_bind (fun r6 er6 => ?_)
        refine x_callVI (av := [.int ((-1000001))]) (st := []) (m_X6_refuse  (((-1000001))) im r6 er6) sh_0 (by decide) rfl rfl (by decide) (by decide) lk_X6_72 cd_X6_refuse xd_X6_refuse rfl (Nat.le_of_ble_eq_true rfl) dX6_write_56 ?_
        exact x_iret rfl rfl dX6_write_59
    · refine x_aload_n (q := 0) rfl rfl dX6_write_26 ?_
      refine x_ldcw co_X6_308 dX6_write_27 ?_
      refine x_bind (fun r7 er7 => ?_)
      refine x_callVI (av := [.int ((-1000006))]) (st := []) (m_X6_refuse  (((-1000006))) im r7 er7) sh_0 (by decide) rfl rfl (by decide) (by decide) lk_X6_72 cd_X6_refuse xd_X6_refuse rfl (Nat.le_of_ble_eq_true rfl) dX6_write_30 ?_
      exact x_iret rfl rfl dX6_write_33
  · refine x_aload_n (q := 0) rfl rfl dX6_write_7 ?_
    refine x_ldc co_X6_71 dX6_write_8 ?_
    refine x_bind (fun r8 er8 => ?_)
    refine x_callVI (av := [.int ((-1000001))]) (st := []) (m_X6_refuse  (((-1000001))) im r8 er8) sh_0 (by decide) rfl rfl (by decide) (by decide) lk_X6_72 cd_X6_refuse xd_X6_refuse rfl (Nat.le_of_ble_eq_true rfl) dX6_write_10 ?_
    exact x_iret rfl rfl dX6_write_13
theorem m_X6_write {g : GX}    (a1 : Int32) (a2 : Int32) (a3 : Int32) (im : IM) (r : Int32 × IM) (hr : f_X6_write a1 a2 a3 im = some r) : xMet g 2 yX6_write cX6_write 4 (some .int) [.ref (g.1 0), .int a1, .int a2, .int a3] im (eI r) := x_met (by decide) (Nat.le_of_ble_eq_true rfl) rfl (s_X6_write a1 a2 a3 im) r hr
abbrev md_X6_copy : xM := (2, 6, RX6, cX6_copy, (some .int))
def f_X6_copy_j1 (a1 : Int32) (a2 : Int32) (a3 : Int32) (a4 : Int32) (a5 : Int32)   (im : IM) : Option (Int32 × IM) :=
  (f_X6_refuse ((-1000001)) im).bind fun r1 =>
  some ((r1.1, r1.2))
set_option maxRecDepth 20000 in
set_option maxHeartbeats 4000000 in
theorem s_X6_copy_j1 {g : GX} (a1 : Int32) (a2 : Int32) (a3 : Int32) (a4 : Int32) (a5 : Int32)      (im : IM) : X g md_X6_copy eI 14 [(0, .ref (g.1 0))] [] im (f_X6_copy_j1 a1 a2 a3 a4 a5 im) := by
  refine x_aload_n (q := 0) rfl rfl dX6_copy_14 ?_
  refine x_ldc co_X6_71 dX6_copy_15 ?_
  refine x_bind (fun r1 er1 => ?_)
  refine x_callVI (av := [.int ((-1000001))]) (st := []) (m_X6_refuse  (((-1000001))) im r1 er1) sh_0 (by decide) rfl rfl (by decide) (by decide) lk_X6_72 cd_X6_refuse xd_X6_refuse rfl (Nat.le_of_ble_eq_true rfl) dX6_copy_17 ?_
  exact x_iret rfl rfl dX6_copy_20
def f_X6_copy_j2 (a1 : Int32) (a2 : Int32) (a3 : Int32) (a4 : Int32) (a5 : Int32)   (im : IM) : Option (Int32 × IM) :=
  (f_X6_refuse ((-1000006)) im).bind fun r3 =>
  some ((r3.1, r3.2))
set_option maxRecDepth 20000 in
set_option maxHeartbeats 4000000 in
theorem s_X6_copy_j2 {g : GX} (a1 : Int32) (a2 : Int32) (a3 : Int32) (a4 : Int32) (a5 : Int32)      (im : IM) : X g md_X6_copy eI 45 [(0, .ref (g.1 0))] [] im (f_X6_copy_j2 a1 a2 a3 a4 a5 im) := by
  refine x_aload_n (q := 0) rfl rfl dX6_copy_45 ?_
  refine x_ldcw co_X6_308 dX6_copy_46 ?_
  refine x_bind (fun r3 er3 => ?_)
  refine x_callVI (av := [.int ((-1000006))]) (st := []) (m_X6_refuse  (((-1000006))) im r3 er3) sh_0 (by decide) rfl rfl (by decide) (by decide) lk_X6_72 cd_X6_refuse xd_X6_refuse rfl (Nat.le_of_ble_eq_true rfl) dX6_copy_49 ?_
  exact x_iret rfl rfl dX6_copy_52
def f_X6_copy_j3 (a1 : Int32) (a2 : Int32) (a3 : Int32) (a4 : Int32) (a5 : Int32)   (im : IM) : Option (Int32 × IM) :=
  (f_X6_refuse ((-1000001)) im).bind fun r8 =>
  some ((r8.1, r8.2))
set_option maxRecDepth 20000 in
set_option maxHeartbeats 4000000 in
theorem s_X6_copy_j3 {g : GX} (a1 : Int32) (a2 : Int32) (a3 : Int32) (a4 : Int32) (a5 : Int32)      (im : IM) : X g md_X6_copy eI 113 [(0, .ref (g.1 0))] [] im (f_X6_copy_j3 a1 a2 a3 a4 a5 im) := by
  refine x_aload_n (q := 0) rfl rfl dX6_copy_113 ?_
  refine x_ldc co_X6_71 dX6_copy_114 ?_
  refine x_bind (fun r8 er8 => ?_)
  refine x_callVI (av := [.int ((-1000001))]) (st := []) (m_X6_refuse  (((-1000001))) im r8 er8) sh_0 (by decide) rfl rfl (by decide) (by decide) lk_X6_72 cd_X6_refuse xd_X6_refuse rfl (Nat.le_of_ble_eq_true rfl) dX6_copy_116 ?_
  exact x_iret rfl rfl dX6_copy_119
def f_X6_copy (a1 : Int32) (a2 : Int32) (a3 : Int32) (a4 : Int32) (a5 : Int32) (im : IM) : Option (Int32 × IM) :=
  if (f_X6_isSheet a1) = 0 then
    f_X6_copy_j1 a1 a2 a3 a4 a5 im
  else
    if (f_X6_isSheet a3) = 0 then
      f_X6_copy_j1 a1 a2 a3 a4 a5 im
    else
      if inb a1 4 = true then
        if (f_X3_isMissing (74 + 2 * ix a1) im) = 0 then
          if inb a3 4 = true then
            if (f_X3_isMissing (74 + 2 * ix a3) im) = 0 then
              if inb a1 4 = true then
                if inb a3 4 = true then
                  if (im (74 + 2 * ix a1) 1) = (im (74 + 2 * ix a3) 1) then
                    if inb a1 4 = true then
                      if (f_X3_hasPart (74 + 2 * ix a1) a2 a5 im) = 0 then
                        f_X6_copy_j3 a1 a2 a3 a4 a5 im
                      else
                        if inb a3 4 = true then
                          if (f_X3_hasPart (74 + 2 * ix a3) a4 a5 im) = 0 then
                            f_X6_copy_j3 a1 a2 a3 a4 a5 im
                          else
                            if inb a1 4 = true then
                              if inb a3 4 = true then
                                if cpk a2 a4 a5 40 40 = true then
                                  bnd (upA im ((74 + 2 * ix a3) + 1) (va_cpy (im ((74 + 2 * ix a1) + 1)) (im ((74 + 2 * ix a3) + 1)) (ix a2) (ix a4) (ix a5))) fun m12 =>
                                  some ((a5, m12))
                                else none
                              else none
                            else none
                        else none
                    else none
                  else
                    (f_X6_refuse ((-1000003)) im).bind fun r13 =>
                    some ((r13.1, r13.2))
                else none
              else none
            else
              f_X6_copy_j2 a1 a2 a3 a4 a5 im
          else none
        else
          f_X6_copy_j2 a1 a2 a3 a4 a5 im
      else none
set_option maxRecDepth 20000 in
set_option maxHeartbeats 4000000 in
theorem s_X6_copy {g : GX}      (a1 : Int32) (a2 : Int32) (a3 : Int32) (a4 : Int32) (a5 : Int32) (im : IM) : X g md_X6_copy eI 0 [(0, .ref (g.1 0)), (1, .int a1), (2, .int a2), (3, .int a3), (4, .int a4), (5, .int a5)] [] im (f_X6_copy a1 a2 a3 a4 a5 im) := by
  refine x_iload_n (q := 1) rfl rfl dX6_copy_0 ?_
  refine x_callSR (av := [.int a1]) (st := []) (m_X6_isSheet  a1 im) rfl (by decide) (by decide) lk_X6_313 cd_X6_isSheet xd_X6_isSheet rfl (Nat.le_of_ble_eq_true rfl) dX6_copy_1 ?_
  refine x_if_eq (tgt := 14) dX6_copy_4 (by decide) ?_ ?_
  · refine x_sub [0] rfl ?_
    exact s_X6_copy_j1 a1 a2 a3 a4 a5 im
  · refine x_iload_n (q := 3) rfl rfl dX6_copy_7 ?_
    refine x_callSR (av := [.int a3]) (st := []) (m_X6_isSheet  a3 im) rfl (by decide) (by decide) lk_X6_313 cd_X6_isSheet xd_X6_isSheet rfl (Nat.le_of_ble_eq_true rfl) dX6_copy_8 ?_
    refine x_if_ne (tgt := 21) dX6_copy_11 (by decide) ?_ ?_
    · refine x_aload_n (q := 0) rfl rfl dX6_copy_21 ?_
      refine x_get (C := RX6) (T := TX6) sh_0 (by decide) rfl in_X6 9 (by decide) fl_X6_56 xf_6_9 dX6_copy_22 ?_
      refine x_iload_n (q := 1) rfl rfl dX6_copy_25 ?_
      refine x_aldS sh_72 dX6_copy_26 (fun hi2 => ?_)
      refine x_callVR (av := []) (st := []) (m_X3_isMissing (xShe hi2)  im) (xSs_o (xShe hi2)) (by decide) rfl rfl (by decide) (by decide) lk_X6_321 cd_X3_isMissing xd_X3_isMissing rfl (Nat.le_of_ble_eq_true rfl) dX6_copy_27 ?_
      refine x_if_ne (tgt := 45) dX6_copy_30 (by decide) ?_ ?_
      · refine x_sub [0] rfl ?_
        exact s_X6_copy_j2 a1 a2 a3 a4 a5 im
      · refine x_aload_n (q := 0) rfl rfl dX6_copy_33 ?_
        refine x_get (C := RX6) (T := TX6) sh_0 (by decide) rfl in_X6 9 (by decide) fl_X6_56 xf_6_9 dX6_copy_34 ?_
        refine x_iload_n (q := 3) rfl rfl dX6_copy_37 ?_
        refine x_aldS sh_72 dX6_copy_38 (fun hi4 => ?_)
        refine x_callVR (av := []) (st := []) (m_X3_isMissing (xShe hi4)  im) (xSs_o (xShe hi4)) (by decide) rfl rfl (by decide) (by decide) lk_X6_321 cd_X3_isMissing xd_X3_isMissing rfl (Nat.le_of_ble_eq_true rfl) dX6_copy_39 ?_
        refine x_if_eq (tgt := 53) dX6_copy_42 (by decide) ?_ ?_
        · refine x_aload_n (q := 0) rfl rfl dX6_copy_53 ?_
          refine x_get (C := RX6) (T := TX6) sh_0 (by decide) rfl in_X6 9 (by decide) fl_X6_56 xf_6_9 dX6_copy_54 ?_
          refine x_iload_n (q := 1) rfl rfl dX6_copy_57 ?_
          refine x_aldS sh_72 dX6_copy_58 (fun hi5 => ?_)
          refine x_get (C := RX3) (T := TX3) (xSs_o (xShe hi5)) (by decide) rfl in_X3 1 (by decide) fl_X6_330 xf_3_1 dX6_copy_59 ?_
          refine x_aload_n (q := 0) rfl rfl dX6_copy_62 ?_
          refine x_get (C := RX6) (T := TX6) sh_0 (by decide) rfl in_X6 9 (by decide) fl_X6_56 xf_6_9 dX6_copy_63 ?_
          refine x_iload_n (q := 3) rfl rfl dX6_copy_66 ?_
          refine x_aldS sh_72 dX6_copy_67 (fun hi6 => ?_)
          refine x_get (C := RX3) (T := TX3) (xSs_o (xShe hi6)) (by decide) rfl in_X3 1 (by decide) fl_X6_330 xf_3_1 dX6_copy_68 ?_
          refine x_icmp_eq (tgt := 82) dX6_copy_71 (by decide) ?_ ?_
          · refine x_aload_n (q := 0) rfl rfl dX6_copy_82 ?_
            refine x_get (C := RX6) (T := TX6) sh_0 (by decide) rfl in_X6 9 (by decide) fl_X6_56 xf_6_9 dX6_copy_83 ?_
            refine x_iload_n (q := 1) rfl rfl dX6_copy_86 ?_
            refine x_aldS sh_72 dX6_copy_87 (fun hi7 => ?_)
            refine x_iload_n (q := 2) rfl rfl dX6_copy_88 ?_
            refine x_iload (q := 5) rfl dX6_copy_89 ?_
            refine x_callVR (av := [.int a2, .int a5]) (st := []) (m_X3_hasPart (xShe hi7) a2 a5 im) (xSs_o (xShe hi7)) (by decide) rfl rfl (by decide) (by decide) lk_X6_333 cd_X3_hasPart xd_X3_hasPart rfl (Nat.le_of_ble_eq_true rfl) dX6_copy_91 ?_
            refine x_if_eq (tgt := 113) dX6_copy_94 (by decide) ?_ ?_
            · refine x_sub [0] rfl ?_
              exact s_X6_copy_j3 a1 a2 a3 a4 a5 im
            · refine x_aload_n (q := 0) rfl rfl dX6_copy_97 ?_
              refine x_get (C := RX6) (T := TX6) sh_0 (by decide) rfl in_X6 9 (by decide) fl_X6_56 xf_6_9 dX6_copy_98 ?_
              refine x_iload_n (q := 3) rfl rfl dX6_copy_101 ?_
              refine x_aldS sh_72 dX6_copy_102 (fun hi9 => ?_)
              refine x_iload (q := 4) rfl dX6_copy_103 ?_
              refine x_iload (q := 5) rfl dX6_copy_105 ?_
              refine x_callVR (av := [.int a4, .int a5]) (st := []) (m_X3_hasPart (xShe hi9) a4 a5 im) (xSs_o (xShe hi9)) (by decide) rfl rfl (by decide) (by decide) lk_X6_333 cd_X3_hasPart xd_X3_hasPart rfl (Nat.le_of_ble_eq_true rfl) dX6_copy_107 ?_
              refine x_if_ne (tgt := 120) dX6_copy_110 (by decide) ?_ ?_
              · refine x_aload_n (q := 0) rfl rfl dX6_copy_120 ?_
                refine x_get (C := RX6) (T := TX6) sh_0 (by decide) rfl in_X6 9 (by decide) fl_X6_56 xf_6_9 dX6_copy_121 ?_
                refine x_iload_n (q := 1) rfl rfl dX6_copy_124 ?_
                refine x_aldS sh_72 dX6_copy_125 (fun hi10 => ?_)
                refine x_get (C := RX3) (T := TX3) (xSs_o (xShe hi10)) (by decide) rfl in_X3 0 (by decide) fl_X6_324 xf_3_0 dX6_copy_126 ?_
                refine x_iload_n (q := 2) rfl rfl dX6_copy_129 ?_
                refine x_aload_n (q := 0) rfl rfl dX6_copy_130 ?_
                refine x_get (C := RX6) (T := TX6) sh_0 (by decide) rfl in_X6 9 (by decide) fl_X6_56 xf_6_9 dX6_copy_131 ?_
                refine x_iload_n (q := 3) rfl rfl dX6_copy_134 ?_
                refine x_aldS sh_72 dX6_copy_135 (fun hi11 => ?_)
                refine x_get (C := RX3) (T := TX3) (xSs_o (xShe hi11)) (by decide) rfl in_X3 0 (by decide) fl_X6_324 xf_3_0 dX6_copy_136 ?_
                refine x_iload (q := 4) rfl dX6_copy_139 ?_
                refine x_iload (q := 5) rfl dX6_copy_141 ?_
                refine x_copy (xSs_1 (xShe hi10)) (xSs_1 (xShe hi11)) lk_X6_336 (by decide) (Nat.le_of_ble_eq_true rfl) dX6_copy_143 ?_
                refine x_bm (fun m12 => ?_)
                refine x_iload (q := 5) rfl dX6_copy_146 ?_
                exact x_iret rfl rfl dX6_copy_148
              · refine x_sub [0] rfl ?_
                exact s_X6_copy_j3 a1 a2 a3 a4 a5 im
          · refine x_aload_n (q := 0) rfl rfl dX6_copy_74 ?_
            refine x_ldcw co_X6_312 dX6_copy_75 ?_
            refine x_bind (fun r13 er13 => ?_)
            refine x_callVI (av := [.int ((-1000003))]) (st := []) (m_X6_refuse  (((-1000003))) im r13 er13) sh_0 (by decide) rfl rfl (by decide) (by decide) lk_X6_72 cd_X6_refuse xd_X6_refuse rfl (Nat.le_of_ble_eq_true rfl) dX6_copy_78 ?_
            exact x_iret rfl rfl dX6_copy_81
        · refine x_sub [0] rfl ?_
          exact s_X6_copy_j2 a1 a2 a3 a4 a5 im
    · refine x_sub [0] rfl ?_
      exact s_X6_copy_j1 a1 a2 a3 a4 a5 im
theorem m_X6_copy {g : GX}      (a1 : Int32) (a2 : Int32) (a3 : Int32) (a4 : Int32) (a5 : Int32) (im : IM) (r : Int32 × IM) (hr : f_X6_copy a1 a2 a3 a4 a5 im = some r) : xMet g 2 yX6_copy cX6_copy 6 (some .int) [.ref (g.1 0), .int a1, .int a2, .int a3, .int a4, .int a5] im (eI r) := x_met (by decide) (Nat.le_of_ble_eq_true rfl) rfl (s_X6_copy a1 a2 a3 a4 a5 im) r hr
abbrev md_X6_load : xM := (2, 5, RX6, cX6_load, (some .int))
def f_X6_load_j2 (a1 : Int32) (a2 : Int32)  (x4 : Int32) (im : IM) : Option (Int32 × IM) :=
  some ((x4, im))
set_option maxRecDepth 20000 in
set_option maxHeartbeats 4000000 in
theorem s_X6_load_j2 {g : GX} (a1 : Int32) (a2 : Int32)    (x4 : Int32)  (im : IM) : X g md_X6_load eI 122 [(4, .int x4)] [] im (f_X6_load_j2 a1 a2 x4 im) := by
  refine x_iload (q := 0) rfl dX6_load_122 ?_
  exact x_iret rfl rfl dX6_load_124
def f_X6_load_l1b (a1 : Int32) (a2 : Int32)   (k68 : Int32 → Int32 → IM → Option (Int32 × IM)) (x3 : Int32) (x4 : Int32) (im : IM) : Option (Int32 × IM) :=
  if x3 ≤ x4 then
    f_X6_load_j2 a1 a2 x4 im
  else
    if inb a1 4 = true then
      if inb x4 40 = true then
        if (f_X6_isFall (im ((74 + 2 * ix a1) + 1) (ix x4))) = 0 then
          f_X6_load_j2 a1 a2 x4 im
        else
          if inb a1 4 = true then
            if inb x4 40 = true then
              if inb (a2 + x4) 31 = true then
                bnd (up im 2 (ix (a2 + x4)) (im ((74 + 2 * ix a1) + 1) (ix x4))) fun m6 =>
                bnd (x4 + 1) fun v7 =>
                k68 x3 v7 m6
              else none
            else none
          else none
      else none
    else none
def f_X6_load_l1 (a1 : Int32) (a2 : Int32)   : Nat → Int32 → Int32 → IM → Option (Int32 × IM)
  | 0, _, _, _ => none
  | n + 1, x3, x4, im => f_X6_load_l1b a1 a2 (f_X6_load_l1 a1 a2 n) x3 x4 im
set_option maxRecDepth 20000 in
set_option maxHeartbeats 4000000 in
theorem s_X6_load_l1b {g : GX} (a1 : Int32) (a2 : Int32)    (k68 : Int32 → Int32 → IM → Option (Int32 × IM)) (hk68 : ∀ (x3 : Int32) (x4 : Int32) (im : IM), X g md_X6_load eI 68 [(0, .ref (g.1 0)), (1, .int a1), (2, .int a2), (3, .int x3), (4, .int x4)] [] im (k68 x3 x4 im)) (x3 : Int32) (x4 : Int32)  (im : IM) : X g md_X6_load eI 68 [(0, .ref (g.1 0)), (1, .int a1), (2, .int a2), (3, .int x3), (4, .int x4)] [] im (f_X6_load_l1b a1 a2 k68 x3 x4 im) := by
  refine x_iload (q := 4) rfl dX6_load_68 ?_
  refine x_iload_n (q := 3) rfl rfl dX6_load_70 ?_
  refine x_icmp_ge (tgt := 122) dX6_load_71 (by decide) ?_ ?_
  · refine x_sub [4] rfl ?_
    exact s_X6_load_j2 a1 a2 x4 im
  · refine x_aload_n (q := 0) rfl rfl dX6_load_74 ?_
    refine x_get (C := RX6) (T := TX6) sh_0 (by decide) rfl in_X6 9 (by decide) fl_X6_56 xf_6_9 dX6_load_75 ?_
    refine x_iload_n (q := 1) rfl rfl dX6_load_78 ?_
    refine x_aldS sh_72 dX6_load_79 (fun hi4 => ?_)
    refine x_get (C := RX3) (T := TX3) (xSs_o (xShe hi4)) (by decide) rfl in_X3 0 (by decide) fl_X6_324 xf_3_0 dX6_load_80 ?_
    refine x_iload (q := 4) rfl dX6_load_83 ?_
    refine x_iald (xSs_1 (xShe hi4)) dX6_load_85 ?_
    refine x_callSR (av := [.int (im ((74 + 2 * ix a1) + 1) (ix x4))]) (st := []) (m_X6_isFall  ((im ((74 + 2 * ix a1) + 1) (ix x4))) im) rfl (by decide) (by decide) lk_X6_68 cd_X6_isFall xd_X6_isFall rfl (Nat.le_of_ble_eq_true rfl) dX6_load_86 ?_
    refine x_if_eq (tgt := 122) dX6_load_89 (by decide) ?_ ?_
    · refine x_sub [4] rfl ?_
      exact s_X6_load_j2 a1 a2 x4 im
    · refine x_aload_n (q := 0) rfl rfl dX6_load_92 ?_
      refine x_get (C := RX6) (T := TX6) sh_0 (by decide) rfl in_X6 0 (by decide) fl_X6_12 xf_6_0 dX6_load_93 ?_
      refine x_get (C := RX5) (T := TX5) sh_1 (by decide) rfl in_X5 0 (by decide) fl_X6_76 xf_5_0 dX6_load_96 ?_
      refine x_iload_n (q := 2) rfl rfl dX6_load_99 ?_
      refine x_iload (q := 4) rfl dX6_load_100 ?_
      refine x_iadd dX6_load_102 ?_
      refine x_aload_n (q := 0) rfl rfl dX6_load_103 ?_
      refine x_get (C := RX6) (T := TX6) sh_0 (by decide) rfl in_X6 9 (by decide) fl_X6_56 xf_6_9 dX6_load_104 ?_
      refine x_iload_n (q := 1) rfl rfl dX6_load_107 ?_
      refine x_aldS sh_72 dX6_load_108 (fun hi5 => ?_)
      refine x_get (C := RX3) (T := TX3) (xSs_o (xShe hi5)) (by decide) rfl in_X3 0 (by decide) fl_X6_324 xf_3_0 dX6_load_109 ?_
      refine x_iload (q := 4) rfl dX6_load_112 ?_
      refine x_iald (xSs_1 (xShe hi5)) dX6_load_114 ?_
      refine x_iast sh_2 dX6_load_115 ?_
      refine x_bm (fun m6 => ?_)
      refine x_iinc (q := 4) (a := 1) (lv' := fun v7 => [(4, .int v7), (0, .ref (g.1 0)), (1, .int a1), (2, .int a2), (3, .int x3)]) dX6_load_116 rfl (by decide) (by decide) (fun _ => rfl) (fun v7 => ?_)
      refine x_goto (tgt := 68) dX6_load_119 (by decide) ?_
      refine x_sub [1, 2, 3, 4, 0] rfl ?_
      exact hk68 x3 v7 m6
set_option maxRecDepth 20000 in
set_option maxHeartbeats 4000000 in
theorem s_X6_load_l1 {g : GX} (a1 : Int32) (a2 : Int32)    (n : Nat) : ∀ (x3 : Int32) (x4 : Int32) (im : IM), X g md_X6_load eI 68 [(0, .ref (g.1 0)), (1, .int a1), (2, .int a2), (3, .int x3), (4, .int x4)] [] im (f_X6_load_l1 a1 a2 n x3 x4 im) := by
  induction n with
  | zero => intro x3 x4 im; exact x_none
  | succ n ih => intro x3 x4 im; exact s_X6_load_l1b a1 a2 (f_X6_load_l1 a1 a2 n) ih x3 x4 im
def f_X6_load (a1 : Int32) (a2 : Int32) (im : IM) : Option (Int32 × IM) :=
  if (f_X6_isSheet a1) = 0 then
    (f_X6_refuse ((-1000001)) im).bind fun r10 =>
    some ((r10.1, r10.2))
  else
    if inb a1 4 = true then
      if (f_X3_isMissing (74 + 2 * ix a1) im) = 0 then
        if (f_X6_isCell a2) = 0 then
          (f_X6_refuse ((-1000001)) im).bind fun r8 =>
          some ((r8.1, r8.2))
        else
          if inb a1 4 = true then
            bnd (jmin (im (74 + 2 * ix a1) 2) (31 - a2)) fun v3 =>
            f_X6_load_l1 a1 a2 xF v3 0 im
          else none
      else
        (f_X6_refuse ((-1000006)) im).bind fun r9 =>
        some ((r9.1, r9.2))
    else none
set_option maxRecDepth 20000 in
set_option maxHeartbeats 4000000 in
theorem s_X6_load {g : GX}   (a1 : Int32) (a2 : Int32) (im : IM) : X g md_X6_load eI 0 [(0, .ref (g.1 0)), (1, .int a1), (2, .int a2)] [] im (f_X6_load a1 a2 im) := by
  refine x_iload_n (q := 1) rfl rfl dX6_load_0 ?_
  refine x_callSR (av := [.int a1]) (st := []) (m_X6_isSheet  a1 im) rfl (by decide) (by decide) lk_X6_313 cd_X6_isSheet xd_X6_isSheet rfl (Nat.le_of_ble_eq_true rfl) dX6_load_1 ?_
  refine x_if_ne (tgt := 14) dX6_load_4 (by decide) ?_ ?_
  · refine x_aload_n (q := 0) rfl rfl dX6_load_14 ?_
    refine x_get (C := RX6) (T := TX6) sh_0 (by decide) rfl in_X6 9 (by decide) fl_X6_56 xf_6_9 dX6_load_15 ?_
    refine x_iload_n (q := 1) rfl rfl dX6_load_18 ?_
    refine x_aldS sh_72 dX6_load_19 (fun hi1 => ?_)
    refine x_callVR (av := []) (st := []) (m_X3_isMissing (xShe hi1)  im) (xSs_o (xShe hi1)) (by decide) rfl rfl (by decide) (by decide) lk_X6_321 cd_X3_isMissing xd_X3_isMissing rfl (Nat.le_of_ble_eq_true rfl) dX6_load_20 ?_
    refine x_if_eq (tgt := 34) dX6_load_23 (by decide) ?_ ?_
    · refine x_iload_n (q := 2) rfl rfl dX6_load_34 ?_
      refine x_callSR (av := [.int a2]) (st := []) (m_X6_isCell  a2 im) rfl (by decide) (by decide) lk_X6_64 cd_X6_isCell xd_X6_isCell rfl (Nat.le_of_ble_eq_true rfl) dX6_load_35 ?_
      refine x_if_ne (tgt := 48) dX6_load_38 (by decide) ?_ ?_
      · refine x_aload_n (q := 0) rfl rfl dX6_load_48 ?_
        refine x_get (C := RX6) (T := TX6) sh_0 (by decide) rfl in_X6 9 (by decide) fl_X6_56 xf_6_9 dX6_load_49 ?_
        refine x_iload_n (q := 1) rfl rfl dX6_load_52 ?_
        refine x_aldS sh_72 dX6_load_53 (fun hi2 => ?_)
        refine x_get (C := RX3) (T := TX3) (xSs_o (xShe hi2)) (by decide) rfl in_X3 2 (by decide) fl_X6_320 xf_3_2 dX6_load_54 ?_
        refine x_bipush (v := (31)) (by decide) dX6_load_57 ?_
        refine x_iload_n (q := 2) rfl rfl dX6_load_59 ?_
        refine x_isub dX6_load_60 ?_
        refine x_mmin lk_X6_342 (by decide) (Nat.le_of_ble_eq_true rfl) dX6_load_61 ?_
        refine x_bi (fun v3 => ?_)
        refine x_istore_n (lv' := [(3, .int v3), (0, .ref (g.1 0)), (1, .int a1), (2, .int a2)]) rfl dX6_load_64 (by decide) rfl ?_
        refine x_iconst (v := (0)) (by decide) dX6_load_65 ?_
        refine x_istore (lv' := [(4, .int 0), (3, .int v3), (0, .ref (g.1 0)), (1, .int a1), (2, .int a2)]) dX6_load_66 (by decide) rfl ?_
        refine x_sub [2, 3, 4, 1, 0] rfl ?_
        exact s_X6_load_l1 a1 a2 xF v3 0 im
      · refine x_aload_n (q := 0) rfl rfl dX6_load_41 ?_
        refine x_ldc co_X6_71 dX6_load_42 ?_
        refine x_bind (fun r8 er8 => ?_)
        refine x_callVI (av := [.int ((-1000001))]) (st := []) (m_X6_refuse  (((-1000001))) im r8 er8) sh_0 (by decide) rfl rfl (by decide) (by decide) lk_X6_72 cd_X6_refuse xd_X6_refuse rfl (Nat.le_of_ble_eq_true rfl) dX6_load_44 ?_
        exact x_iret rfl rfl dX6_load_47
    · refine x_aload_n (q := 0) rfl rfl dX6_load_26 ?_
      refine x_ldcw co_X6_308 dX6_load_27 ?_
      refine x_bind (fun r9 er9 => ?_)
      refine x_callVI (av := [.int ((-1000006))]) (st := []) (m_X6_refuse  (((-1000006))) im r9 er9) sh_0 (by decide) rfl rfl (by decide) (by decide) lk_X6_72 cd_X6_refuse xd_X6_refuse rfl (Nat.le_of_ble_eq_true rfl) dX6_load_30 ?_
      exact x_iret rfl rfl dX6_load_33
  · refine x_aload_n (q := 0) rfl rfl dX6_load_7 ?_
    refine x_ldc co_X6_71 dX6_load_8 ?_
    refine x_bind (fun r10 er10 => ?_)
    refine x_callVI (av := [.int ((-1000001))]) (st := []) (m_X6_refuse  (((-1000001))) im r10 er10) sh_0 (by decide) rfl rfl (by decide) (by decide) lk_X6_72 cd_X6_refuse xd_X6_refuse rfl (Nat.le_of_ble_eq_true rfl) dX6_load_10 ?_
    exact x_iret rfl rfl dX6_load_13
theorem m_X6_load {g : GX}   (a1 : Int32) (a2 : Int32) (im : IM) (r : Int32 × IM) (hr : f_X6_load a1 a2 im = some r) : xMet g 2 yX6_load cX6_load 5 (some .int) [.ref (g.1 0), .int a1, .int a2] im (eI r) := x_met (by decide) (Nat.le_of_ble_eq_true rfl) rfl (s_X6_load a1 a2 im) r hr
abbrev md_X6_judge : xM := (4, 4, RX6, cX6_judge, (some .int))
def f_X6_judge_l1b (a1 : Int32) (a2 : Int32)   (k92 : Int32 → IM → Option (Int32 × IM)) (x3 : Int32) (im : IM) : Option (Int32 × IM) :=
  if inb a1 4 = true then
    if (im (74 + 2 * ix a1) 2) ≤ x3 then
      some ((0, im))
    else
      (f_X5_passMinute 31 im).bind fun r5 =>
      if inb a2 10 = true then
        if inb a1 4 = true then
          if inb x3 40 = true then
            if (r5.2 (36 + ix a2) 4) = (r5.2 ((74 + 2 * ix a1) + 1) (ix x3)) then
              bnd (x3 + 1) fun v8 =>
              k92 v8 r5.2
            else
              some ((1 + x3, r5.2))
          else none
        else none
      else none
  else none
def f_X6_judge_l1 (a1 : Int32) (a2 : Int32)   : Nat → Int32 → IM → Option (Int32 × IM)
  | 0, _, _ => none
  | n + 1, x3, im => f_X6_judge_l1b a1 a2 (f_X6_judge_l1 a1 a2 n) x3 im
set_option maxRecDepth 20000 in
set_option maxHeartbeats 4000000 in
theorem s_X6_judge_l1b {g : GX} (a1 : Int32) (a2 : Int32)    (k92 : Int32 → IM → Option (Int32 × IM)) (hk92 : ∀ (x3 : Int32) (im : IM), X g md_X6_judge eI 92 [(0, .ref (g.1 0)), (1, .int a1), (2, .int a2), (3, .int x3)] [] im (k92 x3 im)) (x3 : Int32)  (im : IM) : X g md_X6_judge eI 92 [(0, .ref (g.1 0)), (1, .int a1), (2, .int a2), (3, .int x3)] [] im (f_X6_judge_l1b a1 a2 k92 x3 im) := by
  refine x_iload_n (q := 3) rfl rfl dX6_judge_92 ?_
  refine x_aload_n (q := 0) rfl rfl dX6_judge_93 ?_
  refine x_get (C := RX6) (T := TX6) sh_0 (by decide) rfl in_X6 9 (by decide) fl_X6_56 xf_6_9 dX6_judge_94 ?_
  refine x_iload_n (q := 1) rfl rfl dX6_judge_97 ?_
  refine x_aldS sh_72 dX6_judge_98 (fun hi4 => ?_)
  refine x_get (C := RX3) (T := TX3) (xSs_o (xShe hi4)) (by decide) rfl in_X3 2 (by decide) fl_X6_320 xf_3_2 dX6_judge_99 ?_
  refine x_icmp_ge (tgt := 149) dX6_judge_102 (by decide) ?_ ?_
  · refine x_iconst (v := (0)) (by decide) dX6_judge_149 ?_
    exact x_iret rfl rfl dX6_judge_150
  · refine x_aload_n (q := 0) rfl rfl dX6_judge_105 ?_
    refine x_get (C := RX6) (T := TX6) sh_0 (by decide) rfl in_X6 3 (by decide) fl_X6_23 xf_6_3 dX6_judge_106 ?_
    refine x_bind (fun r5 er5 => ?_)
    refine x_callVI (av := []) (st := []) (m_X5_passMinute xTo_c31  im r5 er5) sh_31 (by decide) rfl rfl (by decide) (by decide) lk_X6_240 cd_X5_passMinute xd_X5_passMinute rfl (Nat.le_of_ble_eq_true rfl) dX6_judge_109 ?_
    refine x_pop rfl dX6_judge_112 ?_
    refine x_aload_n (q := 0) rfl rfl dX6_judge_113 ?_
    refine x_get (C := RX6) (T := TX6) sh_0 (by decide) rfl in_X6 3 (by decide) fl_X6_23 xf_6_3 dX6_judge_114 ?_
    refine x_get (C := RX5) (T := TX5) sh_31 (by decide) rfl in_X5 2 (by decide) fl_X6_120 xf_5_2 dX6_judge_117 ?_
    refine x_iload_n (q := 2) rfl rfl dX6_judge_120 ?_
    refine x_aldT sh_34 dX6_judge_121 (fun hi6 => ?_)
    refine x_get (C := RX4) (T := TX4) (xTh xTo_c31 hi6) (by decide) rfl in_X4 4 (by decide) fl_X6_138 xf_4_4 dX6_judge_122 ?_
    refine x_aload_n (q := 0) rfl rfl dX6_judge_125 ?_
    refine x_get (C := RX6) (T := TX6) sh_0 (by decide) rfl in_X6 9 (by decide) fl_X6_56 xf_6_9 dX6_judge_126 ?_
    refine x_iload_n (q := 1) rfl rfl dX6_judge_129 ?_
    refine x_aldS sh_72 dX6_judge_130 (fun hi7 => ?_)
    refine x_get (C := RX3) (T := TX3) (xSs_o (xShe hi7)) (by decide) rfl in_X3 0 (by decide) fl_X6_324 xf_3_0 dX6_judge_131 ?_
    refine x_iload_n (q := 3) rfl rfl dX6_judge_134 ?_
    refine x_iald (xSs_1 (xShe hi7)) dX6_judge_135 ?_
    refine x_icmp_eq (tgt := 143) dX6_judge_136 (by decide) ?_ ?_
    · refine x_iinc (q := 3) (a := 1) (lv' := fun v8 => [(3, .int v8), (0, .ref (g.1 0)), (1, .int a1), (2, .int a2)]) dX6_judge_143 rfl (by decide) (by decide) (fun _ => rfl) (fun v8 => ?_)
      refine x_goto (tgt := 92) dX6_judge_146 (by decide) ?_
      refine x_sub [1, 2, 3, 0] rfl ?_
      exact hk92 v8 r5.2
    · refine x_iconst (v := (1)) (by decide) dX6_judge_139 ?_
      refine x_iload_n (q := 3) rfl rfl dX6_judge_140 ?_
      refine x_iadd dX6_judge_141 ?_
      exact x_iret rfl rfl dX6_judge_142
set_option maxRecDepth 20000 in
set_option maxHeartbeats 4000000 in
theorem s_X6_judge_l1 {g : GX} (a1 : Int32) (a2 : Int32)    (n : Nat) : ∀ (x3 : Int32) (im : IM), X g md_X6_judge eI 92 [(0, .ref (g.1 0)), (1, .int a1), (2, .int a2), (3, .int x3)] [] im (f_X6_judge_l1 a1 a2 n x3 im) := by
  induction n with
  | zero => intro x3 im; exact x_none
  | succ n ih => intro x3 im; exact s_X6_judge_l1b a1 a2 (f_X6_judge_l1 a1 a2 n) ih x3 im
def f_X6_judge (a1 : Int32) (a2 : Int32) (im : IM) : Option (Int32 × IM) :=
  if (f_X6_isSheet a1) = 0 then
    (f_X6_refuse ((-1000001)) im).bind fun r12 =>
    some ((r12.1, r12.2))
  else
    if inb a1 4 = true then
      if (f_X3_isMissing (74 + 2 * ix a1) im) = 0 then
        if (f_X6_isThing a2 im) = 0 then
          (f_X6_refuse ((-1000001)) im).bind fun r10 =>
          some ((r10.1, r10.2))
        else
          if inb a1 4 = true then
            if (im 1 7) ≤ (9999 - (im (74 + 2 * ix a1) 2)) then
              (f_X5_become 31 1 im).bind fun r3 =>
              f_X6_judge_l1 a1 a2 xF 0 r3
            else
              (f_X6_refuse ((-1000005)) im).bind fun r9 =>
              some ((r9.1, r9.2))
          else none
      else
        (f_X6_refuse ((-1000006)) im).bind fun r11 =>
        some ((r11.1, r11.2))
    else none
set_option maxRecDepth 20000 in
set_option maxHeartbeats 4000000 in
theorem s_X6_judge {g : GX}   (a1 : Int32) (a2 : Int32) (im : IM) : X g md_X6_judge eI 0 [(0, .ref (g.1 0)), (1, .int a1), (2, .int a2)] [] im (f_X6_judge a1 a2 im) := by
  refine x_iload_n (q := 1) rfl rfl dX6_judge_0 ?_
  refine x_callSR (av := [.int a1]) (st := []) (m_X6_isSheet  a1 im) rfl (by decide) (by decide) lk_X6_313 cd_X6_isSheet xd_X6_isSheet rfl (Nat.le_of_ble_eq_true rfl) dX6_judge_1 ?_
  refine x_if_ne (tgt := 14) dX6_judge_4 (by decide) ?_ ?_
  · refine x_aload_n (q := 0) rfl rfl dX6_judge_14 ?_
    refine x_get (C := RX6) (T := TX6) sh_0 (by decide) rfl in_X6 9 (by decide) fl_X6_56 xf_6_9 dX6_judge_15 ?_
    refine x_iload_n (q := 1) rfl rfl dX6_judge_18 ?_
    refine x_aldS sh_72 dX6_judge_19 (fun hi1 => ?_)
    refine x_callVR (av := []) (st := []) (m_X3_isMissing (xShe hi1)  im) (xSs_o (xShe hi1)) (by decide) rfl rfl (by decide) (by decide) lk_X6_321 cd_X3_isMissing xd_X3_isMissing rfl (Nat.le_of_ble_eq_true rfl) dX6_judge_20 ?_
    refine x_if_eq (tgt := 34) dX6_judge_23 (by decide) ?_ ?_
    · refine x_aload_n (q := 0) rfl rfl dX6_judge_34 ?_
      refine x_iload_n (q := 2) rfl rfl dX6_judge_35 ?_
      refine x_callVR (av := [.int a2]) (st := []) (m_X6_isThing  a2 im) sh_0 (by decide) rfl rfl (by decide) (by decide) lk_X6_117 cd_X6_isThing xd_X6_isThing rfl (Nat.le_of_ble_eq_true rfl) dX6_judge_36 ?_
      refine x_if_ne (tgt := 49) dX6_judge_39 (by decide) ?_ ?_
      · refine x_aload_n (q := 0) rfl rfl dX6_judge_49 ?_
        refine x_get (C := RX6) (T := TX6) sh_0 (by decide) rfl in_X6 0 (by decide) fl_X6_12 xf_6_0 dX6_judge_50 ?_
        refine x_get (C := RX5) (T := TX5) sh_1 (by decide) rfl in_X5 7 (by decide) fl_X6_177 xf_5_7 dX6_judge_53 ?_
        refine x_sipush (v := (9999)) (by decide) dX6_judge_56 ?_
        refine x_aload_n (q := 0) rfl rfl dX6_judge_59 ?_
        refine x_get (C := RX6) (T := TX6) sh_0 (by decide) rfl in_X6 9 (by decide) fl_X6_56 xf_6_9 dX6_judge_60 ?_
        refine x_iload_n (q := 1) rfl rfl dX6_judge_63 ?_
        refine x_aldS sh_72 dX6_judge_64 (fun hi2 => ?_)
        refine x_get (C := RX3) (T := TX3) (xSs_o (xShe hi2)) (by decide) rfl in_X3 2 (by decide) fl_X6_320 xf_3_2 dX6_judge_65 ?_
        refine x_isub dX6_judge_68 ?_
        refine x_icmp_le (tgt := 79) dX6_judge_69 (by decide) ?_ ?_
        · refine x_aload_n (q := 0) rfl rfl dX6_judge_79 ?_
          refine x_get (C := RX6) (T := TX6) sh_0 (by decide) rfl in_X6 3 (by decide) fl_X6_23 xf_6_3 dX6_judge_80 ?_
          refine x_aload_n (q := 0) rfl rfl dX6_judge_83 ?_
          refine x_get (C := RX6) (T := TX6) sh_0 (by decide) rfl in_X6 0 (by decide) fl_X6_12 xf_6_0 dX6_judge_84 ?_
          refine x_bind (fun r3 er3 => ?_)
          refine x_callVV (av := [.ref (g.1 1)]) (st := []) (m_X5_become xTo_c31 xTo_c1  im r3 er3) sh_31 (by decide) rfl rfl (by decide) (by decide) lk_X6_194 cd_X5_become xd_X5_become rfl (Nat.le_of_ble_eq_true rfl) dX6_judge_87 ?_
          refine x_iconst (v := (0)) (by decide) dX6_judge_90 ?_
          refine x_istore_n (lv' := [(3, .int 0), (0, .ref (g.1 0)), (1, .int a1), (2, .int a2)]) rfl dX6_judge_91 (by decide) rfl ?_
          refine x_sub [1, 2, 3, 0] rfl ?_
          exact s_X6_judge_l1 a1 a2 xF 0 r3
        · refine x_aload_n (q := 0) rfl rfl dX6_judge_72 ?_
          refine x_ldc co_X6_169 dX6_judge_73 ?_
          refine x_bind (fun r9 er9 => ?_)
          refine x_callVI (av := [.int ((-1000005))]) (st := []) (m_X6_refuse  (((-1000005))) im r9 er9) sh_0 (by decide) rfl rfl (by decide) (by decide) lk_X6_72 cd_X6_refuse xd_X6_refuse rfl (Nat.le_of_ble_eq_true rfl) dX6_judge_75 ?_
          exact x_iret rfl rfl dX6_judge_78
      · refine x_aload_n (q := 0) rfl rfl dX6_judge_42 ?_
        refine x_ldc co_X6_71 dX6_judge_43 ?_
        refine x_bind (fun r10 er10 => ?_)
        refine x_callVI (av := [.int ((-1000001))]) (st := []) (m_X6_refuse  (((-1000001))) im r10 er10) sh_0 (by decide) rfl rfl (by decide) (by decide) lk_X6_72 cd_X6_refuse xd_X6_refuse rfl (Nat.le_of_ble_eq_true rfl) dX6_judge_45 ?_
        exact x_iret rfl rfl dX6_judge_48
    · refine x_aload_n (q := 0) rfl rfl dX6_judge_26 ?_
      refine x_ldcw co_X6_308 dX6_judge_27 ?_
      refine x_bind (fun r11 er11 => ?_)
      refine x_callVI (av := [.int ((-1000006))]) (st := []) (m_X6_refuse  (((-1000006))) im r11 er11) sh_0 (by decide) rfl rfl (by decide) (by decide) lk_X6_72 cd_X6_refuse xd_X6_refuse rfl (Nat.le_of_ble_eq_true rfl) dX6_judge_30 ?_
      exact x_iret rfl rfl dX6_judge_33
  · refine x_aload_n (q := 0) rfl rfl dX6_judge_7 ?_
    refine x_ldc co_X6_71 dX6_judge_8 ?_
    refine x_bind (fun r12 er12 => ?_)
    refine x_callVI (av := [.int ((-1000001))]) (st := []) (m_X6_refuse  (((-1000001))) im r12 er12) sh_0 (by decide) rfl rfl (by decide) (by decide) lk_X6_72 cd_X6_refuse xd_X6_refuse rfl (Nat.le_of_ble_eq_true rfl) dX6_judge_10 ?_
    exact x_iret rfl rfl dX6_judge_13
theorem m_X6_judge {g : GX}   (a1 : Int32) (a2 : Int32) (im : IM) (r : Int32 × IM) (hr : f_X6_judge a1 a2 im = some r) : xMet g 4 yX6_judge cX6_judge 4 (some .int) [.ref (g.1 0), .int a1, .int a2] im (eI r) := x_met (by decide) (Nat.le_of_ble_eq_true rfl) rfl (s_X6_judge a1 a2 im) r hr
abbrev md_X6_image : xM := (2, 1, RX6, cX6_image, (some .int))
def f_X6_image  (im : IM) : Option (Int32 × IM) :=
  (f_X5_become 16 1 im).bind fun r1 =>
  bnd (up r1 0 2 1) fun m2 =>
  some ((1, m2))
set_option maxRecDepth 20000 in
set_option maxHeartbeats 4000000 in
theorem s_X6_image {g : GX}   (im : IM) : X g md_X6_image eI 0 [(0, .ref (g.1 0))] [] im (f_X6_image im) := by
  refine x_aload_n (q := 0) rfl rfl dX6_image_0 ?_
  refine x_get (C := RX6) (T := TX6) sh_0 (by decide) rfl in_X6 1 (by decide) fl_X6_16 xf_6_1 dX6_image_1 ?_
  refine x_aload_n (q := 0) rfl rfl dX6_image_4 ?_
  refine x_get (C := RX6) (T := TX6) sh_0 (by decide) rfl in_X6 0 (by decide) fl_X6_12 xf_6_0 dX6_image_5 ?_
  refine x_bind (fun r1 er1 => ?_)
  refine x_callVV (av := [.ref (g.1 1)]) (st := []) (m_X5_become xTo_c16 xTo_c1  im r1 er1) sh_16 (by decide) rfl rfl (by decide) (by decide) lk_X6_194 cd_X5_become xd_X5_become rfl (Nat.le_of_ble_eq_true rfl) dX6_image_8 ?_
  refine x_aload_n (q := 0) rfl rfl dX6_image_11 ?_
  refine x_iconst (v := (1)) (by decide) dX6_image_12 ?_
  refine x_put (C := RX6) (T := TX6) (ty := .boolean) tyX6 tyX6_ok nmX6 sh_0 (by decide) rfl in_X6 2 (by decide) (by decide) fl_X6_19 rfl (by decide +kernel) (by decide) (by decide) dX6_image_13 ?_
  refine x_bm (fun m2 => ?_)
  refine x_iconst (v := (1)) (by decide) dX6_image_16 ?_
  exact x_iret rfl rfl dX6_image_17
theorem m_X6_image {g : GX}   (im : IM) (r : Int32 × IM) (hr : f_X6_image im = some r) : xMet g 2 yX6_image cX6_image 1 (some .int) [.ref (g.1 0)] im (eI r) := x_met (by decide) (Nat.le_of_ble_eq_true rfl) rfl (s_X6_image im) r hr
abbrev md_X6_undo : xM := (2, 1, RX6, cX6_undo, (some .int))
def f_X6_undo  (im : IM) : Option (Int32 × IM) :=
  if (im 0 2) = 0 then
    (f_X6_refuse ((-1000004)) im).bind fun r2 =>
    some ((r2.1, r2.2))
  else
    (f_X5_become 1 16 im).bind fun r1 =>
    some ((r1 1 7, r1))
set_option maxRecDepth 20000 in
set_option maxHeartbeats 4000000 in
theorem s_X6_undo {g : GX}   (im : IM) : X g md_X6_undo eI 0 [(0, .ref (g.1 0))] [] im (f_X6_undo im) := by
  refine x_aload_n (q := 0) rfl rfl dX6_undo_0 ?_
  refine x_get (C := RX6) (T := TX6) sh_0 (by decide) rfl in_X6 2 (by decide) fl_X6_19 xf_6_2 dX6_undo_1 ?_
  refine x_if_ne (tgt := 14) dX6_undo_4 (by decide) ?_ ?_
  · refine x_aload_n (q := 0) rfl rfl dX6_undo_14 ?_
    refine x_get (C := RX6) (T := TX6) sh_0 (by decide) rfl in_X6 0 (by decide) fl_X6_12 xf_6_0 dX6_undo_15 ?_
    refine x_aload_n (q := 0) rfl rfl dX6_undo_18 ?_
    refine x_get (C := RX6) (T := TX6) sh_0 (by decide) rfl in_X6 1 (by decide) fl_X6_16 xf_6_1 dX6_undo_19 ?_
    refine x_bind (fun r1 er1 => ?_)
    refine x_callVV (av := [.ref (g.1 16)]) (st := []) (m_X5_become xTo_c1 xTo_c16  im r1 er1) sh_1 (by decide) rfl rfl (by decide) (by decide) lk_X6_194 cd_X5_become xd_X5_become rfl (Nat.le_of_ble_eq_true rfl) dX6_undo_22 ?_
    refine x_aload_n (q := 0) rfl rfl dX6_undo_25 ?_
    refine x_get (C := RX6) (T := TX6) sh_0 (by decide) rfl in_X6 0 (by decide) fl_X6_12 xf_6_0 dX6_undo_26 ?_
    refine x_get (C := RX5) (T := TX5) sh_1 (by decide) rfl in_X5 7 (by decide) fl_X6_177 xf_5_7 dX6_undo_29 ?_
    exact x_iret rfl rfl dX6_undo_32
  · refine x_aload_n (q := 0) rfl rfl dX6_undo_7 ?_
    refine x_ldc co_X6_207 dX6_undo_8 ?_
    refine x_bind (fun r2 er2 => ?_)
    refine x_callVI (av := [.int ((-1000004))]) (st := []) (m_X6_refuse  (((-1000004))) im r2 er2) sh_0 (by decide) rfl rfl (by decide) (by decide) lk_X6_72 cd_X6_refuse xd_X6_refuse rfl (Nat.le_of_ble_eq_true rfl) dX6_undo_10 ?_
    exact x_iret rfl rfl dX6_undo_13
theorem m_X6_undo {g : GX}   (im : IM) (r : Int32 × IM) (hr : f_X6_undo im = some r) : xMet g 2 yX6_undo cX6_undo 1 (some .int) [.ref (g.1 0)] im (eI r) := x_met (by decide) (Nat.le_of_ble_eq_true rfl) rfl (s_X6_undo im) r hr
abbrev md_X6_tear : xM := (0, 2, RX6, cX6_tear, (some .int))
def f_X6_tear_j1   (s0 : Int32) (im : IM) : Int32 × IM :=
  bnd (up im 0 2 0) fun m1 =>
  ((s0, m1))
set_option maxRecDepth 20000 in
set_option maxHeartbeats 4000000 in
theorem s_X6_tear_j1 {g : GX}    (s0 : Int32)  (im : IM) : X g md_X6_tear eI 12 [(0, .ref (g.1 0))] [.int s0] im (some (f_X6_tear_j1 s0 im)) := by
  refine x_istore_n (lv' := [(1, .int s0), (0, .ref (g.1 0))]) rfl dX6_tear_12 (by decide) rfl ?_
  refine x_aload_n (q := 1) rfl rfl dX6_tear_13 ?_
  refine x_iconst (v := (0)) (by decide) dX6_tear_14 ?_
  refine x_put (C := RX6) (T := TX6) (ty := .boolean) tyX6 tyX6_ok nmX6 sh_0 (by decide) rfl in_X6 2 (by decide) (by decide) fl_X6_19 rfl (by decide +kernel) (by decide) (by decide) dX6_tear_15 ?_
  refine x_bs (x_bm (fun m1 => ?_))
  refine x_iload_n (q := 0) rfl rfl dX6_tear_18 ?_
  exact x_iret rfl rfl dX6_tear_19
def f_X6_tear  (im : IM) : Int32 × IM :=
  if (im 0 2) = 0 then
    f_X6_tear_j1 0 im
  else
    f_X6_tear_j1 1 im
set_option maxRecDepth 20000 in
set_option maxHeartbeats 4000000 in
theorem s_X6_tear {g : GX}   (im : IM) : X g md_X6_tear eI 0 [(0, .ref (g.1 0))] [] im (some (f_X6_tear im)) := by
  refine x_aload_n (q := 0) rfl rfl dX6_tear_0 ?_
  refine x_get (C := RX6) (T := TX6) sh_0 (by decide) rfl in_X6 2 (by decide) fl_X6_19 xf_6_2 dX6_tear_1 ?_
  refine x_cs ?_
  refine x_if_eq (tgt := 11) dX6_tear_4 (by decide) ?_ ?_
  · refine x_iconst (v := (0)) (by decide) dX6_tear_11 ?_
    refine x_sub [0] rfl ?_
    exact s_X6_tear_j1 0 im
  · refine x_iconst (v := (1)) (by decide) dX6_tear_7 ?_
    refine x_goto (tgt := 12) dX6_tear_8 (by decide) ?_
    refine x_sub [0] rfl ?_
    exact s_X6_tear_j1 1 im
theorem m_X6_tear {g : GX}   (im : IM) : xMet g 0 yX6_tear cX6_tear 2 (some .int) [.ref (g.1 0)] im (eI (f_X6_tear im)) := x_met (by decide) (Nat.le_of_ble_eq_true rfl) rfl (s_X6_tear im) _ rfl
abbrev md_X6_count : xM := (2, 2, RX6, cX6_count, (some .int))
def f_X6_count (a1 : Int32) (im : IM) : Option (Int32 × IM) :=
  if a1 = 0 then
    some ((im 1 7, im))
  else if a1 = 1 then
    some ((im 1 4, im))
  else if a1 = 2 then
    (f_X5_damageOfAll 1 im).bind fun r1 =>
    some ((r1, im))
  else if a1 = 3 then
    (f_X5_weightOfAll 1 im).bind fun r2 =>
    some ((r2, im))
  else if a1 = 4 then
    (f_X5_cellsOfStone 1 im).bind fun r3 =>
    some ((r3, im))
  else if a1 = 5 then
    some ((im 66 1, im))
  else if a1 = 6 then
    some ((im 1 8, im))
  else if a1 = 7 then
    (f_X5_spotsInUse 1 im).bind fun r4 =>
    some ((r4, im))
  else 
    (f_X6_refuse ((-1000001)) im).bind fun r5 =>
    some ((r5.1, r5.2))
set_option maxRecDepth 20000 in
set_option maxHeartbeats 4000000 in
theorem s_X6_count {g : GX}  (a1 : Int32) (im : IM) : X g md_X6_count eI 0 [(0, .ref (g.1 0)), (1, .int a1)] [] im (f_X6_count a1 im) := by
  refine x_iload_n (q := 1) rfl rfl dX6_count_0 ?_
  refine x_case (k := 0) (fun hx1_0 => ?_) (fun hx1_0 => ?_)
  · refine x_tsw (off := 47) (tgt := 48) dX6_count_1 (by rw [hx1_0]; decide) (by rw [hx1_0]; decide) (by rw [hx1_0]; rfl) (by decide) ?_
    refine x_aload_n (q := 0) rfl rfl dX6_count_48 ?_
    refine x_get (C := RX6) (T := TX6) sh_0 (by decide) rfl in_X6 0 (by decide) fl_X6_12 xf_6_0 dX6_count_49 ?_
    refine x_get (C := RX5) (T := TX5) sh_1 (by decide) rfl in_X5 7 (by decide) fl_X6_177 xf_5_7 dX6_count_52 ?_
    exact x_iret rfl rfl dX6_count_55
  refine x_case (k := 1) (fun hx1_1 => ?_) (fun hx1_1 => ?_)
  · refine x_tsw (off := 55) (tgt := 56) dX6_count_1 (by rw [hx1_1]; decide) (by rw [hx1_1]; decide) (by rw [hx1_1]; rfl) (by decide) ?_
    refine x_aload_n (q := 0) rfl rfl dX6_count_56 ?_
    refine x_get (C := RX6) (T := TX6) sh_0 (by decide) rfl in_X6 0 (by decide) fl_X6_12 xf_6_0 dX6_count_57 ?_
    refine x_get (C := RX5) (T := TX5) sh_1 (by decide) rfl in_X5 4 (by decide) fl_X6_114 xf_5_4 dX6_count_60 ?_
    exact x_iret rfl rfl dX6_count_63
  refine x_case (k := 2) (fun hx1_2 => ?_) (fun hx1_2 => ?_)
  · refine x_tsw (off := 63) (tgt := 64) dX6_count_1 (by rw [hx1_2]; decide) (by rw [hx1_2]; decide) (by rw [hx1_2]; rfl) (by decide) ?_
    refine x_aload_n (q := 0) rfl rfl dX6_count_64 ?_
    refine x_get (C := RX6) (T := TX6) sh_0 (by decide) rfl in_X6 0 (by decide) fl_X6_12 xf_6_0 dX6_count_65 ?_
    refine x_bind (fun r1 er1 => ?_)
    refine x_callVR (av := []) (st := []) (m_X5_damageOfAll xTo_c1  im r1 er1) sh_1 (by decide) rfl rfl (by decide) (by decide) lk_X6_201 cd_X5_damageOfAll xd_X5_damageOfAll rfl (Nat.le_of_ble_eq_true rfl) dX6_count_68 ?_
    exact x_iret rfl rfl dX6_count_71
  refine x_case (k := 3) (fun hx1_3 => ?_) (fun hx1_3 => ?_)
  · refine x_tsw (off := 71) (tgt := 72) dX6_count_1 (by rw [hx1_3]; decide) (by rw [hx1_3]; decide) (by rw [hx1_3]; rfl) (by decide) ?_
    refine x_aload_n (q := 0) rfl rfl dX6_count_72 ?_
    refine x_get (C := RX6) (T := TX6) sh_0 (by decide) rfl in_X6 0 (by decide) fl_X6_12 xf_6_0 dX6_count_73 ?_
    refine x_bind (fun r2 er2 => ?_)
    refine x_callVR (av := []) (st := []) (m_X5_weightOfAll xTo_c1  im r2 er2) sh_1 (by decide) rfl rfl (by decide) (by decide) lk_X6_347 cd_X5_weightOfAll xd_X5_weightOfAll rfl (Nat.le_of_ble_eq_true rfl) dX6_count_76 ?_
    exact x_iret rfl rfl dX6_count_79
  refine x_case (k := 4) (fun hx1_4 => ?_) (fun hx1_4 => ?_)
  · refine x_tsw (off := 79) (tgt := 80) dX6_count_1 (by rw [hx1_4]; decide) (by rw [hx1_4]; decide) (by rw [hx1_4]; rfl) (by decide) ?_
    refine x_aload_n (q := 0) rfl rfl dX6_count_80 ?_
    refine x_get (C := RX6) (T := TX6) sh_0 (by decide) rfl in_X6 0 (by decide) fl_X6_12 xf_6_0 dX6_count_81 ?_
    refine x_bind (fun r3 er3 => ?_)
    refine x_callVR (av := []) (st := []) (m_X5_cellsOfStone xTo_c1  im r3 er3) sh_1 (by decide) rfl rfl (by decide) (by decide) lk_X6_350 cd_X5_cellsOfStone xd_X5_cellsOfStone rfl (Nat.le_of_ble_eq_true rfl) dX6_count_84 ?_
    exact x_iret rfl rfl dX6_count_87
  refine x_case (k := 5) (fun hx1_5 => ?_) (fun hx1_5 => ?_)
  · refine x_tsw (off := 87) (tgt := 88) dX6_count_1 (by rw [hx1_5]; decide) (by rw [hx1_5]; decide) (by rw [hx1_5]; rfl) (by decide) ?_
    refine x_aload_n (q := 0) rfl rfl dX6_count_88 ?_
    refine x_get (C := RX6) (T := TX6) sh_0 (by decide) rfl in_X6 8 (by decide) fl_X6_50 xf_6_8 dX6_count_89 ?_
    refine x_get (C := RX1) (T := TX1) sh_66 (by decide) rfl in_X1 1 (by decide) fl_X6_297 xf_1_1 dX6_count_92 ?_
    exact x_iret rfl rfl dX6_count_95
  refine x_case (k := 6) (fun hx1_6 => ?_) (fun hx1_6 => ?_)
  · refine x_tsw (off := 95) (tgt := 96) dX6_count_1 (by rw [hx1_6]; decide) (by rw [hx1_6]; decide) (by rw [hx1_6]; rfl) (by decide) ?_
    refine x_aload_n (q := 0) rfl rfl dX6_count_96 ?_
    refine x_get (C := RX6) (T := TX6) sh_0 (by decide) rfl in_X6 0 (by decide) fl_X6_12 xf_6_0 dX6_count_97 ?_
    refine x_get (C := RX5) (T := TX5) sh_1 (by decide) rfl in_X5 8 (by decide) fl_X6_294 xf_5_8 dX6_count_100 ?_
    exact x_iret rfl rfl dX6_count_103
  refine x_case (k := 7) (fun hx1_7 => ?_) (fun hx1_7 => ?_)
  · refine x_tsw (off := 103) (tgt := 104) dX6_count_1 (by rw [hx1_7]; decide) (by rw [hx1_7]; decide) (by rw [hx1_7]; rfl) (by decide) ?_
    refine x_aload_n (q := 0) rfl rfl dX6_count_104 ?_
    refine x_get (C := RX6) (T := TX6) sh_0 (by decide) rfl in_X6 0 (by decide) fl_X6_12 xf_6_0 dX6_count_105 ?_
    refine x_bind (fun r4 er4 => ?_)
    refine x_callVR (av := []) (st := []) (m_X5_spotsInUse xTo_c1  im r4 er4) sh_1 (by decide) rfl rfl (by decide) (by decide) lk_X6_353 cd_X5_spotsInUse xd_X5_spotsInUse rfl (Nat.le_of_ble_eq_true rfl) dX6_count_108 ?_
    exact x_iret rfl rfl dX6_count_111
  have ho1 : (a1).toInt < 0 ∨ 7 < (a1).toInt := by
    refine x_out (fun k h1 h2 => ?_)
    have hk : k = 0 ∨ k = 1 ∨ k = 2 ∨ k = 3 ∨ k = 4 ∨ k = 5 ∨ k = 6 ∨ k = 7 := by omega
    rcases hk with rfl | rfl | rfl | rfl | rfl | rfl | rfl | rfl
    · exact hx1_0
    · exact hx1_1
    · exact hx1_2
    · exact hx1_3
    · exact hx1_4
    · exact hx1_5
    · exact hx1_6
    · exact hx1_7
  refine x_tsd (tgt := 112) dX6_count_1 ho1 (by decide) ?_
  refine x_aload_n (q := 0) rfl rfl dX6_count_112 ?_
  refine x_ldc co_X6_71 dX6_count_113 ?_
  refine x_bind (fun r5 er5 => ?_)
  refine x_callVI (av := [.int ((-1000001))]) (st := []) (m_X6_refuse  (((-1000001))) im r5 er5) sh_0 (by decide) rfl rfl (by decide) (by decide) lk_X6_72 cd_X6_refuse xd_X6_refuse rfl (Nat.le_of_ble_eq_true rfl) dX6_count_115 ?_
  exact x_iret rfl rfl dX6_count_118
theorem m_X6_count {g : GX}  (a1 : Int32) (im : IM) (r : Int32 × IM) (hr : f_X6_count a1 im = some r) : xMet g 2 yX6_count cX6_count 2 (some .int) [.ref (g.1 0), .int a1] im (eI r) := x_met (by decide) (Nat.le_of_ble_eq_true rfl) rfl (s_X6_count a1 im) r hr
abbrev md_X6_status : xM := (2, 4, RX6, cX6_status, (some .int))
def f_X6_status_l1b (a1 : Int32)   (k32 : Int32 → Int32 → IM → Option (Int32 × IM)) (x2 : Int32) (x3 : Int32) (im : IM) : Option (Int32 × IM) :=
  if 7 ≤ x3 then
    some ((x2, im))
  else
    if inb x3 7 = true then
      bnd (x2 + (im 73 (ix x3))) fun v1 =>
      bnd (x3 + 1) fun v2 =>
      k32 v1 v2 im
    else none
def f_X6_status_l1 (a1 : Int32)   : Nat → Int32 → Int32 → IM → Option (Int32 × IM)
  | 0, _, _, _ => none
  | n + 1, x2, x3, im => f_X6_status_l1b a1 (f_X6_status_l1 a1 n) x2 x3 im
set_option maxRecDepth 20000 in
set_option maxHeartbeats 4000000 in
theorem s_X6_status_l1b {g : GX} (a1 : Int32)    (k32 : Int32 → Int32 → IM → Option (Int32 × IM)) (hk32 : ∀ (x2 : Int32) (x3 : Int32) (im : IM), X g md_X6_status eI 32 [(0, .ref (g.1 0)), (2, .int x2), (3, .int x3)] [] im (k32 x2 x3 im)) (x2 : Int32) (x3 : Int32)  (im : IM) : X g md_X6_status eI 32 [(0, .ref (g.1 0)), (2, .int x2), (3, .int x3)] [] im (f_X6_status_l1b a1 k32 x2 x3 im) := by
  refine x_iload_n (q := 2) rfl rfl dX6_status_32 ?_
  refine x_bipush (v := (7)) (by decide) dX6_status_33 ?_
  refine x_icmp_ge (tgt := 53) dX6_status_35 (by decide) ?_ ?_
  · refine x_iload_n (q := 1) rfl rfl dX6_status_53 ?_
    exact x_iret rfl rfl dX6_status_54
  · refine x_iload_n (q := 1) rfl rfl dX6_status_38 ?_
    refine x_aload_n (q := 0) rfl rfl dX6_status_39 ?_
    refine x_get (C := RX6) (T := TX6) sh_0 (by decide) rfl in_X6 10 (by decide) fl_X6_60 xf_6_10 dX6_status_40 ?_
    refine x_iload_n (q := 2) rfl rfl dX6_status_43 ?_
    refine x_iald sh_73 dX6_status_44 ?_
    refine x_iadd dX6_status_45 ?_
    refine x_bi (fun v1 => ?_)
    refine x_istore_n (lv' := [(2, .int v1), (0, .ref (g.1 0)), (3, .int x3)]) rfl dX6_status_46 (by decide) rfl ?_
    refine x_iinc (q := 2) (a := 1) (lv' := fun v2 => [(3, .int v2), (2, .int v1), (0, .ref (g.1 0))]) dX6_status_47 rfl (by decide) (by decide) (fun _ => rfl) (fun v2 => ?_)
    refine x_goto (tgt := 32) dX6_status_50 (by decide) ?_
    refine x_sub [2, 1, 0] rfl ?_
    exact hk32 v1 v2 im
set_option maxRecDepth 20000 in
set_option maxHeartbeats 4000000 in
theorem s_X6_status_l1 {g : GX} (a1 : Int32)    (n : Nat) : ∀ (x2 : Int32) (x3 : Int32) (im : IM), X g md_X6_status eI 32 [(0, .ref (g.1 0)), (2, .int x2), (3, .int x3)] [] im (f_X6_status_l1 a1 n x2 x3 im) := by
  induction n with
  | zero => intro x2 x3 im; exact x_none
  | succ n ih => intro x2 x3 im; exact s_X6_status_l1b a1 (f_X6_status_l1 a1 n) ih x2 x3 im
def f_X6_status (a1 : Int32) (im : IM) : Option (Int32 × IM) :=
  if (f_X6_within a1 ((-1)) 6) = 0 then
    (f_X6_refuse ((-1000001)) im).bind fun r3 =>
    some ((r3.1, r3.2))
  else
    if a1 < 0 then
      f_X6_status_l1 a1 xF 0 0 im
    else
      if inb a1 7 = true then
        some ((im 73 (ix a1), im))
      else none
set_option maxRecDepth 20000 in
set_option maxHeartbeats 4000000 in
theorem s_X6_status {g : GX}  (a1 : Int32) (im : IM) : X g md_X6_status eI 0 [(0, .ref (g.1 0)), (1, .int a1)] [] im (f_X6_status a1 im) := by
  refine x_iload_n (q := 1) rfl rfl dX6_status_0 ?_
  refine x_iconst (v := (-1)) (by decide) dX6_status_1 ?_
  refine x_bipush (v := (6)) (by decide) dX6_status_2 ?_
  refine x_callSR (av := [.int a1, .int ((-1)), .int 6]) (st := []) (m_X6_within  a1 (((-1))) 6 im) rfl (by decide) (by decide) lk_X6_79 cd_X6_within xd_X6_within rfl (Nat.le_of_ble_eq_true rfl) dX6_status_4 ?_
  refine x_if_ne (tgt := 17) dX6_status_7 (by decide) ?_ ?_
  · refine x_iload_n (q := 1) rfl rfl dX6_status_17 ?_
    refine x_if_lt (tgt := 28) dX6_status_18 (by decide) ?_ ?_
    · refine x_iconst (v := (0)) (by decide) dX6_status_28 ?_
      refine x_istore_n (lv' := [(2, .int 0), (0, .ref (g.1 0)), (1, .int a1)]) rfl dX6_status_29 (by decide) rfl ?_
      refine x_iconst (v := (0)) (by decide) dX6_status_30 ?_
      refine x_istore_n (lv' := [(3, .int 0), (2, .int 0), (0, .ref (g.1 0)), (1, .int a1)]) rfl dX6_status_31 (by decide) rfl ?_
      refine x_sub [2, 1, 0] rfl ?_
      exact s_X6_status_l1 a1 xF 0 0 im
    · refine x_aload_n (q := 0) rfl rfl dX6_status_21 ?_
      refine x_get (C := RX6) (T := TX6) sh_0 (by decide) rfl in_X6 10 (by decide) fl_X6_60 xf_6_10 dX6_status_22 ?_
      refine x_iload_n (q := 1) rfl rfl dX6_status_25 ?_
      refine x_iald sh_73 dX6_status_26 ?_
      exact x_iret rfl rfl dX6_status_27
  · refine x_aload_n (q := 0) rfl rfl dX6_status_10 ?_
    refine x_ldc co_X6_71 dX6_status_11 ?_
    refine x_bind (fun r3 er3 => ?_)
    refine x_callVI (av := [.int ((-1000001))]) (st := []) (m_X6_refuse  (((-1000001))) im r3 er3) sh_0 (by decide) rfl rfl (by decide) (by decide) lk_X6_72 cd_X6_refuse xd_X6_refuse rfl (Nat.le_of_ble_eq_true rfl) dX6_status_13 ?_
    exact x_iret rfl rfl dX6_status_16
theorem m_X6_status {g : GX}  (a1 : Int32) (im : IM) (r : Int32 × IM) (hr : f_X6_status a1 im = some r) : xMet g 2 yX6_status cX6_status 4 (some .int) [.ref (g.1 0), .int a1] im (eI r) := x_met (by decide) (Nat.le_of_ble_eq_true rfl) rfl (s_X6_status a1 im) r hr
