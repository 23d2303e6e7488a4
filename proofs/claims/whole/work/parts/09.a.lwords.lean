theorem im_X6_fall : Cond.instanceMethod yX6_fall ∈ xT := xT_in (in_tbl (List.mem_of_getElem? (i := 259) (by decide +kernel))) (by decide +kernel)
theorem sl_X6_fall : Cond.selects RX6 yX6_fall yX6_fall ∈ xT := xT_in (in_tbl (List.mem_of_getElem? (i := 260) (by decide +kernel))) (by decide +kernel)
theorem lk_L_13 : xLinkV RL 13 yX6_fall := ⟨xT_in (in_tbl (List.mem_of_getElem? (i := 258) (by decide +kernel))) (by decide +kernel), im_X6_fall, sl_X6_fall, ini_RollTown⟩
theorem cd_X6_fall : Cond.code yX6_fall cX6_fall 4 (some .int) ∈ xT := xT_in (in_tbl (List.mem_of_getElem? (i := 261) (by decide +kernel))) (by decide +kernel)
theorem xd_X6_fall : xD yX6_fall 2 := by decide +kernel
theorem im_X7_fall : Cond.instanceMethod yX7_fall ∈ xT := xT_in (in_tbl (List.mem_of_getElem? (i := 1007) (by decide +kernel))) (by decide +kernel)
theorem sl_X7_fall : Cond.selects RX7 yX7_fall yX7_fall ∈ xT := xT_in (in_tbl (List.mem_of_getElem? (i := 1008) (by decide +kernel))) (by decide +kernel)
theorem lk_L_17 : xLinkV RL 17 yX7_fall := ⟨xT_in (in_tbl (List.mem_of_getElem? (i := 1006) (by decide +kernel))) (by decide +kernel), im_X7_fall, sl_X7_fall, ini_RollTownModel⟩
theorem cd_X7_fall : Cond.code yX7_fall cX7_fall 4 (some .int) ∈ xT := xT_in (in_tbl (List.mem_of_getElem? (i := 1009) (by decide +kernel))) (by decide +kernel)
theorem xd_X7_fall : xD yX7_fall 2 := by decide +kernel
theorem im_X6_ground : Cond.instanceMethod yX6_ground ∈ xT := xT_in (in_tbl (List.mem_of_getElem? (i := 277) (by decide +kernel))) (by decide +kernel)
theorem sl_X6_ground : Cond.selects RX6 yX6_ground yX6_ground ∈ xT := xT_in (in_tbl (List.mem_of_getElem? (i := 278) (by decide +kernel))) (by decide +kernel)
theorem lk_L_18 : xLinkV RL 18 yX6_ground := ⟨xT_in (in_tbl (List.mem_of_getElem? (i := 276) (by decide +kernel))) (by decide +kernel), im_X6_ground, sl_X6_ground, ini_RollTown⟩
theorem cd_X6_ground : Cond.code yX6_ground cX6_ground 4 (some .int) ∈ xT := xT_in (in_tbl (List.mem_of_getElem? (i := 279) (by decide +kernel))) (by decide +kernel)
theorem xd_X6_ground : xD yX6_ground 2 := by decide +kernel
theorem im_X7_ground : Cond.instanceMethod yX7_ground ∈ xT := xT_in (in_tbl (List.mem_of_getElem? (i := 1025) (by decide +kernel))) (by decide +kernel)
theorem sl_X7_ground : Cond.selects RX7 yX7_ground yX7_ground ∈ xT := xT_in (in_tbl (List.mem_of_getElem? (i := 1026) (by decide +kernel))) (by decide +kernel)
theorem lk_L_21 : xLinkV RL 21 yX7_ground := ⟨xT_in (in_tbl (List.mem_of_getElem? (i := 1024) (by decide +kernel))) (by decide +kernel), im_X7_ground, sl_X7_ground, ini_RollTownModel⟩
theorem cd_X7_ground : Cond.code yX7_ground cX7_ground 4 (some .int) ∈ xT := xT_in (in_tbl (List.mem_of_getElem? (i := 1027) (by decide +kernel))) (by decide +kernel)
theorem xd_X7_ground : xD yX7_ground 2 := by decide +kernel
theorem im_X6_gate : Cond.instanceMethod yX6_gate ∈ xT := xT_in (in_tbl (List.mem_of_getElem? (i := 281) (by decide +kernel))) (by decide +kernel)
theorem sl_X6_gate : Cond.selects RX6 yX6_gate yX6_gate ∈ xT := xT_in (in_tbl (List.mem_of_getElem? (i := 282) (by decide +kernel))) (by decide +kernel)
theorem lk_L_22 : xLinkV RL 22 yX6_gate := ⟨xT_in (in_tbl (List.mem_of_getElem? (i := 280) (by decide +kernel))) (by decide +kernel), im_X6_gate, sl_X6_gate, ini_RollTown⟩
theorem cd_X6_gate : Cond.code yX6_gate cX6_gate 4 (some .int) ∈ xT := xT_in (in_tbl (List.mem_of_getElem? (i := 283) (by decide +kernel))) (by decide +kernel)
theorem xd_X6_gate : xD yX6_gate 2 := by decide +kernel
theorem im_X7_gate : Cond.instanceMethod yX7_gate ∈ xT := xT_in (in_tbl (List.mem_of_getElem? (i := 1030) (by decide +kernel))) (by decide +kernel)
theorem sl_X7_gate : Cond.selects RX7 yX7_gate yX7_gate ∈ xT := xT_in (in_tbl (List.mem_of_getElem? (i := 1031) (by decide +kernel))) (by decide +kernel)
theorem lk_L_25 : xLinkV RL 25 yX7_gate := ⟨xT_in (in_tbl (List.mem_of_getElem? (i := 1029) (by decide +kernel))) (by decide +kernel), im_X7_gate, sl_X7_gate, ini_RollTownModel⟩
theorem cd_X7_gate : Cond.code yX7_gate cX7_gate 4 (some .int) ∈ xT := xT_in (in_tbl (List.mem_of_getElem? (i := 1032) (by decide +kernel))) (by decide +kernel)
theorem xd_X7_gate : xD yX7_gate 2 := by decide +kernel
theorem im_X6_shut : Cond.instanceMethod yX6_shut ∈ xT := xT_in (in_tbl (List.mem_of_getElem? (i := 288) (by decide +kernel))) (by decide +kernel)
theorem sl_X6_shut : Cond.selects RX6 yX6_shut yX6_shut ∈ xT := xT_in (in_tbl (List.mem_of_getElem? (i := 289) (by decide +kernel))) (by decide +kernel)
theorem lk_L_26 : xLinkV RL 26 yX6_shut := ⟨xT_in (in_tbl (List.mem_of_getElem? (i := 287) (by decide +kernel))) (by decide +kernel), im_X6_shut, sl_X6_shut, ini_RollTown⟩
theorem cd_X6_shut : Cond.code yX6_shut cX6_shut 2 (some .int) ∈ xT := xT_in (in_tbl (List.mem_of_getElem? (i := 290) (by decide +kernel))) (by decide +kernel)
theorem xd_X6_shut : xD yX6_shut 1 := by decide +kernel
theorem im_X7_shut : Cond.instanceMethod yX7_shut ∈ xT := xT_in (in_tbl (List.mem_of_getElem? (i := 1035) (by decide +kernel))) (by decide +kernel)
theorem sl_X7_shut : Cond.selects RX7 yX7_shut yX7_shut ∈ xT := xT_in (in_tbl (List.mem_of_getElem? (i := 1036) (by decide +kernel))) (by decide +kernel)
theorem lk_L_30 : xLinkV RL 30 yX7_shut := ⟨xT_in (in_tbl (List.mem_of_getElem? (i := 1034) (by decide +kernel))) (by decide +kernel), im_X7_shut, sl_X7_shut, ini_RollTownModel⟩
theorem cd_X7_shut : Cond.code yX7_shut cX7_shut 2 (some .int) ∈ xT := xT_in (in_tbl (List.mem_of_getElem? (i := 1037) (by decide +kernel))) (by decide +kernel)
theorem xd_X7_shut : xD yX7_shut 1 := by decide +kernel
theorem im_X6_thing : Cond.instanceMethod yX6_thing ∈ xT := xT_in (in_tbl (List.mem_of_getElem? (i := 296) (by decide +kernel))) (by decide +kernel)
theorem sl_X6_thing : Cond.selects RX6 yX6_thing yX6_thing ∈ xT := xT_in (in_tbl (List.mem_of_getElem? (i := 297) (by decide +kernel))) (by decide +kernel)
theorem lk_L_31 : xLinkV RL 31 yX6_thing := ⟨xT_in (in_tbl (List.mem_of_getElem? (i := 295) (by decide +kernel))) (by decide +kernel), im_X6_thing, sl_X6_thing, ini_RollTown⟩
theorem cd_X6_thing : Cond.code yX6_thing cX6_thing 3 (some .int) ∈ xT := xT_in (in_tbl (List.mem_of_getElem? (i := 298) (by decide +kernel))) (by decide +kernel)
theorem xd_X6_thing : xD yX6_thing 2 := by decide +kernel
theorem im_X7_thing : Cond.instanceMethod yX7_thing ∈ xT := xT_in (in_tbl (List.mem_of_getElem? (i := 1044) (by decide +kernel))) (by decide +kernel)
theorem sl_X7_thing : Cond.selects RX7 yX7_thing yX7_thing ∈ xT := xT_in (in_tbl (List.mem_of_getElem? (i := 1045) (by decide +kernel))) (by decide +kernel)
theorem lk_L_34 : xLinkV RL 34 yX7_thing := ⟨xT_in (in_tbl (List.mem_of_getElem? (i := 1043) (by decide +kernel))) (by decide +kernel), im_X7_thing, sl_X7_thing, ini_RollTownModel⟩
theorem cd_X7_thing : Cond.code yX7_thing cX7_thing 3 (some .int) ∈ xT := xT_in (in_tbl (List.mem_of_getElem? (i := 1046) (by decide +kernel))) (by decide +kernel)
theorem xd_X7_thing : xD yX7_thing 2 := by decide +kernel
theorem im_X6_of : Cond.instanceMethod yX6_of ∈ xT := xT_in (in_tbl (List.mem_of_getElem? (i := 320) (by decide +kernel))) (by decide +kernel)
theorem sl_X6_of : Cond.selects RX6 yX6_of yX6_of ∈ xT := xT_in (in_tbl (List.mem_of_getElem? (i := 321) (by decide +kernel))) (by decide +kernel)
theorem lk_L_35 : xLinkV RL 35 yX6_of := ⟨xT_in (in_tbl (List.mem_of_getElem? (i := 319) (by decide +kernel))) (by decide +kernel), im_X6_of, sl_X6_of, ini_RollTown⟩
theorem cd_X6_of : Cond.code yX6_of cX6_of 4 (some .int) ∈ xT := xT_in (in_tbl (List.mem_of_getElem? (i := 322) (by decide +kernel))) (by decide +kernel)
theorem xd_X6_of : xD yX6_of 2 := by decide +kernel
theorem im_X7_of : Cond.instanceMethod yX7_of ∈ xT := xT_in (in_tbl (List.mem_of_getElem? (i := 1061) (by decide +kernel))) (by decide +kernel)
theorem sl_X7_of : Cond.selects RX7 yX7_of yX7_of ∈ xT := xT_in (in_tbl (List.mem_of_getElem? (i := 1062) (by decide +kernel))) (by decide +kernel)
theorem lk_L_38 : xLinkV RL 38 yX7_of := ⟨xT_in (in_tbl (List.mem_of_getElem? (i := 1060) (by decide +kernel))) (by decide +kernel), im_X7_of, sl_X7_of, ini_RollTownModel⟩
theorem cd_X7_of : Cond.code yX7_of cX7_of 3 (some .int) ∈ xT := xT_in (in_tbl (List.mem_of_getElem? (i := 1063) (by decide +kernel))) (by decide +kernel)
theorem xd_X7_of : xD yX7_of 2 := by decide +kernel
theorem im_X6_change : Cond.instanceMethod yX6_change ∈ xT := xT_in (in_tbl (List.mem_of_getElem? (i := 332) (by decide +kernel))) (by decide +kernel)
theorem sl_X6_change : Cond.selects RX6 yX6_change yX6_change ∈ xT := xT_in (in_tbl (List.mem_of_getElem? (i := 333) (by decide +kernel))) (by decide +kernel)
theorem lk_L_39 : xLinkV RL 39 yX6_change := ⟨xT_in (in_tbl (List.mem_of_getElem? (i := 331) (by decide +kernel))) (by decide +kernel), im_X6_change, sl_X6_change, ini_RollTown⟩
theorem cd_X6_change : Cond.code yX6_change cX6_change 6 (some .int) ∈ xT := xT_in (in_tbl (List.mem_of_getElem? (i := 334) (by decide +kernel))) (by decide +kernel)
theorem xd_X6_change : xD yX6_change 3 := by decide +kernel
theorem im_X7_change : Cond.instanceMethod yX7_change ∈ xT := xT_in (in_tbl (List.mem_of_getElem? (i := 1078) (by decide +kernel))) (by decide +kernel)
theorem sl_X7_change : Cond.selects RX7 yX7_change yX7_change ∈ xT := xT_in (in_tbl (List.mem_of_getElem? (i := 1079) (by decide +kernel))) (by decide +kernel)
theorem lk_L_43 : xLinkV RL 43 yX7_change := ⟨xT_in (in_tbl (List.mem_of_getElem? (i := 1077) (by decide +kernel))) (by decide +kernel), im_X7_change, sl_X7_change, ini_RollTownModel⟩
theorem cd_X7_change : Cond.code yX7_change cX7_change 5 (some .int) ∈ xT := xT_in (in_tbl (List.mem_of_getElem? (i := 1080) (by decide +kernel))) (by decide +kernel)
theorem xd_X7_change : xD yX7_change 3 := by decide +kernel
theorem im_X6_told : Cond.instanceMethod yX6_told ∈ xT := xT_in (in_tbl (List.mem_of_getElem? (i := 342) (by decide +kernel))) (by decide +kernel)
theorem sl_X6_told : Cond.selects RX6 yX6_told yX6_told ∈ xT := xT_in (in_tbl (List.mem_of_getElem? (i := 343) (by decide +kernel))) (by decide +kernel)
theorem lk_L_44 : xLinkV RL 44 yX6_told := ⟨xT_in (in_tbl (List.mem_of_getElem? (i := 341) (by decide +kernel))) (by decide +kernel), im_X6_told, sl_X6_told, ini_RollTown⟩
theorem cd_X6_told : Cond.code yX6_told cX6_told 5 (some .int) ∈ xT := xT_in (in_tbl (List.mem_of_getElem? (i := 344) (by decide +kernel))) (by decide +kernel)
theorem xd_X6_told : xD yX6_told 3 := by decide +kernel
theorem im_X7_told : Cond.instanceMethod yX7_told ∈ xT := xT_in (in_tbl (List.mem_of_getElem? (i := 1082) (by decide +kernel))) (by decide +kernel)
theorem sl_X7_told : Cond.selects RX7 yX7_told yX7_told ∈ xT := xT_in (in_tbl (List.mem_of_getElem? (i := 1083) (by decide +kernel))) (by decide +kernel)
theorem lk_L_47 : xLinkV RL 47 yX7_told := ⟨xT_in (in_tbl (List.mem_of_getElem? (i := 1081) (by decide +kernel))) (by decide +kernel), im_X7_told, sl_X7_told, ini_RollTownModel⟩
theorem cd_X7_told : Cond.code yX7_told cX7_told 4 (some .int) ∈ xT := xT_in (in_tbl (List.mem_of_getElem? (i := 1084) (by decide +kernel))) (by decide +kernel)
theorem xd_X7_told : xD yX7_told 3 := by decide +kernel
theorem im_X6_go : Cond.instanceMethod yX6_go ∈ xT := xT_in (in_tbl (List.mem_of_getElem? (i := 360) (by decide +kernel))) (by decide +kernel)
theorem sl_X6_go : Cond.selects RX6 yX6_go yX6_go ∈ xT := xT_in (in_tbl (List.mem_of_getElem? (i := 361) (by decide +kernel))) (by decide +kernel)
theorem lk_L_48 : xLinkV RL 48 yX6_go := ⟨xT_in (in_tbl (List.mem_of_getElem? (i := 359) (by decide +kernel))) (by decide +kernel), im_X6_go, sl_X6_go, ini_RollTown⟩
theorem cd_X6_go : Cond.code yX6_go cX6_go 3 (some .int) ∈ xT := xT_in (in_tbl (List.mem_of_getElem? (i := 362) (by decide +kernel))) (by decide +kernel)
theorem xd_X6_go : xD yX6_go 1 := by decide +kernel
theorem im_X7_go : Cond.instanceMethod yX7_go ∈ xT := xT_in (in_tbl (List.mem_of_getElem? (i := 1094) (by decide +kernel))) (by decide +kernel)
theorem sl_X7_go : Cond.selects RX7 yX7_go yX7_go ∈ xT := xT_in (in_tbl (List.mem_of_getElem? (i := 1095) (by decide +kernel))) (by decide +kernel)
theorem lk_L_51 : xLinkV RL 51 yX7_go := ⟨xT_in (in_tbl (List.mem_of_getElem? (i := 1093) (by decide +kernel))) (by decide +kernel), im_X7_go, sl_X7_go, ini_RollTownModel⟩
theorem cd_X7_go : Cond.code yX7_go cX7_go 2 (some .int) ∈ xT := xT_in (in_tbl (List.mem_of_getElem? (i := 1096) (by decide +kernel))) (by decide +kernel)
theorem xd_X7_go : xD yX7_go 1 := by decide +kernel
theorem im_X6_put : Cond.instanceMethod yX6_put ∈ xT := xT_in (in_tbl (List.mem_of_getElem? (i := 373) (by decide +kernel))) (by decide +kernel)
theorem sl_X6_put : Cond.selects RX6 yX6_put yX6_put ∈ xT := xT_in (in_tbl (List.mem_of_getElem? (i := 374) (by decide +kernel))) (by decide +kernel)
theorem lk_L_52 : xLinkV RL 52 yX6_put := ⟨xT_in (in_tbl (List.mem_of_getElem? (i := 372) (by decide +kernel))) (by decide +kernel), im_X6_put, sl_X6_put, ini_RollTown⟩
theorem cd_X6_put : Cond.code yX6_put cX6_put 5 (some .int) ∈ xT := xT_in (in_tbl (List.mem_of_getElem? (i := 375) (by decide +kernel))) (by decide +kernel)
theorem xd_X6_put : xD yX6_put 2 := by decide +kernel
theorem im_X7_put : Cond.instanceMethod yX7_put ∈ xT := xT_in (in_tbl (List.mem_of_getElem? (i := 1107) (by decide +kernel))) (by decide +kernel)
theorem sl_X7_put : Cond.selects RX7 yX7_put yX7_put ∈ xT := xT_in (in_tbl (List.mem_of_getElem? (i := 1108) (by decide +kernel))) (by decide +kernel)
theorem lk_L_55 : xLinkV RL 55 yX7_put := ⟨xT_in (in_tbl (List.mem_of_getElem? (i := 1106) (by decide +kernel))) (by decide +kernel), im_X7_put, sl_X7_put, ini_RollTownModel⟩
theorem cd_X7_put : Cond.code yX7_put cX7_put 4 (some .int) ∈ xT := xT_in (in_tbl (List.mem_of_getElem? (i := 1109) (by decide +kernel))) (by decide +kernel)
theorem xd_X7_put : xD yX7_put 2 := by decide +kernel
theorem im_X6_minutes : Cond.instanceMethod yX6_minutes ∈ xT := xT_in (in_tbl (List.mem_of_getElem? (i := 381) (by decide +kernel))) (by decide +kernel)
theorem sl_X6_minutes : Cond.selects RX6 yX6_minutes yX6_minutes ∈ xT := xT_in (in_tbl (List.mem_of_getElem? (i := 382) (by decide +kernel))) (by decide +kernel)
theorem lk_L_56 : xLinkV RL 56 yX6_minutes := ⟨xT_in (in_tbl (List.mem_of_getElem? (i := 380) (by decide +kernel))) (by decide +kernel), im_X6_minutes, sl_X6_minutes, ini_RollTown⟩
theorem cd_X6_minutes : Cond.code yX6_minutes cX6_minutes 4 (some .int) ∈ xT := xT_in (in_tbl (List.mem_of_getElem? (i := 383) (by decide +kernel))) (by decide +kernel)
theorem xd_X6_minutes : xD yX6_minutes 1 := by decide +kernel
theorem im_X7_minutes : Cond.instanceMethod yX7_minutes ∈ xT := xT_in (in_tbl (List.mem_of_getElem? (i := 1111) (by decide +kernel))) (by decide +kernel)
theorem sl_X7_minutes : Cond.selects RX7 yX7_minutes yX7_minutes ∈ xT := xT_in (in_tbl (List.mem_of_getElem? (i := 1112) (by decide +kernel))) (by decide +kernel)
theorem lk_L_59 : xLinkV RL 59 yX7_minutes := ⟨xT_in (in_tbl (List.mem_of_getElem? (i := 1110) (by decide +kernel))) (by decide +kernel), im_X7_minutes, sl_X7_minutes, ini_RollTownModel⟩
theorem cd_X7_minutes : Cond.code yX7_minutes cX7_minutes 4 (some .int) ∈ xT := xT_in (in_tbl (List.mem_of_getElem? (i := 1113) (by decide +kernel))) (by decide +kernel)
theorem xd_X7_minutes : xD yX7_minutes 1 := by decide +kernel
theorem im_X6_are : Cond.instanceMethod yX6_are ∈ xT := xT_in (in_tbl (List.mem_of_getElem? (i := 441) (by decide +kernel))) (by decide +kernel)
theorem sl_X6_are : Cond.selects RX6 yX6_are yX6_are ∈ xT := xT_in (in_tbl (List.mem_of_getElem? (i := 442) (by decide +kernel))) (by decide +kernel)
theorem lk_L_60 : xLinkV RL 60 yX6_are := ⟨xT_in (in_tbl (List.mem_of_getElem? (i := 440) (by decide +kernel))) (by decide +kernel), im_X6_are, sl_X6_are, ini_RollTown⟩
theorem cd_X6_are : Cond.code yX6_are cX6_are 2 (some .int) ∈ xT := xT_in (in_tbl (List.mem_of_getElem? (i := 443) (by decide +kernel))) (by decide +kernel)
theorem xd_X6_are : xD yX6_are 1 := by decide +kernel
theorem im_X7_are : Cond.instanceMethod yX7_are ∈ xT := xT_in (in_tbl (List.mem_of_getElem? (i := 1136) (by decide +kernel))) (by decide +kernel)
theorem sl_X7_are : Cond.selects RX7 yX7_are yX7_are ∈ xT := xT_in (in_tbl (List.mem_of_getElem? (i := 1137) (by decide +kernel))) (by decide +kernel)
theorem lk_L_63 : xLinkV RL 63 yX7_are := ⟨xT_in (in_tbl (List.mem_of_getElem? (i := 1135) (by decide +kernel))) (by decide +kernel), im_X7_are, sl_X7_are, ini_RollTownModel⟩
theorem cd_X7_are : Cond.code yX7_are cX7_are 2 (some .int) ∈ xT := xT_in (in_tbl (List.mem_of_getElem? (i := 1138) (by decide +kernel))) (by decide +kernel)
theorem xd_X7_are : xD yX7_are 1 := by decide +kernel
theorem im_X6_on : Cond.instanceMethod yX6_on ∈ xT := xT_in (in_tbl (List.mem_of_getElem? (i := 445) (by decide +kernel))) (by decide +kernel)
theorem sl_X6_on : Cond.selects RX6 yX6_on yX6_on ∈ xT := xT_in (in_tbl (List.mem_of_getElem? (i := 446) (by decide +kernel))) (by decide +kernel)
theorem lk_L_64 : xLinkV RL 64 yX6_on := ⟨xT_in (in_tbl (List.mem_of_getElem? (i := 444) (by decide +kernel))) (by decide +kernel), im_X6_on, sl_X6_on, ini_RollTown⟩
theorem cd_X6_on : Cond.code yX6_on cX6_on 2 (some .int) ∈ xT := xT_in (in_tbl (List.mem_of_getElem? (i := 447) (by decide +kernel))) (by decide +kernel)
theorem xd_X6_on : xD yX6_on 1 := by decide +kernel
theorem im_X7_on : Cond.instanceMethod yX7_on ∈ xT := xT_in (in_tbl (List.mem_of_getElem? (i := 1145) (by decide +kernel))) (by decide +kernel)
theorem sl_X7_on : Cond.selects RX7 yX7_on yX7_on ∈ xT := xT_in (in_tbl (List.mem_of_getElem? (i := 1146) (by decide +kernel))) (by decide +kernel)
theorem lk_L_67 : xLinkV RL 67 yX7_on := ⟨xT_in (in_tbl (List.mem_of_getElem? (i := 1144) (by decide +kernel))) (by decide +kernel), im_X7_on, sl_X7_on, ini_RollTownModel⟩
theorem cd_X7_on : Cond.code yX7_on cX7_on 2 (some .int) ∈ xT := xT_in (in_tbl (List.mem_of_getElem? (i := 1147) (by decide +kernel))) (by decide +kernel)
theorem xd_X7_on : xD yX7_on 1 := by decide +kernel
theorem im_X6_ahead : Cond.instanceMethod yX6_ahead ∈ xT := xT_in (in_tbl (List.mem_of_getElem? (i := 450) (by decide +kernel))) (by decide +kernel)
theorem sl_X6_ahead : Cond.selects RX6 yX6_ahead yX6_ahead ∈ xT := xT_in (in_tbl (List.mem_of_getElem? (i := 451) (by decide +kernel))) (by decide +kernel)
theorem lk_L_68 : xLinkV RL 68 yX6_ahead := ⟨xT_in (in_tbl (List.mem_of_getElem? (i := 449) (by decide +kernel))) (by decide +kernel), im_X6_ahead, sl_X6_ahead, ini_RollTown⟩
theorem cd_X6_ahead : Cond.code yX6_ahead cX6_ahead 3 (some .int) ∈ xT := xT_in (in_tbl (List.mem_of_getElem? (i := 452) (by decide +kernel))) (by decide +kernel)
theorem xd_X6_ahead : xD yX6_ahead 2 := by decide +kernel
theorem im_X7_ahead : Cond.instanceMethod yX7_ahead ∈ xT := xT_in (in_tbl (List.mem_of_getElem? (i := 1153) (by decide +kernel))) (by decide +kernel)
theorem sl_X7_ahead : Cond.selects RX7 yX7_ahead yX7_ahead ∈ xT := xT_in (in_tbl (List.mem_of_getElem? (i := 1154) (by decide +kernel))) (by decide +kernel)
theorem lk_L_71 : xLinkV RL 71 yX7_ahead := ⟨xT_in (in_tbl (List.mem_of_getElem? (i := 1152) (by decide +kernel))) (by decide +kernel), im_X7_ahead, sl_X7_ahead, ini_RollTownModel⟩
theorem cd_X7_ahead : Cond.code yX7_ahead cX7_ahead 4 (some .int) ∈ xT := xT_in (in_tbl (List.mem_of_getElem? (i := 1155) (by decide +kernel))) (by decide +kernel)
theorem xd_X7_ahead : xD yX7_ahead 2 := by decide +kernel
theorem im_X6_meet : Cond.instanceMethod yX6_meet ∈ xT := xT_in (in_tbl (List.mem_of_getElem? (i := 473) (by decide +kernel))) (by decide +kernel)
theorem sl_X6_meet : Cond.selects RX6 yX6_meet yX6_meet ∈ xT := xT_in (in_tbl (List.mem_of_getElem? (i := 474) (by decide +kernel))) (by decide +kernel)
theorem lk_L_72 : xLinkV RL 72 yX6_meet := ⟨xT_in (in_tbl (List.mem_of_getElem? (i := 472) (by decide +kernel))) (by decide +kernel), im_X6_meet, sl_X6_meet, ini_RollTown⟩
theorem cd_X6_meet : Cond.code yX6_meet cX6_meet 2 (some .int) ∈ xT := xT_in (in_tbl (List.mem_of_getElem? (i := 475) (by decide +kernel))) (by decide +kernel)
theorem xd_X6_meet : xD yX6_meet 0 := by decide +kernel
theorem im_X7_meet : Cond.instanceMethod yX7_meet ∈ xT := xT_in (in_tbl (List.mem_of_getElem? (i := 1170) (by decide +kernel))) (by decide +kernel)
theorem sl_X7_meet : Cond.selects RX7 yX7_meet yX7_meet ∈ xT := xT_in (in_tbl (List.mem_of_getElem? (i := 1171) (by decide +kernel))) (by decide +kernel)
theorem lk_L_76 : xLinkV RL 76 yX7_meet := ⟨xT_in (in_tbl (List.mem_of_getElem? (i := 1169) (by decide +kernel))) (by decide +kernel), im_X7_meet, sl_X7_meet, ini_RollTownModel⟩
theorem cd_X7_meet : Cond.code yX7_meet cX7_meet 3 (some .int) ∈ xT := xT_in (in_tbl (List.mem_of_getElem? (i := 1172) (by decide +kernel))) (by decide +kernel)
theorem xd_X7_meet : xD yX7_meet 0 := by decide +kernel
theorem im_X6_ends : Cond.instanceMethod yX6_ends ∈ xT := xT_in (in_tbl (List.mem_of_getElem? (i := 482) (by decide +kernel))) (by decide +kernel)
theorem sl_X6_ends : Cond.selects RX6 yX6_ends yX6_ends ∈ xT := xT_in (in_tbl (List.mem_of_getElem? (i := 483) (by decide +kernel))) (by decide +kernel)
theorem lk_L_77 : xLinkV RL 77 yX6_ends := ⟨xT_in (in_tbl (List.mem_of_getElem? (i := 481) (by decide +kernel))) (by decide +kernel), im_X6_ends, sl_X6_ends, ini_RollTown⟩
theorem cd_X6_ends : Cond.code yX6_ends cX6_ends 3 (some .int) ∈ xT := xT_in (in_tbl (List.mem_of_getElem? (i := 484) (by decide +kernel))) (by decide +kernel)
theorem xd_X6_ends : xD yX6_ends 1 := by decide +kernel
theorem im_X7_ends : Cond.instanceMethod yX7_ends ∈ xT := xT_in (in_tbl (List.mem_of_getElem? (i := 1175) (by decide +kernel))) (by decide +kernel)
theorem sl_X7_ends : Cond.selects RX7 yX7_ends yX7_ends ∈ xT := xT_in (in_tbl (List.mem_of_getElem? (i := 1176) (by decide +kernel))) (by decide +kernel)
theorem lk_L_80 : xLinkV RL 80 yX7_ends := ⟨xT_in (in_tbl (List.mem_of_getElem? (i := 1174) (by decide +kernel))) (by decide +kernel), im_X7_ends, sl_X7_ends, ini_RollTownModel⟩
theorem cd_X7_ends : Cond.code yX7_ends cX7_ends 3 (some .int) ∈ xT := xT_in (in_tbl (List.mem_of_getElem? (i := 1177) (by decide +kernel))) (by decide +kernel)
theorem xd_X7_ends : xD yX7_ends 1 := by decide +kernel
theorem im_X6_takes : Cond.instanceMethod yX6_takes ∈ xT := xT_in (in_tbl (List.mem_of_getElem? (i := 515) (by decide +kernel))) (by decide +kernel)
theorem sl_X6_takes : Cond.selects RX6 yX6_takes yX6_takes ∈ xT := xT_in (in_tbl (List.mem_of_getElem? (i := 516) (by decide +kernel))) (by decide +kernel)
theorem lk_L_81 : xLinkV RL 81 yX6_takes := ⟨xT_in (in_tbl (List.mem_of_getElem? (i := 514) (by decide +kernel))) (by decide +kernel), im_X6_takes, sl_X6_takes, ini_RollTown⟩
theorem cd_X6_takes : Cond.code yX6_takes cX6_takes 3 (some .int) ∈ xT := xT_in (in_tbl (List.mem_of_getElem? (i := 517) (by decide +kernel))) (by decide +kernel)
theorem xd_X6_takes : xD yX6_takes 1 := by decide +kernel
theorem im_X7_takes : Cond.instanceMethod yX7_takes ∈ xT := xT_in (in_tbl (List.mem_of_getElem? (i := 1187) (by decide +kernel))) (by decide +kernel)
theorem sl_X7_takes : Cond.selects RX7 yX7_takes yX7_takes ∈ xT := xT_in (in_tbl (List.mem_of_getElem? (i := 1188) (by decide +kernel))) (by decide +kernel)
theorem lk_L_84 : xLinkV RL 84 yX7_takes := ⟨xT_in (in_tbl (List.mem_of_getElem? (i := 1186) (by decide +kernel))) (by decide +kernel), im_X7_takes, sl_X7_takes, ini_RollTownModel⟩
theorem cd_X7_takes : Cond.code yX7_takes cX7_takes 3 (some .int) ∈ xT := xT_in (in_tbl (List.mem_of_getElem? (i := 1189) (by decide +kernel))) (by decide +kernel)
theorem xd_X7_takes : xD yX7_takes 1 := by decide +kernel
theorem im_X6_speed : Cond.instanceMethod yX6_speed ∈ xT := xT_in (in_tbl (List.mem_of_getElem? (i := 519) (by decide +kernel))) (by decide +kernel)
theorem sl_X6_speed : Cond.selects RX6 yX6_speed yX6_speed ∈ xT := xT_in (in_tbl (List.mem_of_getElem? (i := 520) (by decide +kernel))) (by decide +kernel)
theorem lk_L_85 : xLinkV RL 85 yX6_speed := ⟨xT_in (in_tbl (List.mem_of_getElem? (i := 518) (by decide +kernel))) (by decide +kernel), im_X6_speed, sl_X6_speed, ini_RollTown⟩
theorem cd_X6_speed : Cond.code yX6_speed cX6_speed 3 (some .int) ∈ xT := xT_in (in_tbl (List.mem_of_getElem? (i := 521) (by decide +kernel))) (by decide +kernel)
theorem xd_X6_speed : xD yX6_speed 1 := by decide +kernel
theorem im_X7_speed : Cond.instanceMethod yX7_speed ∈ xT := xT_in (in_tbl (List.mem_of_getElem? (i := 1191) (by decide +kernel))) (by decide +kernel)
theorem sl_X7_speed : Cond.selects RX7 yX7_speed yX7_speed ∈ xT := xT_in (in_tbl (List.mem_of_getElem? (i := 1192) (by decide +kernel))) (by decide +kernel)
theorem lk_L_88 : xLinkV RL 88 yX7_speed := ⟨xT_in (in_tbl (List.mem_of_getElem? (i := 1190) (by decide +kernel))) (by decide +kernel), im_X7_speed, sl_X7_speed, ini_RollTownModel⟩
theorem cd_X7_speed : Cond.code yX7_speed cX7_speed 3 (some .int) ∈ xT := xT_in (in_tbl (List.mem_of_getElem? (i := 1193) (by decide +kernel))) (by decide +kernel)
theorem xd_X7_speed : xD yX7_speed 1 := by decide +kernel
theorem im_X6_seen : Cond.instanceMethod yX6_seen ∈ xT := xT_in (in_tbl (List.mem_of_getElem? (i := 523) (by decide +kernel))) (by decide +kernel)
theorem sl_X6_seen : Cond.selects RX6 yX6_seen yX6_seen ∈ xT := xT_in (in_tbl (List.mem_of_getElem? (i := 524) (by decide +kernel))) (by decide +kernel)
theorem lk_L_89 : xLinkV RL 89 yX6_seen := ⟨xT_in (in_tbl (List.mem_of_getElem? (i := 522) (by decide +kernel))) (by decide +kernel), im_X6_seen, sl_X6_seen, ini_RollTown⟩
theorem cd_X6_seen : Cond.code yX6_seen cX6_seen 3 (some .int) ∈ xT := xT_in (in_tbl (List.mem_of_getElem? (i := 525) (by decide +kernel))) (by decide +kernel)
theorem xd_X6_seen : xD yX6_seen 1 := by decide +kernel
theorem im_X7_seen : Cond.instanceMethod yX7_seen ∈ xT := xT_in (in_tbl (List.mem_of_getElem? (i := 1195) (by decide +kernel))) (by decide +kernel)
theorem sl_X7_seen : Cond.selects RX7 yX7_seen yX7_seen ∈ xT := xT_in (in_tbl (List.mem_of_getElem? (i := 1196) (by decide +kernel))) (by decide +kernel)
theorem lk_L_92 : xLinkV RL 92 yX7_seen := ⟨xT_in (in_tbl (List.mem_of_getElem? (i := 1194) (by decide +kernel))) (by decide +kernel), im_X7_seen, sl_X7_seen, ini_RollTownModel⟩
theorem cd_X7_seen : Cond.code yX7_seen cX7_seen 3 (some .int) ∈ xT := xT_in (in_tbl (List.mem_of_getElem? (i := 1197) (by decide +kernel))) (by decide +kernel)
theorem xd_X7_seen : xD yX7_seen 1 := by decide +kernel
theorem im_X6_sand : Cond.instanceMethod yX6_sand ∈ xT := xT_in (in_tbl (List.mem_of_getElem? (i := 527) (by decide +kernel))) (by decide +kernel)
theorem sl_X6_sand : Cond.selects RX6 yX6_sand yX6_sand ∈ xT := xT_in (in_tbl (List.mem_of_getElem? (i := 528) (by decide +kernel))) (by decide +kernel)
theorem lk_L_93 : xLinkV RL 93 yX6_sand := ⟨xT_in (in_tbl (List.mem_of_getElem? (i := 526) (by decide +kernel))) (by decide +kernel), im_X6_sand, sl_X6_sand, ini_RollTown⟩
theorem cd_X6_sand : Cond.code yX6_sand cX6_sand 5 (some .int) ∈ xT := xT_in (in_tbl (List.mem_of_getElem? (i := 529) (by decide +kernel))) (by decide +kernel)
theorem xd_X6_sand : xD yX6_sand 2 := by decide +kernel
theorem im_X7_sand : Cond.instanceMethod yX7_sand ∈ xT := xT_in (in_tbl (List.mem_of_getElem? (i := 1199) (by decide +kernel))) (by decide +kernel)
theorem sl_X7_sand : Cond.selects RX7 yX7_sand yX7_sand ∈ xT := xT_in (in_tbl (List.mem_of_getElem? (i := 1200) (by decide +kernel))) (by decide +kernel)
theorem lk_L_96 : xLinkV RL 96 yX7_sand := ⟨xT_in (in_tbl (List.mem_of_getElem? (i := 1198) (by decide +kernel))) (by decide +kernel), im_X7_sand, sl_X7_sand, ini_RollTownModel⟩
theorem cd_X7_sand : Cond.code yX7_sand cX7_sand 7 (some .int) ∈ xT := xT_in (in_tbl (List.mem_of_getElem? (i := 1201) (by decide +kernel))) (by decide +kernel)
theorem xd_X7_sand : xD yX7_sand 2 := by decide +kernel
theorem im_X6_rollsFor : Cond.instanceMethod yX6_rollsFor ∈ xT := xT_in (in_tbl (List.mem_of_getElem? (i := 539) (by decide +kernel))) (by decide +kernel)
theorem sl_X6_rollsFor : Cond.selects RX6 yX6_rollsFor yX6_rollsFor ∈ xT := xT_in (in_tbl (List.mem_of_getElem? (i := 540) (by decide +kernel))) (by decide +kernel)
theorem lk_L_97 : xLinkV RL 97 yX6_rollsFor := ⟨xT_in (in_tbl (List.mem_of_getElem? (i := 538) (by decide +kernel))) (by decide +kernel), im_X6_rollsFor, sl_X6_rollsFor, ini_RollTown⟩
theorem cd_X6_rollsFor : Cond.code yX6_rollsFor cX6_rollsFor 4 (some .int) ∈ xT := xT_in (in_tbl (List.mem_of_getElem? (i := 541) (by decide +kernel))) (by decide +kernel)
theorem xd_X6_rollsFor : xD yX6_rollsFor 1 := by decide +kernel
theorem im_X7_rollsFor : Cond.instanceMethod yX7_rollsFor ∈ xT := xT_in (in_tbl (List.mem_of_getElem? (i := 1203) (by decide +kernel))) (by decide +kernel)
theorem sl_X7_rollsFor : Cond.selects RX7 yX7_rollsFor yX7_rollsFor ∈ xT := xT_in (in_tbl (List.mem_of_getElem? (i := 1204) (by decide +kernel))) (by decide +kernel)
theorem lk_L_100 : xLinkV RL 100 yX7_rollsFor := ⟨xT_in (in_tbl (List.mem_of_getElem? (i := 1202) (by decide +kernel))) (by decide +kernel), im_X7_rollsFor, sl_X7_rollsFor, ini_RollTownModel⟩
theorem cd_X7_rollsFor : Cond.code yX7_rollsFor cX7_rollsFor 6 (some .int) ∈ xT := xT_in (in_tbl (List.mem_of_getElem? (i := 1205) (by decide +kernel))) (by decide +kernel)
theorem xd_X7_rollsFor : xD yX7_rollsFor 1 := by decide +kernel
theorem im_X6_matters : Cond.instanceMethod yX6_matters ∈ xT := xT_in (in_tbl (List.mem_of_getElem? (i := 543) (by decide +kernel))) (by decide +kernel)
theorem sl_X6_matters : Cond.selects RX6 yX6_matters yX6_matters ∈ xT := xT_in (in_tbl (List.mem_of_getElem? (i := 544) (by decide +kernel))) (by decide +kernel)
theorem lk_L_101 : xLinkV RL 101 yX6_matters := ⟨xT_in (in_tbl (List.mem_of_getElem? (i := 542) (by decide +kernel))) (by decide +kernel), im_X6_matters, sl_X6_matters, ini_RollTown⟩
theorem cd_X6_matters : Cond.code yX6_matters cX6_matters 6 (some .int) ∈ xT := xT_in (in_tbl (List.mem_of_getElem? (i := 545) (by decide +kernel))) (by decide +kernel)
theorem xd_X6_matters : xD yX6_matters 1 := by decide +kernel
theorem im_X7_matters : Cond.instanceMethod yX7_matters ∈ xT := xT_in (in_tbl (List.mem_of_getElem? (i := 1207) (by decide +kernel))) (by decide +kernel)
theorem sl_X7_matters : Cond.selects RX7 yX7_matters yX7_matters ∈ xT := xT_in (in_tbl (List.mem_of_getElem? (i := 1208) (by decide +kernel))) (by decide +kernel)
theorem lk_L_104 : xLinkV RL 104 yX7_matters := ⟨xT_in (in_tbl (List.mem_of_getElem? (i := 1206) (by decide +kernel))) (by decide +kernel), im_X7_matters, sl_X7_matters, ini_RollTownModel⟩
theorem cd_X7_matters : Cond.code yX7_matters cX7_matters 7 (some .int) ∈ xT := xT_in (in_tbl (List.mem_of_getElem? (i := 1209) (by decide +kernel))) (by decide +kernel)
theorem xd_X7_matters : xD yX7_matters 1 := by decide +kernel
theorem im_X6_kindFor : Cond.instanceMethod yX6_kindFor ∈ xT := xT_in (in_tbl (List.mem_of_getElem? (i := 547) (by decide +kernel))) (by decide +kernel)
theorem sl_X6_kindFor : Cond.selects RX6 yX6_kindFor yX6_kindFor ∈ xT := xT_in (in_tbl (List.mem_of_getElem? (i := 548) (by decide +kernel))) (by decide +kernel)
theorem lk_L_105 : xLinkV RL 105 yX6_kindFor := ⟨xT_in (in_tbl (List.mem_of_getElem? (i := 546) (by decide +kernel))) (by decide +kernel), im_X6_kindFor, sl_X6_kindFor, ini_RollTown⟩
theorem cd_X6_kindFor : Cond.code yX6_kindFor cX6_kindFor 6 (some .int) ∈ xT := xT_in (in_tbl (List.mem_of_getElem? (i := 549) (by decide +kernel))) (by decide +kernel)
theorem xd_X6_kindFor : xD yX6_kindFor 1 := by decide +kernel
theorem im_X7_kindFor : Cond.instanceMethod yX7_kindFor ∈ xT := xT_in (in_tbl (List.mem_of_getElem? (i := 1211) (by decide +kernel))) (by decide +kernel)
theorem sl_X7_kindFor : Cond.selects RX7 yX7_kindFor yX7_kindFor ∈ xT := xT_in (in_tbl (List.mem_of_getElem? (i := 1212) (by decide +kernel))) (by decide +kernel)
theorem lk_L_108 : xLinkV RL 108 yX7_kindFor := ⟨xT_in (in_tbl (List.mem_of_getElem? (i := 1210) (by decide +kernel))) (by decide +kernel), im_X7_kindFor, sl_X7_kindFor, ini_RollTownModel⟩
theorem cd_X7_kindFor : Cond.code yX7_kindFor cX7_kindFor 7 (some .int) ∈ xT := xT_in (in_tbl (List.mem_of_getElem? (i := 1213) (by decide +kernel))) (by decide +kernel)
theorem xd_X7_kindFor : xD yX7_kindFor 1 := by decide +kernel
theorem im_X6_wait : Cond.instanceMethod yX6_wait ∈ xT := xT_in (in_tbl (List.mem_of_getElem? (i := 551) (by decide +kernel))) (by decide +kernel)
theorem sl_X6_wait : Cond.selects RX6 yX6_wait yX6_wait ∈ xT := xT_in (in_tbl (List.mem_of_getElem? (i := 552) (by decide +kernel))) (by decide +kernel)
theorem lk_L_109 : xLinkV RL 109 yX6_wait := ⟨xT_in (in_tbl (List.mem_of_getElem? (i := 550) (by decide +kernel))) (by decide +kernel), im_X6_wait, sl_X6_wait, ini_RollTown⟩
theorem cd_X6_wait : Cond.code yX6_wait cX6_wait 3 (some .int) ∈ xT := xT_in (in_tbl (List.mem_of_getElem? (i := 553) (by decide +kernel))) (by decide +kernel)
theorem xd_X6_wait : xD yX6_wait 1 := by decide +kernel
theorem im_X7_wait : Cond.instanceMethod yX7_wait ∈ xT := xT_in (in_tbl (List.mem_of_getElem? (i := 1215) (by decide +kernel))) (by decide +kernel)
theorem sl_X7_wait : Cond.selects RX7 yX7_wait yX7_wait ∈ xT := xT_in (in_tbl (List.mem_of_getElem? (i := 1216) (by decide +kernel))) (by decide +kernel)
theorem lk_L_112 : xLinkV RL 112 yX7_wait := ⟨xT_in (in_tbl (List.mem_of_getElem? (i := 1214) (by decide +kernel))) (by decide +kernel), im_X7_wait, sl_X7_wait, ini_RollTownModel⟩
theorem cd_X7_wait : Cond.code yX7_wait cX7_wait 5 (some .int) ∈ xT := xT_in (in_tbl (List.mem_of_getElem? (i := 1217) (by decide +kernel))) (by decide +kernel)
theorem xd_X7_wait : xD yX7_wait 1 := by decide +kernel
theorem im_X6_behind : Cond.instanceMethod yX6_behind ∈ xT := xT_in (in_tbl (List.mem_of_getElem? (i := 560) (by decide +kernel))) (by decide +kernel)
theorem sl_X6_behind : Cond.selects RX6 yX6_behind yX6_behind ∈ xT := xT_in (in_tbl (List.mem_of_getElem? (i := 561) (by decide +kernel))) (by decide +kernel)
theorem lk_L_113 : xLinkV RL 113 yX6_behind := ⟨xT_in (in_tbl (List.mem_of_getElem? (i := 559) (by decide +kernel))) (by decide +kernel), im_X6_behind, sl_X6_behind, ini_RollTown⟩
theorem cd_X6_behind : Cond.code yX6_behind cX6_behind 4 (some .int) ∈ xT := xT_in (in_tbl (List.mem_of_getElem? (i := 562) (by decide +kernel))) (by decide +kernel)
theorem xd_X6_behind : xD yX6_behind 2 := by decide +kernel
theorem im_X7_behind : Cond.instanceMethod yX7_behind ∈ xT := xT_in (in_tbl (List.mem_of_getElem? (i := 1223) (by decide +kernel))) (by decide +kernel)
theorem sl_X7_behind : Cond.selects RX7 yX7_behind yX7_behind ∈ xT := xT_in (in_tbl (List.mem_of_getElem? (i := 1224) (by decide +kernel))) (by decide +kernel)
theorem lk_L_116 : xLinkV RL 116 yX7_behind := ⟨xT_in (in_tbl (List.mem_of_getElem? (i := 1222) (by decide +kernel))) (by decide +kernel), im_X7_behind, sl_X7_behind, ini_RollTownModel⟩
theorem cd_X7_behind : Cond.code yX7_behind cX7_behind 7 (some .int) ∈ xT := xT_in (in_tbl (List.mem_of_getElem? (i := 1225) (by decide +kernel))) (by decide +kernel)
theorem xd_X7_behind : xD yX7_behind 2 := by decide +kernel
theorem im_X6_come : Cond.instanceMethod yX6_come ∈ xT := xT_in (in_tbl (List.mem_of_getElem? (i := 571) (by decide +kernel))) (by decide +kernel)
theorem sl_X6_come : Cond.selects RX6 yX6_come yX6_come ∈ xT := xT_in (in_tbl (List.mem_of_getElem? (i := 572) (by decide +kernel))) (by decide +kernel)
theorem lk_L_117 : xLinkV RL 117 yX6_come := ⟨xT_in (in_tbl (List.mem_of_getElem? (i := 570) (by decide +kernel))) (by decide +kernel), im_X6_come, sl_X6_come, ini_RollTown⟩
theorem cd_X6_come : Cond.code yX6_come cX6_come 4 (some .int) ∈ xT := xT_in (in_tbl (List.mem_of_getElem? (i := 573) (by decide +kernel))) (by decide +kernel)
theorem xd_X6_come : xD yX6_come 0 := by decide +kernel
theorem im_X7_come : Cond.instanceMethod yX7_come ∈ xT := xT_in (in_tbl (List.mem_of_getElem? (i := 1231) (by decide +kernel))) (by decide +kernel)
theorem sl_X7_come : Cond.selects RX7 yX7_come yX7_come ∈ xT := xT_in (in_tbl (List.mem_of_getElem? (i := 1232) (by decide +kernel))) (by decide +kernel)
theorem lk_L_120 : xLinkV RL 120 yX7_come := ⟨xT_in (in_tbl (List.mem_of_getElem? (i := 1230) (by decide +kernel))) (by decide +kernel), im_X7_come, sl_X7_come, ini_RollTownModel⟩
theorem cd_X7_come : Cond.code yX7_come cX7_come 3 (some .int) ∈ xT := xT_in (in_tbl (List.mem_of_getElem? (i := 1233) (by decide +kernel))) (by decide +kernel)
theorem xd_X7_come : xD yX7_come 0 := by decide +kernel
theorem im_X6_pack : Cond.instanceMethod yX6_pack ∈ xT := xT_in (in_tbl (List.mem_of_getElem? (i := 576) (by decide +kernel))) (by decide +kernel)
theorem sl_X6_pack : Cond.selects RX6 yX6_pack yX6_pack ∈ xT := xT_in (in_tbl (List.mem_of_getElem? (i := 577) (by decide +kernel))) (by decide +kernel)
theorem lk_L_121 : xLinkV RL 121 yX6_pack := ⟨xT_in (in_tbl (List.mem_of_getElem? (i := 575) (by decide +kernel))) (by decide +kernel), im_X6_pack, sl_X6_pack, ini_RollTown⟩
theorem cd_X6_pack : Cond.code yX6_pack cX6_pack 2 (some .int) ∈ xT := xT_in (in_tbl (List.mem_of_getElem? (i := 578) (by decide +kernel))) (by decide +kernel)
theorem xd_X6_pack : xD yX6_pack 1 := by decide +kernel
theorem im_X7_pack : Cond.instanceMethod yX7_pack ∈ xT := xT_in (in_tbl (List.mem_of_getElem? (i := 1235) (by decide +kernel))) (by decide +kernel)
theorem sl_X7_pack : Cond.selects RX7 yX7_pack yX7_pack ∈ xT := xT_in (in_tbl (List.mem_of_getElem? (i := 1236) (by decide +kernel))) (by decide +kernel)
theorem lk_L_124 : xLinkV RL 124 yX7_pack := ⟨xT_in (in_tbl (List.mem_of_getElem? (i := 1234) (by decide +kernel))) (by decide +kernel), im_X7_pack, sl_X7_pack, ini_RollTownModel⟩
theorem cd_X7_pack : Cond.code yX7_pack cX7_pack 2 (some .int) ∈ xT := xT_in (in_tbl (List.mem_of_getElem? (i := 1237) (by decide +kernel))) (by decide +kernel)
theorem xd_X7_pack : xD yX7_pack 1 := by decide +kernel
theorem im_X6_lean : Cond.instanceMethod yX6_lean ∈ xT := xT_in (in_tbl (List.mem_of_getElem? (i := 599) (by decide +kernel))) (by decide +kernel)
theorem sl_X6_lean : Cond.selects RX6 yX6_lean yX6_lean ∈ xT := xT_in (in_tbl (List.mem_of_getElem? (i := 600) (by decide +kernel))) (by decide +kernel)
theorem lk_L_125 : xLinkV RL 125 yX6_lean := ⟨xT_in (in_tbl (List.mem_of_getElem? (i := 598) (by decide +kernel))) (by decide +kernel), im_X6_lean, sl_X6_lean, ini_RollTown⟩
theorem cd_X6_lean : Cond.code yX6_lean cX6_lean 2 (some .int) ∈ xT := xT_in (in_tbl (List.mem_of_getElem? (i := 601) (by decide +kernel))) (by decide +kernel)
theorem xd_X6_lean : xD yX6_lean 1 := by decide +kernel
theorem im_X7_lean : Cond.instanceMethod yX7_lean ∈ xT := xT_in (in_tbl (List.mem_of_getElem? (i := 1258) (by decide +kernel))) (by decide +kernel)
theorem sl_X7_lean : Cond.selects RX7 yX7_lean yX7_lean ∈ xT := xT_in (in_tbl (List.mem_of_getElem? (i := 1259) (by decide +kernel))) (by decide +kernel)
theorem lk_L_128 : xLinkV RL 128 yX7_lean := ⟨xT_in (in_tbl (List.mem_of_getElem? (i := 1257) (by decide +kernel))) (by decide +kernel), im_X7_lean, sl_X7_lean, ini_RollTownModel⟩
theorem cd_X7_lean : Cond.code yX7_lean cX7_lean 2 (some .int) ∈ xT := xT_in (in_tbl (List.mem_of_getElem? (i := 1260) (by decide +kernel))) (by decide +kernel)
theorem xd_X7_lean : xD yX7_lean 1 := by decide +kernel
theorem im_X6_drums : Cond.instanceMethod yX6_drums ∈ xT := xT_in (in_tbl (List.mem_of_getElem? (i := 604) (by decide +kernel))) (by decide +kernel)
theorem sl_X6_drums : Cond.selects RX6 yX6_drums yX6_drums ∈ xT := xT_in (in_tbl (List.mem_of_getElem? (i := 605) (by decide +kernel))) (by decide +kernel)
theorem lk_L_129 : xLinkV RL 129 yX6_drums := ⟨xT_in (in_tbl (List.mem_of_getElem? (i := 603) (by decide +kernel))) (by decide +kernel), im_X6_drums, sl_X6_drums, ini_RollTown⟩
theorem cd_X6_drums : Cond.code yX6_drums cX6_drums 3 (some .int) ∈ xT := xT_in (in_tbl (List.mem_of_getElem? (i := 606) (by decide +kernel))) (by decide +kernel)
theorem xd_X6_drums : xD yX6_drums 2 := by decide +kernel
theorem im_X7_drums : Cond.instanceMethod yX7_drums ∈ xT := xT_in (in_tbl (List.mem_of_getElem? (i := 1262) (by decide +kernel))) (by decide +kernel)
theorem sl_X7_drums : Cond.selects RX7 yX7_drums yX7_drums ∈ xT := xT_in (in_tbl (List.mem_of_getElem? (i := 1263) (by decide +kernel))) (by decide +kernel)
theorem lk_L_132 : xLinkV RL 132 yX7_drums := ⟨xT_in (in_tbl (List.mem_of_getElem? (i := 1261) (by decide +kernel))) (by decide +kernel), im_X7_drums, sl_X7_drums, ini_RollTownModel⟩
theorem cd_X7_drums : Cond.code yX7_drums cX7_drums 10 (some .int) ∈ xT := xT_in (in_tbl (List.mem_of_getElem? (i := 1264) (by decide +kernel))) (by decide +kernel)
theorem xd_X7_drums : xD yX7_drums 2 := by decide +kernel
theorem im_X6_waits : Cond.instanceMethod yX6_waits ∈ xT := xT_in (in_tbl (List.mem_of_getElem? (i := 622) (by decide +kernel))) (by decide +kernel)
theorem sl_X6_waits : Cond.selects RX6 yX6_waits yX6_waits ∈ xT := xT_in (in_tbl (List.mem_of_getElem? (i := 623) (by decide +kernel))) (by decide +kernel)
theorem lk_L_133 : xLinkV RL 133 yX6_waits := ⟨xT_in (in_tbl (List.mem_of_getElem? (i := 621) (by decide +kernel))) (by decide +kernel), im_X6_waits, sl_X6_waits, ini_RollTown⟩
theorem cd_X6_waits : Cond.code yX6_waits cX6_waits 1 (some .int) ∈ xT := xT_in (in_tbl (List.mem_of_getElem? (i := 624) (by decide +kernel))) (by decide +kernel)
theorem xd_X6_waits : xD yX6_waits 0 := by decide +kernel
theorem im_X7_waits : Cond.instanceMethod yX7_waits ∈ xT := xT_in (in_tbl (List.mem_of_getElem? (i := 1268) (by decide +kernel))) (by decide +kernel)
theorem sl_X7_waits : Cond.selects RX7 yX7_waits yX7_waits ∈ xT := xT_in (in_tbl (List.mem_of_getElem? (i := 1269) (by decide +kernel))) (by decide +kernel)
theorem lk_L_136 : xLinkV RL 136 yX7_waits := ⟨xT_in (in_tbl (List.mem_of_getElem? (i := 1267) (by decide +kernel))) (by decide +kernel), im_X7_waits, sl_X7_waits, ini_RollTownModel⟩
theorem cd_X7_waits : Cond.code yX7_waits cX7_waits 4 (some .int) ∈ xT := xT_in (in_tbl (List.mem_of_getElem? (i := 1270) (by decide +kernel))) (by decide +kernel)
theorem xd_X7_waits : xD yX7_waits 0 := by decide +kernel
theorem im_X6_least : Cond.instanceMethod yX6_least ∈ xT := xT_in (in_tbl (List.mem_of_getElem? (i := 638) (by decide +kernel))) (by decide +kernel)
theorem sl_X6_least : Cond.selects RX6 yX6_least yX6_least ∈ xT := xT_in (in_tbl (List.mem_of_getElem? (i := 639) (by decide +kernel))) (by decide +kernel)
theorem lk_L_137 : xLinkV RL 137 yX6_least := ⟨xT_in (in_tbl (List.mem_of_getElem? (i := 637) (by decide +kernel))) (by decide +kernel), im_X6_least, sl_X6_least, ini_RollTown⟩
theorem cd_X6_least : Cond.code yX6_least cX6_least 1 (some .int) ∈ xT := xT_in (in_tbl (List.mem_of_getElem? (i := 640) (by decide +kernel))) (by decide +kernel)
theorem xd_X6_least : xD yX6_least 0 := by decide +kernel
theorem im_X7_least : Cond.instanceMethod yX7_least ∈ xT := xT_in (in_tbl (List.mem_of_getElem? (i := 1276) (by decide +kernel))) (by decide +kernel)
theorem sl_X7_least : Cond.selects RX7 yX7_least yX7_least ∈ xT := xT_in (in_tbl (List.mem_of_getElem? (i := 1277) (by decide +kernel))) (by decide +kernel)
theorem lk_L_140 : xLinkV RL 140 yX7_least := ⟨xT_in (in_tbl (List.mem_of_getElem? (i := 1275) (by decide +kernel))) (by decide +kernel), im_X7_least, sl_X7_least, ini_RollTownModel⟩
theorem cd_X7_least : Cond.code yX7_least cX7_least 4 (some .int) ∈ xT := xT_in (in_tbl (List.mem_of_getElem? (i := 1278) (by decide +kernel))) (by decide +kernel)
theorem xd_X7_least : xD yX7_least 0 := by decide +kernel
theorem im_X6_order : Cond.instanceMethod yX6_order ∈ xT := xT_in (in_tbl (List.mem_of_getElem? (i := 646) (by decide +kernel))) (by decide +kernel)
theorem sl_X6_order : Cond.selects RX6 yX6_order yX6_order ∈ xT := xT_in (in_tbl (List.mem_of_getElem? (i := 647) (by decide +kernel))) (by decide +kernel)
theorem lk_L_141 : xLinkV RL 141 yX6_order := ⟨xT_in (in_tbl (List.mem_of_getElem? (i := 645) (by decide +kernel))) (by decide +kernel), im_X6_order, sl_X6_order, ini_RollTown⟩
theorem cd_X6_order : Cond.code yX6_order cX6_order 2 (some .int) ∈ xT := xT_in (in_tbl (List.mem_of_getElem? (i := 648) (by decide +kernel))) (by decide +kernel)
theorem xd_X6_order : xD yX6_order 1 := by decide +kernel
theorem im_X7_order : Cond.instanceMethod yX7_order ∈ xT := xT_in (in_tbl (List.mem_of_getElem? (i := 1284) (by decide +kernel))) (by decide +kernel)
theorem sl_X7_order : Cond.selects RX7 yX7_order yX7_order ∈ xT := xT_in (in_tbl (List.mem_of_getElem? (i := 1285) (by decide +kernel))) (by decide +kernel)
theorem lk_L_144 : xLinkV RL 144 yX7_order := ⟨xT_in (in_tbl (List.mem_of_getElem? (i := 1283) (by decide +kernel))) (by decide +kernel), im_X7_order, sl_X7_order, ini_RollTownModel⟩
theorem cd_X7_order : Cond.code yX7_order cX7_order 2 (some .int) ∈ xT := xT_in (in_tbl (List.mem_of_getElem? (i := 1286) (by decide +kernel))) (by decide +kernel)
theorem xd_X7_order : xD yX7_order 1 := by decide +kernel
theorem im_X6_wheel : Cond.instanceMethod yX6_wheel ∈ xT := xT_in (in_tbl (List.mem_of_getElem? (i := 650) (by decide +kernel))) (by decide +kernel)
theorem sl_X6_wheel : Cond.selects RX6 yX6_wheel yX6_wheel ∈ xT := xT_in (in_tbl (List.mem_of_getElem? (i := 651) (by decide +kernel))) (by decide +kernel)
theorem lk_L_145 : xLinkV RL 145 yX6_wheel := ⟨xT_in (in_tbl (List.mem_of_getElem? (i := 649) (by decide +kernel))) (by decide +kernel), im_X6_wheel, sl_X6_wheel, ini_RollTown⟩
theorem cd_X6_wheel : Cond.code yX6_wheel cX6_wheel 5 (some .int) ∈ xT := xT_in (in_tbl (List.mem_of_getElem? (i := 652) (by decide +kernel))) (by decide +kernel)
theorem xd_X6_wheel : xD yX6_wheel 1 := by decide +kernel
theorem im_X7_wheel : Cond.instanceMethod yX7_wheel ∈ xT := xT_in (in_tbl (List.mem_of_getElem? (i := 1288) (by decide +kernel))) (by decide +kernel)
theorem sl_X7_wheel : Cond.selects RX7 yX7_wheel yX7_wheel ∈ xT := xT_in (in_tbl (List.mem_of_getElem? (i := 1289) (by decide +kernel))) (by decide +kernel)
theorem lk_L_148 : xLinkV RL 148 yX7_wheel := ⟨xT_in (in_tbl (List.mem_of_getElem? (i := 1287) (by decide +kernel))) (by decide +kernel), im_X7_wheel, sl_X7_wheel, ini_RollTownModel⟩
theorem cd_X7_wheel : Cond.code yX7_wheel cX7_wheel 4 (some .int) ∈ xT := xT_in (in_tbl (List.mem_of_getElem? (i := 1290) (by decide +kernel))) (by decide +kernel)
theorem xd_X7_wheel : xD yX7_wheel 1 := by decide +kernel
theorem im_X6_odds : Cond.instanceMethod yX6_odds ∈ xT := xT_in (in_tbl (List.mem_of_getElem? (i := 654) (by decide +kernel))) (by decide +kernel)
theorem sl_X6_odds : Cond.selects RX6 yX6_odds yX6_odds ∈ xT := xT_in (in_tbl (List.mem_of_getElem? (i := 655) (by decide +kernel))) (by decide +kernel)
theorem lk_L_149 : xLinkV RL 149 yX6_odds := ⟨xT_in (in_tbl (List.mem_of_getElem? (i := 653) (by decide +kernel))) (by decide +kernel), im_X6_odds, sl_X6_odds, ini_RollTown⟩
theorem cd_X6_odds : Cond.code yX6_odds cX6_odds 5 (some .int) ∈ xT := xT_in (in_tbl (List.mem_of_getElem? (i := 656) (by decide +kernel))) (by decide +kernel)
theorem xd_X6_odds : xD yX6_odds 2 := by decide +kernel
theorem im_X7_odds : Cond.instanceMethod yX7_odds ∈ xT := xT_in (in_tbl (List.mem_of_getElem? (i := 1292) (by decide +kernel))) (by decide +kernel)
theorem sl_X7_odds : Cond.selects RX7 yX7_odds yX7_odds ∈ xT := xT_in (in_tbl (List.mem_of_getElem? (i := 1293) (by decide +kernel))) (by decide +kernel)
theorem lk_L_152 : xLinkV RL 152 yX7_odds := ⟨xT_in (in_tbl (List.mem_of_getElem? (i := 1291) (by decide +kernel))) (by decide +kernel), im_X7_odds, sl_X7_odds, ini_RollTownModel⟩
theorem cd_X7_odds : Cond.code yX7_odds cX7_odds 5 (some .int) ∈ xT := xT_in (in_tbl (List.mem_of_getElem? (i := 1294) (by decide +kernel))) (by decide +kernel)
theorem xd_X7_odds : xD yX7_odds 2 := by decide +kernel
theorem im_X6_worst : Cond.instanceMethod yX6_worst ∈ xT := xT_in (in_tbl (List.mem_of_getElem? (i := 664) (by decide +kernel))) (by decide +kernel)
theorem sl_X6_worst : Cond.selects RX6 yX6_worst yX6_worst ∈ xT := xT_in (in_tbl (List.mem_of_getElem? (i := 665) (by decide +kernel))) (by decide +kernel)
theorem lk_L_153 : xLinkV RL 153 yX6_worst := ⟨xT_in (in_tbl (List.mem_of_getElem? (i := 663) (by decide +kernel))) (by decide +kernel), im_X6_worst, sl_X6_worst, ini_RollTown⟩
theorem cd_X6_worst : Cond.code yX6_worst cX6_worst 4 (some .int) ∈ xT := xT_in (in_tbl (List.mem_of_getElem? (i := 666) (by decide +kernel))) (by decide +kernel)
theorem xd_X6_worst : xD yX6_worst 0 := by decide +kernel
theorem im_X7_worst : Cond.instanceMethod yX7_worst ∈ xT := xT_in (in_tbl (List.mem_of_getElem? (i := 1302) (by decide +kernel))) (by decide +kernel)
theorem sl_X7_worst : Cond.selects RX7 yX7_worst yX7_worst ∈ xT := xT_in (in_tbl (List.mem_of_getElem? (i := 1303) (by decide +kernel))) (by decide +kernel)
theorem lk_L_156 : xLinkV RL 156 yX7_worst := ⟨xT_in (in_tbl (List.mem_of_getElem? (i := 1301) (by decide +kernel))) (by decide +kernel), im_X7_worst, sl_X7_worst, ini_RollTownModel⟩
theorem cd_X7_worst : Cond.code yX7_worst cX7_worst 4 (some .int) ∈ xT := xT_in (in_tbl (List.mem_of_getElem? (i := 1304) (by decide +kernel))) (by decide +kernel)
theorem xd_X7_worst : xD yX7_worst 0 := by decide +kernel
theorem im_X6_seed : Cond.instanceMethod yX6_seed ∈ xT := xT_in (in_tbl (List.mem_of_getElem? (i := 668) (by decide +kernel))) (by decide +kernel)
theorem sl_X6_seed : Cond.selects RX6 yX6_seed yX6_seed ∈ xT := xT_in (in_tbl (List.mem_of_getElem? (i := 669) (by decide +kernel))) (by decide +kernel)
theorem lk_L_157 : xLinkV RL 157 yX6_seed := ⟨xT_in (in_tbl (List.mem_of_getElem? (i := 667) (by decide +kernel))) (by decide +kernel), im_X6_seed, sl_X6_seed, ini_RollTown⟩
theorem cd_X6_seed : Cond.code yX6_seed cX6_seed 3 (some .int) ∈ xT := xT_in (in_tbl (List.mem_of_getElem? (i := 670) (by decide +kernel))) (by decide +kernel)
theorem xd_X6_seed : xD yX6_seed 1 := by decide +kernel
theorem im_X7_seed : Cond.instanceMethod yX7_seed ∈ xT := xT_in (in_tbl (List.mem_of_getElem? (i := 1306) (by decide +kernel))) (by decide +kernel)
theorem sl_X7_seed : Cond.selects RX7 yX7_seed yX7_seed ∈ xT := xT_in (in_tbl (List.mem_of_getElem? (i := 1307) (by decide +kernel))) (by decide +kernel)
theorem lk_L_160 : xLinkV RL 160 yX7_seed := ⟨xT_in (in_tbl (List.mem_of_getElem? (i := 1305) (by decide +kernel))) (by decide +kernel), im_X7_seed, sl_X7_seed, ini_RollTownModel⟩
theorem cd_X7_seed : Cond.code yX7_seed cX7_seed 3 (some .int) ∈ xT := xT_in (in_tbl (List.mem_of_getElem? (i := 1308) (by decide +kernel))) (by decide +kernel)
theorem xd_X7_seed : xD yX7_seed 1 := by decide +kernel
theorem im_X6_feed : Cond.instanceMethod yX6_feed ∈ xT := xT_in (in_tbl (List.mem_of_getElem? (i := 672) (by decide +kernel))) (by decide +kernel)
theorem sl_X6_feed : Cond.selects RX6 yX6_feed yX6_feed ∈ xT := xT_in (in_tbl (List.mem_of_getElem? (i := 673) (by decide +kernel))) (by decide +kernel)
theorem lk_L_161 : xLinkV RL 161 yX6_feed := ⟨xT_in (in_tbl (List.mem_of_getElem? (i := 671) (by decide +kernel))) (by decide +kernel), im_X6_feed, sl_X6_feed, ini_RollTown⟩
theorem cd_X6_feed : Cond.code yX6_feed cX6_feed 4 (some .int) ∈ xT := xT_in (in_tbl (List.mem_of_getElem? (i := 674) (by decide +kernel))) (by decide +kernel)
theorem xd_X6_feed : xD yX6_feed 2 := by decide +kernel
theorem im_X7_feed : Cond.instanceMethod yX7_feed ∈ xT := xT_in (in_tbl (List.mem_of_getElem? (i := 1310) (by decide +kernel))) (by decide +kernel)
theorem sl_X7_feed : Cond.selects RX7 yX7_feed yX7_feed ∈ xT := xT_in (in_tbl (List.mem_of_getElem? (i := 1311) (by decide +kernel))) (by decide +kernel)
theorem lk_L_164 : xLinkV RL 164 yX7_feed := ⟨xT_in (in_tbl (List.mem_of_getElem? (i := 1309) (by decide +kernel))) (by decide +kernel), im_X7_feed, sl_X7_feed, ini_RollTownModel⟩
theorem cd_X7_feed : Cond.code yX7_feed cX7_feed 4 (some .int) ∈ xT := xT_in (in_tbl (List.mem_of_getElem? (i := 1312) (by decide +kernel))) (by decide +kernel)
theorem xd_X7_feed : xD yX7_feed 2 := by decide +kernel
theorem im_X6_wipe : Cond.instanceMethod yX6_wipe ∈ xT := xT_in (in_tbl (List.mem_of_getElem? (i := 680) (by decide +kernel))) (by decide +kernel)
theorem sl_X6_wipe : Cond.selects RX6 yX6_wipe yX6_wipe ∈ xT := xT_in (in_tbl (List.mem_of_getElem? (i := 681) (by decide +kernel))) (by decide +kernel)
theorem lk_L_165 : xLinkV RL 165 yX6_wipe := ⟨xT_in (in_tbl (List.mem_of_getElem? (i := 679) (by decide +kernel))) (by decide +kernel), im_X6_wipe, sl_X6_wipe, ini_RollTown⟩
theorem cd_X6_wipe : Cond.code yX6_wipe cX6_wipe 2 (some .int) ∈ xT := xT_in (in_tbl (List.mem_of_getElem? (i := 682) (by decide +kernel))) (by decide +kernel)
theorem xd_X6_wipe : xD yX6_wipe 0 := by decide +kernel
theorem im_X7_wipe : Cond.instanceMethod yX7_wipe ∈ xT := xT_in (in_tbl (List.mem_of_getElem? (i := 1314) (by decide +kernel))) (by decide +kernel)
theorem sl_X7_wipe : Cond.selects RX7 yX7_wipe yX7_wipe ∈ xT := xT_in (in_tbl (List.mem_of_getElem? (i := 1315) (by decide +kernel))) (by decide +kernel)
theorem lk_L_168 : xLinkV RL 168 yX7_wipe := ⟨xT_in (in_tbl (List.mem_of_getElem? (i := 1313) (by decide +kernel))) (by decide +kernel), im_X7_wipe, sl_X7_wipe, ini_RollTownModel⟩
theorem cd_X7_wipe : Cond.code yX7_wipe cX7_wipe 2 (some .int) ∈ xT := xT_in (in_tbl (List.mem_of_getElem? (i := 1316) (by decide +kernel))) (by decide +kernel)
theorem xd_X7_wipe : xD yX7_wipe 0 := by decide +kernel
theorem im_X6_text : Cond.instanceMethod yX6_text ∈ xT := xT_in (in_tbl (List.mem_of_getElem? (i := 684) (by decide +kernel))) (by decide +kernel)
theorem sl_X6_text : Cond.selects RX6 yX6_text yX6_text ∈ xT := xT_in (in_tbl (List.mem_of_getElem? (i := 685) (by decide +kernel))) (by decide +kernel)
theorem lk_L_169 : xLinkV RL 169 yX6_text := ⟨xT_in (in_tbl (List.mem_of_getElem? (i := 683) (by decide +kernel))) (by decide +kernel), im_X6_text, sl_X6_text, ini_RollTown⟩
theorem cd_X6_text : Cond.code yX6_text cX6_text 2 (some .int) ∈ xT := xT_in (in_tbl (List.mem_of_getElem? (i := 686) (by decide +kernel))) (by decide +kernel)
theorem xd_X6_text : xD yX6_text 0 := by decide +kernel
theorem im_X7_text : Cond.instanceMethod yX7_text ∈ xT := xT_in (in_tbl (List.mem_of_getElem? (i := 1318) (by decide +kernel))) (by decide +kernel)
theorem sl_X7_text : Cond.selects RX7 yX7_text yX7_text ∈ xT := xT_in (in_tbl (List.mem_of_getElem? (i := 1319) (by decide +kernel))) (by decide +kernel)
theorem lk_L_172 : xLinkV RL 172 yX7_text := ⟨xT_in (in_tbl (List.mem_of_getElem? (i := 1317) (by decide +kernel))) (by decide +kernel), im_X7_text, sl_X7_text, ini_RollTownModel⟩
theorem cd_X7_text : Cond.code yX7_text cX7_text 2 (some .int) ∈ xT := xT_in (in_tbl (List.mem_of_getElem? (i := 1320) (by decide +kernel))) (by decide +kernel)
theorem xd_X7_text : xD yX7_text 0 := by decide +kernel
theorem im_X6_hold : Cond.instanceMethod yX6_hold ∈ xT := xT_in (in_tbl (List.mem_of_getElem? (i := 829) (by decide +kernel))) (by decide +kernel)
theorem sl_X6_hold : Cond.selects RX6 yX6_hold yX6_hold ∈ xT := xT_in (in_tbl (List.mem_of_getElem? (i := 830) (by decide +kernel))) (by decide +kernel)
theorem lk_L_173 : xLinkV RL 173 yX6_hold := ⟨xT_in (in_tbl (List.mem_of_getElem? (i := 828) (by decide +kernel))) (by decide +kernel), im_X6_hold, sl_X6_hold, ini_RollTown⟩
theorem cd_X6_hold : Cond.code yX6_hold cX6_hold 3 (some .int) ∈ xT := xT_in (in_tbl (List.mem_of_getElem? (i := 831) (by decide +kernel))) (by decide +kernel)
theorem xd_X6_hold : xD yX6_hold 2 := by decide +kernel
theorem im_X7_hold : Cond.instanceMethod yX7_hold ∈ xT := xT_in (in_tbl (List.mem_of_getElem? (i := 1409) (by decide +kernel))) (by decide +kernel)
theorem sl_X7_hold : Cond.selects RX7 yX7_hold yX7_hold ∈ xT := xT_in (in_tbl (List.mem_of_getElem? (i := 1410) (by decide +kernel))) (by decide +kernel)
theorem lk_L_176 : xLinkV RL 176 yX7_hold := ⟨xT_in (in_tbl (List.mem_of_getElem? (i := 1408) (by decide +kernel))) (by decide +kernel), im_X7_hold, sl_X7_hold, ini_RollTownModel⟩
theorem cd_X7_hold : Cond.code yX7_hold cX7_hold 3 (some .int) ∈ xT := xT_in (in_tbl (List.mem_of_getElem? (i := 1411) (by decide +kernel))) (by decide +kernel)
theorem xd_X7_hold : xD yX7_hold 2 := by decide +kernel
theorem im_X6_as : Cond.instanceMethod yX6_as ∈ xT := xT_in (in_tbl (List.mem_of_getElem? (i := 833) (by decide +kernel))) (by decide +kernel)
theorem sl_X6_as : Cond.selects RX6 yX6_as yX6_as ∈ xT := xT_in (in_tbl (List.mem_of_getElem? (i := 834) (by decide +kernel))) (by decide +kernel)
theorem lk_L_177 : xLinkV RL 177 yX6_as := ⟨xT_in (in_tbl (List.mem_of_getElem? (i := 832) (by decide +kernel))) (by decide +kernel), im_X6_as, sl_X6_as, ini_RollTown⟩
theorem cd_X6_as : Cond.code yX6_as cX6_as 4 (some .int) ∈ xT := xT_in (in_tbl (List.mem_of_getElem? (i := 835) (by decide +kernel))) (by decide +kernel)
theorem xd_X6_as : xD yX6_as 2 := by decide +kernel
theorem im_X7_as : Cond.instanceMethod yX7_as ∈ xT := xT_in (in_tbl (List.mem_of_getElem? (i := 1413) (by decide +kernel))) (by decide +kernel)
theorem sl_X7_as : Cond.selects RX7 yX7_as yX7_as ∈ xT := xT_in (in_tbl (List.mem_of_getElem? (i := 1414) (by decide +kernel))) (by decide +kernel)
theorem lk_L_180 : xLinkV RL 180 yX7_as := ⟨xT_in (in_tbl (List.mem_of_getElem? (i := 1412) (by decide +kernel))) (by decide +kernel), im_X7_as, sl_X7_as, ini_RollTownModel⟩
theorem cd_X7_as : Cond.code yX7_as cX7_as 6 (some .int) ∈ xT := xT_in (in_tbl (List.mem_of_getElem? (i := 1415) (by decide +kernel))) (by decide +kernel)
theorem xd_X7_as : xD yX7_as 2 := by decide +kernel
theorem im_X6_sheet : Cond.instanceMethod yX6_sheet ∈ xT := xT_in (in_tbl (List.mem_of_getElem? (i := 845) (by decide +kernel))) (by decide +kernel)
theorem sl_X6_sheet : Cond.selects RX6 yX6_sheet yX6_sheet ∈ xT := xT_in (in_tbl (List.mem_of_getElem? (i := 846) (by decide +kernel))) (by decide +kernel)
theorem lk_L_181 : xLinkV RL 181 yX6_sheet := ⟨xT_in (in_tbl (List.mem_of_getElem? (i := 844) (by decide +kernel))) (by decide +kernel), im_X6_sheet, sl_X6_sheet, ini_RollTown⟩
theorem cd_X6_sheet : Cond.code yX6_sheet cX6_sheet 4 (some .int) ∈ xT := xT_in (in_tbl (List.mem_of_getElem? (i := 847) (by decide +kernel))) (by decide +kernel)
theorem xd_X6_sheet : xD yX6_sheet 3 := by decide +kernel
theorem im_X7_sheet : Cond.instanceMethod yX7_sheet ∈ xT := xT_in (in_tbl (List.mem_of_getElem? (i := 1419) (by decide +kernel))) (by decide +kernel)
theorem sl_X7_sheet : Cond.selects RX7 yX7_sheet yX7_sheet ∈ xT := xT_in (in_tbl (List.mem_of_getElem? (i := 1420) (by decide +kernel))) (by decide +kernel)
theorem lk_L_184 : xLinkV RL 184 yX7_sheet := ⟨xT_in (in_tbl (List.mem_of_getElem? (i := 1418) (by decide +kernel))) (by decide +kernel), im_X7_sheet, sl_X7_sheet, ini_RollTownModel⟩
theorem cd_X7_sheet : Cond.code yX7_sheet cX7_sheet 5 (some .int) ∈ xT := xT_in (in_tbl (List.mem_of_getElem? (i := 1421) (by decide +kernel))) (by decide +kernel)
theorem xd_X7_sheet : xD yX7_sheet 3 := by decide +kernel
theorem im_X6_write : Cond.instanceMethod yX6_write ∈ xT := xT_in (in_tbl (List.mem_of_getElem? (i := 857) (by decide +kernel))) (by decide +kernel)
theorem sl_X6_write : Cond.selects RX6 yX6_write yX6_write ∈ xT := xT_in (in_tbl (List.mem_of_getElem? (i := 858) (by decide +kernel))) (by decide +kernel)
theorem lk_L_185 : xLinkV RL 185 yX6_write := ⟨xT_in (in_tbl (List.mem_of_getElem? (i := 856) (by decide +kernel))) (by decide +kernel), im_X6_write, sl_X6_write, ini_RollTown⟩
theorem cd_X6_write : Cond.code yX6_write cX6_write 4 (some .int) ∈ xT := xT_in (in_tbl (List.mem_of_getElem? (i := 859) (by decide +kernel))) (by decide +kernel)
theorem xd_X6_write : xD yX6_write 3 := by decide +kernel
theorem im_X7_write : Cond.instanceMethod yX7_write ∈ xT := xT_in (in_tbl (List.mem_of_getElem? (i := 1427) (by decide +kernel))) (by decide +kernel)
theorem sl_X7_write : Cond.selects RX7 yX7_write yX7_write ∈ xT := xT_in (in_tbl (List.mem_of_getElem? (i := 1428) (by decide +kernel))) (by decide +kernel)
theorem lk_L_188 : xLinkV RL 188 yX7_write := ⟨xT_in (in_tbl (List.mem_of_getElem? (i := 1426) (by decide +kernel))) (by decide +kernel), im_X7_write, sl_X7_write, ini_RollTownModel⟩
theorem cd_X7_write : Cond.code yX7_write cX7_write 5 (some .int) ∈ xT := xT_in (in_tbl (List.mem_of_getElem? (i := 1429) (by decide +kernel))) (by decide +kernel)
theorem xd_X7_write : xD yX7_write 3 := by decide +kernel
theorem im_X6_copy : Cond.instanceMethod yX6_copy ∈ xT := xT_in (in_tbl (List.mem_of_getElem? (i := 869) (by decide +kernel))) (by decide +kernel)
theorem sl_X6_copy : Cond.selects RX6 yX6_copy yX6_copy ∈ xT := xT_in (in_tbl (List.mem_of_getElem? (i := 870) (by decide +kernel))) (by decide +kernel)
theorem lk_L_189 : xLinkV RL 189 yX6_copy := ⟨xT_in (in_tbl (List.mem_of_getElem? (i := 868) (by decide +kernel))) (by decide +kernel), im_X6_copy, sl_X6_copy, ini_RollTown⟩
theorem cd_X6_copy : Cond.code yX6_copy cX6_copy 6 (some .int) ∈ xT := xT_in (in_tbl (List.mem_of_getElem? (i := 871) (by decide +kernel))) (by decide +kernel)
theorem xd_X6_copy : xD yX6_copy 5 := by decide +kernel
theorem im_X7_copy : Cond.instanceMethod yX7_copy ∈ xT := xT_in (in_tbl (List.mem_of_getElem? (i := 1438) (by decide +kernel))) (by decide +kernel)
theorem sl_X7_copy : Cond.selects RX7 yX7_copy yX7_copy ∈ xT := xT_in (in_tbl (List.mem_of_getElem? (i := 1439) (by decide +kernel))) (by decide +kernel)
theorem lk_L_193 : xLinkV RL 193 yX7_copy := ⟨xT_in (in_tbl (List.mem_of_getElem? (i := 1437) (by decide +kernel))) (by decide +kernel), im_X7_copy, sl_X7_copy, ini_RollTownModel⟩
theorem cd_X7_copy : Cond.code yX7_copy cX7_copy 7 (some .int) ∈ xT := xT_in (in_tbl (List.mem_of_getElem? (i := 1440) (by decide +kernel))) (by decide +kernel)
theorem xd_X7_copy : xD yX7_copy 5 := by decide +kernel
theorem im_X6_load : Cond.instanceMethod yX6_load ∈ xT := xT_in (in_tbl (List.mem_of_getElem? (i := 878) (by decide +kernel))) (by decide +kernel)
theorem sl_X6_load : Cond.selects RX6 yX6_load yX6_load ∈ xT := xT_in (in_tbl (List.mem_of_getElem? (i := 879) (by decide +kernel))) (by decide +kernel)
theorem lk_L_194 : xLinkV RL 194 yX6_load := ⟨xT_in (in_tbl (List.mem_of_getElem? (i := 877) (by decide +kernel))) (by decide +kernel), im_X6_load, sl_X6_load, ini_RollTown⟩
theorem cd_X6_load : Cond.code yX6_load cX6_load 5 (some .int) ∈ xT := xT_in (in_tbl (List.mem_of_getElem? (i := 880) (by decide +kernel))) (by decide +kernel)
theorem xd_X6_load : xD yX6_load 2 := by decide +kernel
theorem im_X7_load : Cond.instanceMethod yX7_load ∈ xT := xT_in (in_tbl (List.mem_of_getElem? (i := 1442) (by decide +kernel))) (by decide +kernel)
theorem sl_X7_load : Cond.selects RX7 yX7_load yX7_load ∈ xT := xT_in (in_tbl (List.mem_of_getElem? (i := 1443) (by decide +kernel))) (by decide +kernel)
theorem lk_L_197 : xLinkV RL 197 yX7_load := ⟨xT_in (in_tbl (List.mem_of_getElem? (i := 1441) (by decide +kernel))) (by decide +kernel), im_X7_load, sl_X7_load, ini_RollTownModel⟩
theorem cd_X7_load : Cond.code yX7_load cX7_load 5 (some .int) ∈ xT := xT_in (in_tbl (List.mem_of_getElem? (i := 1444) (by decide +kernel))) (by decide +kernel)
theorem xd_X7_load : xD yX7_load 2 := by decide +kernel
theorem im_X6_judge : Cond.instanceMethod yX6_judge ∈ xT := xT_in (in_tbl (List.mem_of_getElem? (i := 883) (by decide +kernel))) (by decide +kernel)
theorem sl_X6_judge : Cond.selects RX6 yX6_judge yX6_judge ∈ xT := xT_in (in_tbl (List.mem_of_getElem? (i := 884) (by decide +kernel))) (by decide +kernel)
theorem lk_L_198 : xLinkV RL 198 yX6_judge := ⟨xT_in (in_tbl (List.mem_of_getElem? (i := 882) (by decide +kernel))) (by decide +kernel), im_X6_judge, sl_X6_judge, ini_RollTown⟩
theorem cd_X6_judge : Cond.code yX6_judge cX6_judge 4 (some .int) ∈ xT := xT_in (in_tbl (List.mem_of_getElem? (i := 885) (by decide +kernel))) (by decide +kernel)
theorem xd_X6_judge : xD yX6_judge 2 := by decide +kernel
theorem im_X7_judge : Cond.instanceMethod yX7_judge ∈ xT := xT_in (in_tbl (List.mem_of_getElem? (i := 1446) (by decide +kernel))) (by decide +kernel)
theorem sl_X7_judge : Cond.selects RX7 yX7_judge yX7_judge ∈ xT := xT_in (in_tbl (List.mem_of_getElem? (i := 1447) (by decide +kernel))) (by decide +kernel)
theorem lk_L_201 : xLinkV RL 201 yX7_judge := ⟨xT_in (in_tbl (List.mem_of_getElem? (i := 1445) (by decide +kernel))) (by decide +kernel), im_X7_judge, sl_X7_judge, ini_RollTownModel⟩
theorem cd_X7_judge : Cond.code yX7_judge cX7_judge 6 (some .int) ∈ xT := xT_in (in_tbl (List.mem_of_getElem? (i := 1448) (by decide +kernel))) (by decide +kernel)
theorem xd_X7_judge : xD yX7_judge 2 := by decide +kernel
theorem im_X6_image : Cond.instanceMethod yX6_image ∈ xT := xT_in (in_tbl (List.mem_of_getElem? (i := 887) (by decide +kernel))) (by decide +kernel)
theorem sl_X6_image : Cond.selects RX6 yX6_image yX6_image ∈ xT := xT_in (in_tbl (List.mem_of_getElem? (i := 888) (by decide +kernel))) (by decide +kernel)
theorem lk_L_202 : xLinkV RL 202 yX6_image := ⟨xT_in (in_tbl (List.mem_of_getElem? (i := 886) (by decide +kernel))) (by decide +kernel), im_X6_image, sl_X6_image, ini_RollTown⟩
theorem cd_X6_image : Cond.code yX6_image cX6_image 1 (some .int) ∈ xT := xT_in (in_tbl (List.mem_of_getElem? (i := 889) (by decide +kernel))) (by decide +kernel)
theorem xd_X6_image : xD yX6_image 0 := by decide +kernel
theorem im_X7_image : Cond.instanceMethod yX7_image ∈ xT := xT_in (in_tbl (List.mem_of_getElem? (i := 1450) (by decide +kernel))) (by decide +kernel)
theorem sl_X7_image : Cond.selects RX7 yX7_image yX7_image ∈ xT := xT_in (in_tbl (List.mem_of_getElem? (i := 1451) (by decide +kernel))) (by decide +kernel)
theorem lk_L_205 : xLinkV RL 205 yX7_image := ⟨xT_in (in_tbl (List.mem_of_getElem? (i := 1449) (by decide +kernel))) (by decide +kernel), im_X7_image, sl_X7_image, ini_RollTownModel⟩
theorem cd_X7_image : Cond.code yX7_image cX7_image 2 (some .int) ∈ xT := xT_in (in_tbl (List.mem_of_getElem? (i := 1452) (by decide +kernel))) (by decide +kernel)
theorem xd_X7_image : xD yX7_image 0 := by decide +kernel
theorem im_X6_undo : Cond.instanceMethod yX6_undo ∈ xT := xT_in (in_tbl (List.mem_of_getElem? (i := 891) (by decide +kernel))) (by decide +kernel)
theorem sl_X6_undo : Cond.selects RX6 yX6_undo yX6_undo ∈ xT := xT_in (in_tbl (List.mem_of_getElem? (i := 892) (by decide +kernel))) (by decide +kernel)
theorem lk_L_206 : xLinkV RL 206 yX6_undo := ⟨xT_in (in_tbl (List.mem_of_getElem? (i := 890) (by decide +kernel))) (by decide +kernel), im_X6_undo, sl_X6_undo, ini_RollTown⟩
theorem cd_X6_undo : Cond.code yX6_undo cX6_undo 1 (some .int) ∈ xT := xT_in (in_tbl (List.mem_of_getElem? (i := 893) (by decide +kernel))) (by decide +kernel)
theorem xd_X6_undo : xD yX6_undo 0 := by decide +kernel
theorem im_X7_undo : Cond.instanceMethod yX7_undo ∈ xT := xT_in (in_tbl (List.mem_of_getElem? (i := 1454) (by decide +kernel))) (by decide +kernel)
theorem sl_X7_undo : Cond.selects RX7 yX7_undo yX7_undo ∈ xT := xT_in (in_tbl (List.mem_of_getElem? (i := 1455) (by decide +kernel))) (by decide +kernel)
theorem lk_L_209 : xLinkV RL 209 yX7_undo := ⟨xT_in (in_tbl (List.mem_of_getElem? (i := 1453) (by decide +kernel))) (by decide +kernel), im_X7_undo, sl_X7_undo, ini_RollTownModel⟩
theorem cd_X7_undo : Cond.code yX7_undo cX7_undo 2 (some .int) ∈ xT := xT_in (in_tbl (List.mem_of_getElem? (i := 1456) (by decide +kernel))) (by decide +kernel)
theorem xd_X7_undo : xD yX7_undo 0 := by decide +kernel
theorem im_X6_tear : Cond.instanceMethod yX6_tear ∈ xT := xT_in (in_tbl (List.mem_of_getElem? (i := 895) (by decide +kernel))) (by decide +kernel)
theorem sl_X6_tear : Cond.selects RX6 yX6_tear yX6_tear ∈ xT := xT_in (in_tbl (List.mem_of_getElem? (i := 896) (by decide +kernel))) (by decide +kernel)
theorem lk_L_210 : xLinkV RL 210 yX6_tear := ⟨xT_in (in_tbl (List.mem_of_getElem? (i := 894) (by decide +kernel))) (by decide +kernel), im_X6_tear, sl_X6_tear, ini_RollTown⟩
theorem cd_X6_tear : Cond.code yX6_tear cX6_tear 2 (some .int) ∈ xT := xT_in (in_tbl (List.mem_of_getElem? (i := 897) (by decide +kernel))) (by decide +kernel)
theorem xd_X6_tear : xD yX6_tear 0 := by decide +kernel
theorem im_X7_tear : Cond.instanceMethod yX7_tear ∈ xT := xT_in (in_tbl (List.mem_of_getElem? (i := 1458) (by decide +kernel))) (by decide +kernel)
theorem sl_X7_tear : Cond.selects RX7 yX7_tear yX7_tear ∈ xT := xT_in (in_tbl (List.mem_of_getElem? (i := 1459) (by decide +kernel))) (by decide +kernel)
theorem lk_L_213 : xLinkV RL 213 yX7_tear := ⟨xT_in (in_tbl (List.mem_of_getElem? (i := 1457) (by decide +kernel))) (by decide +kernel), im_X7_tear, sl_X7_tear, ini_RollTownModel⟩
theorem cd_X7_tear : Cond.code yX7_tear cX7_tear 2 (some .int) ∈ xT := xT_in (in_tbl (List.mem_of_getElem? (i := 1460) (by decide +kernel))) (by decide +kernel)
theorem xd_X7_tear : xD yX7_tear 0 := by decide +kernel
theorem im_X6_count : Cond.instanceMethod yX6_count ∈ xT := xT_in (in_tbl (List.mem_of_getElem? (i := 899) (by decide +kernel))) (by decide +kernel)
theorem sl_X6_count : Cond.selects RX6 yX6_count yX6_count ∈ xT := xT_in (in_tbl (List.mem_of_getElem? (i := 900) (by decide +kernel))) (by decide +kernel)
theorem lk_L_214 : xLinkV RL 214 yX6_count := ⟨xT_in (in_tbl (List.mem_of_getElem? (i := 898) (by decide +kernel))) (by decide +kernel), im_X6_count, sl_X6_count, ini_RollTown⟩
theorem cd_X6_count : Cond.code yX6_count cX6_count 2 (some .int) ∈ xT := xT_in (in_tbl (List.mem_of_getElem? (i := 901) (by decide +kernel))) (by decide +kernel)
theorem xd_X6_count : xD yX6_count 1 := by decide +kernel
theorem im_X7_count : Cond.instanceMethod yX7_count ∈ xT := xT_in (in_tbl (List.mem_of_getElem? (i := 1462) (by decide +kernel))) (by decide +kernel)
theorem sl_X7_count : Cond.selects RX7 yX7_count yX7_count ∈ xT := xT_in (in_tbl (List.mem_of_getElem? (i := 1463) (by decide +kernel))) (by decide +kernel)
theorem lk_L_217 : xLinkV RL 217 yX7_count := ⟨xT_in (in_tbl (List.mem_of_getElem? (i := 1461) (by decide +kernel))) (by decide +kernel), im_X7_count, sl_X7_count, ini_RollTownModel⟩
theorem cd_X7_count : Cond.code yX7_count cX7_count 2 (some .int) ∈ xT := xT_in (in_tbl (List.mem_of_getElem? (i := 1464) (by decide +kernel))) (by decide +kernel)
theorem xd_X7_count : xD yX7_count 1 := by decide +kernel
theorem im_X6_status : Cond.instanceMethod yX6_status ∈ xT := xT_in (in_tbl (List.mem_of_getElem? (i := 915) (by decide +kernel))) (by decide +kernel)
theorem sl_X6_status : Cond.selects RX6 yX6_status yX6_status ∈ xT := xT_in (in_tbl (List.mem_of_getElem? (i := 916) (by decide +kernel))) (by decide +kernel)
theorem lk_L_218 : xLinkV RL 218 yX6_status := ⟨xT_in (in_tbl (List.mem_of_getElem? (i := 914) (by decide +kernel))) (by decide +kernel), im_X6_status, sl_X6_status, ini_RollTown⟩
theorem cd_X6_status : Cond.code yX6_status cX6_status 4 (some .int) ∈ xT := xT_in (in_tbl (List.mem_of_getElem? (i := 917) (by decide +kernel))) (by decide +kernel)
theorem xd_X6_status : xD yX6_status 1 := by decide +kernel
theorem im_X7_status : Cond.instanceMethod yX7_status ∈ xT := xT_in (in_tbl (List.mem_of_getElem? (i := 1474) (by decide +kernel))) (by decide +kernel)
theorem sl_X7_status : Cond.selects RX7 yX7_status yX7_status ∈ xT := xT_in (in_tbl (List.mem_of_getElem? (i := 1475) (by decide +kernel))) (by decide +kernel)
theorem lk_L_221 : xLinkV RL 221 yX7_status := ⟨xT_in (in_tbl (List.mem_of_getElem? (i := 1473) (by decide +kernel))) (by decide +kernel), im_X7_status, sl_X7_status, ini_RollTownModel⟩
theorem cd_X7_status : Cond.code yX7_status cX7_status 4 (some .int) ∈ xT := xT_in (in_tbl (List.mem_of_getElem? (i := 1476) (by decide +kernel))) (by decide +kernel)
theorem xd_X7_status : xD yX7_status 1 := by decide +kernel
