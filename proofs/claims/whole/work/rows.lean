section
-- ===== PART A: goes FIRST, ahead of the names: the tables' words, and 'selects' of the private methods out of them =====
/-- a private method of a class that the tables say can be made, by its rows of tables_1 -/
def lw_okq (q : MethodName × Nat) : Prop := (q.1.cls ≠ "java/lang/invoke/MethodHandle" ∧ q.1.cls ≠ "java/lang/invoke/VarHandle") ∧ Cond.instantiable q.1.cls q.2 ∈ tables_1 ∧ Cond.privateMethod q.1 ∈ tables_1 ∧ Cond.instanceMethod q.1 ∈ tables_1
theorem lw_p0 : lw_okq (⟨"RollTown", "refuse", "(I)I"⟩, 11) := ⟨⟨by decide +kernel, by decide +kernel⟩, List.mem_of_getElem? (i := 17) (by decide +kernel), List.mem_of_getElem? (i := 273) (by decide +kernel), List.mem_of_getElem? (i := 274) (by decide +kernel)⟩
theorem lw_p1 : lw_okq (⟨"RollTown", "isThing", "(I)Z"⟩, 11) := ⟨⟨by decide +kernel, by decide +kernel⟩, List.mem_of_getElem? (i := 17) (by decide +kernel), List.mem_of_getElem? (i := 324) (by decide +kernel), List.mem_of_getElem? (i := 325) (by decide +kernel)⟩
theorem lw_p2 : lw_okq (⟨"RollTown$Town", "stepOn", "(LRollTown$Thing;Z)V"⟩, 9) := ⟨⟨by decide +kernel, by decide +kernel⟩, List.mem_of_getElem? (i := 25) (by decide +kernel), List.mem_of_getElem? (i := 418) (by decide +kernel), List.mem_of_getElem? (i := 419) (by decide +kernel)⟩
theorem lw_p3 : lw_okq (⟨"RollTown$Town", "stopThoseThatMeet", "(I)I"⟩, 9) := ⟨⟨by decide +kernel, by decide +kernel⟩, List.mem_of_getElem? (i := 25) (by decide +kernel), List.mem_of_getElem? (i := 424) (by decide +kernel), List.mem_of_getElem? (i := 425) (by decide +kernel)⟩
theorem lw_p4 : lw_okq (⟨"RollTown$Town", "stopWithDamage", "(I)V"⟩, 9) := ⟨⟨by decide +kernel, by decide +kernel⟩, List.mem_of_getElem? (i := 25) (by decide +kernel), List.mem_of_getElem? (i := 437) (by decide +kernel), List.mem_of_getElem? (i := 438) (by decide +kernel)⟩
theorem lw_p5 : lw_okq (⟨"RollTown", "againstRoll", "(I)I"⟩, 11) := ⟨⟨by decide +kernel, by decide +kernel⟩, List.mem_of_getElem? (i := 17) (by decide +kernel), List.mem_of_getElem? (i := 486) (by decide +kernel), List.mem_of_getElem? (i := 487) (by decide +kernel)⟩
theorem lw_p6 : lw_okq (⟨"RollTown", "isTooLateToRoll", "()Z"⟩, 11) := ⟨⟨by decide +kernel, by decide +kernel⟩, List.mem_of_getElem? (i := 17) (by decide +kernel), List.mem_of_getElem? (i := 491) (by decide +kernel), List.mem_of_getElem? (i := 492) (by decide +kernel)⟩
theorem lw_p7 : lw_okq (⟨"RollTown", "rollWithGround", "(III)V"⟩, 11) := ⟨⟨by decide +kernel, by decide +kernel⟩, List.mem_of_getElem? (i := 17) (by decide +kernel), List.mem_of_getElem? (i := 531) (by decide +kernel), List.mem_of_getElem? (i := 532) (by decide +kernel)⟩
theorem lw_p8 : lw_okq (⟨"RollTown", "isTooLateToWait", "()Z"⟩, 11) := ⟨⟨by decide +kernel, by decide +kernel⟩, List.mem_of_getElem? (i := 17) (by decide +kernel), List.mem_of_getElem? (i := 555) (by decide +kernel), List.mem_of_getElem? (i := 556) (by decide +kernel)⟩
theorem lw_p9 : lw_okq (⟨"RollTown", "isSetOfThings", "(I)Z"⟩, 11) := ⟨⟨by decide +kernel, by decide +kernel⟩, List.mem_of_getElem? (i := 17) (by decide +kernel), List.mem_of_getElem? (i := 580) (by decide +kernel), List.mem_of_getElem? (i := 581) (by decide +kernel)⟩
theorem lw_p10 : lw_okq (⟨"RollTown$Packing", "weighAllSets", "(LRollTown$Town;)V"⟩, 1) := ⟨⟨by decide +kernel, by decide +kernel⟩, List.mem_of_getElem? (i := 154) (by decide +kernel), List.mem_of_getElem? (i := 588) (by decide +kernel), List.mem_of_getElem? (i := 589) (by decide +kernel)⟩
theorem lw_p11 : lw_okq (⟨"RollTown$Packing", "fewestFor", "(LRollTown$Town;II)I"⟩, 1) := ⟨⟨by decide +kernel, by decide +kernel⟩, List.mem_of_getElem? (i := 154) (by decide +kernel), List.mem_of_getElem? (i := 616) (by decide +kernel), List.mem_of_getElem? (i := 617) (by decide +kernel)⟩
theorem lw_p12 : lw_okq (⟨"RollTown", "lineUpByNumber", "()I"⟩, 11) := ⟨⟨by decide +kernel, by decide +kernel⟩, List.mem_of_getElem? (i := 17) (by decide +kernel), List.mem_of_getElem? (i := 627) (by decide +kernel), List.mem_of_getElem? (i := 628) (by decide +kernel)⟩
theorem lw_p13 : lw_okq (⟨"RollTown", "waitsOfQueue", "(I)I"⟩, 11) := ⟨⟨by decide +kernel, by decide +kernel⟩, List.mem_of_getElem? (i := 17) (by decide +kernel), List.mem_of_getElem? (i := 631) (by decide +kernel), List.mem_of_getElem? (i := 632) (by decide +kernel)⟩
theorem lw_p14 : lw_okq (⟨"RollTown", "lineUpByWeight", "()I"⟩, 11) := ⟨⟨by decide +kernel, by decide +kernel⟩, List.mem_of_getElem? (i := 17) (by decide +kernel), List.mem_of_getElem? (i := 643) (by decide +kernel), List.mem_of_getElem? (i := 644) (by decide +kernel)⟩
theorem lw_p15 : lw_okq (⟨"RollTown$Reader", "splitTape", "()V"⟩, 11) := ⟨⟨by decide +kernel, by decide +kernel⟩, List.mem_of_getElem? (i := 164) (by decide +kernel), List.mem_of_getElem? (i := 693) (by decide +kernel), List.mem_of_getElem? (i := 694) (by decide +kernel)⟩
def lw_privs_1 : List (MethodName × Nat) := [(⟨"RollTown", "refuse", "(I)I"⟩, 11), (⟨"RollTown", "isThing", "(I)Z"⟩, 11), (⟨"RollTown$Town", "stepOn", "(LRollTown$Thing;Z)V"⟩, 9), (⟨"RollTown$Town", "stopThoseThatMeet", "(I)I"⟩, 9), (⟨"RollTown$Town", "stopWithDamage", "(I)V"⟩, 9), (⟨"RollTown", "againstRoll", "(I)I"⟩, 11), (⟨"RollTown", "isTooLateToRoll", "()Z"⟩, 11), (⟨"RollTown", "rollWithGround", "(III)V"⟩, 11), (⟨"RollTown", "isTooLateToWait", "()Z"⟩, 11), (⟨"RollTown", "isSetOfThings", "(I)Z"⟩, 11), (⟨"RollTown$Packing", "weighAllSets", "(LRollTown$Town;)V"⟩, 1), (⟨"RollTown$Packing", "fewestFor", "(LRollTown$Town;II)I"⟩, 1), (⟨"RollTown", "lineUpByNumber", "()I"⟩, 11), (⟨"RollTown", "waitsOfQueue", "(I)I"⟩, 11), (⟨"RollTown", "lineUpByWeight", "()I"⟩, 11), (⟨"RollTown$Reader", "splitTape", "()V"⟩, 11)]
theorem lw_r1 : ∀ q ∈ lw_privs_1, lw_okq q := List.forall_mem_cons.mpr ⟨lw_p0, List.forall_mem_cons.mpr ⟨lw_p1, List.forall_mem_cons.mpr ⟨lw_p2, List.forall_mem_cons.mpr ⟨lw_p3, List.forall_mem_cons.mpr ⟨lw_p4, List.forall_mem_cons.mpr ⟨lw_p5, List.forall_mem_cons.mpr ⟨lw_p6, List.forall_mem_cons.mpr ⟨lw_p7, List.forall_mem_cons.mpr ⟨lw_p8, List.forall_mem_cons.mpr ⟨lw_p9, List.forall_mem_cons.mpr ⟨lw_p10, List.forall_mem_cons.mpr ⟨lw_p11, List.forall_mem_cons.mpr ⟨lw_p12, List.forall_mem_cons.mpr ⟨lw_p13, List.forall_mem_cons.mpr ⟨lw_p14, List.forall_mem_cons.mpr ⟨lw_p15, fun _ h => absurd h List.not_mem_nil⟩⟩⟩⟩⟩⟩⟩⟩⟩⟩⟩⟩⟩⟩⟩⟩
theorem lw_p16 : lw_okq (⟨"RollTown$Reader", "beginToken", "(II)V"⟩, 11) := ⟨⟨by decide +kernel, by decide +kernel⟩, List.mem_of_getElem? (i := 164) (by decide +kernel), List.mem_of_getElem? (i := 701) (by decide +kernel), List.mem_of_getElem? (i := 702) (by decide +kernel)⟩
theorem lw_p17 : lw_okq (⟨"RollTown$Reader", "growToken", "(II)V"⟩, 11) := ⟨⟨by decide +kernel, by decide +kernel⟩, List.mem_of_getElem? (i := 164) (by decide +kernel), List.mem_of_getElem? (i := 705) (by decide +kernel), List.mem_of_getElem? (i := 706) (by decide +kernel)⟩
theorem lw_p18 : lw_okq (⟨"RollTown$Reader", "readItem", "(LRollTown$Town;)Z"⟩, 11) := ⟨⟨by decide +kernel, by decide +kernel⟩, List.mem_of_getElem? (i := 164) (by decide +kernel), List.mem_of_getElem? (i := 710) (by decide +kernel), List.mem_of_getElem? (i := 711) (by decide +kernel)⟩
theorem lw_p19 : lw_okq (⟨"RollTown$Reader", "takeWord", "(Ljava/lang/String;)Z"⟩, 11) := ⟨⟨by decide +kernel, by decide +kernel⟩, List.mem_of_getElem? (i := 164) (by decide +kernel), List.mem_of_getElem? (i := 722) (by decide +kernel), List.mem_of_getElem? (i := 723) (by decide +kernel)⟩
theorem lw_p20 : lw_okq (⟨"RollTown$Reader", "isWord", "(Ljava/lang/String;)Z"⟩, 11) := ⟨⟨by decide +kernel, by decide +kernel⟩, List.mem_of_getElem? (i := 164) (by decide +kernel), List.mem_of_getElem? (i := 726) (by decide +kernel), List.mem_of_getElem? (i := 727) (by decide +kernel)⟩
theorem lw_p21 : lw_okq (⟨"RollTown$Reader", "goOn", "()V"⟩, 11) := ⟨⟨by decide +kernel, by decide +kernel⟩, List.mem_of_getElem? (i := 164) (by decide +kernel), List.mem_of_getElem? (i := 778) (by decide +kernel), List.mem_of_getElem? (i := 779) (by decide +kernel)⟩
theorem lw_p22 : lw_okq (⟨"RollTown$Reader", "readGround", "(LRollTown$Town;I)Z"⟩, 11) := ⟨⟨by decide +kernel, by decide +kernel⟩, List.mem_of_getElem? (i := 164) (by decide +kernel), List.mem_of_getElem? (i := 782) (by decide +kernel), List.mem_of_getElem? (i := 783) (by decide +kernel)⟩
theorem lw_p23 : lw_okq (⟨"RollTown$Reader", "takeCells", "()Z"⟩, 11) := ⟨⟨by decide +kernel, by decide +kernel⟩, List.mem_of_getElem? (i := 164) (by decide +kernel), List.mem_of_getElem? (i := 786) (by decide +kernel), List.mem_of_getElem? (i := 787) (by decide +kernel)⟩
theorem lw_p24 : lw_okq (⟨"RollTown$Reader", "takeNumber", "(II)Z"⟩, 11) := ⟨⟨by decide +kernel, by decide +kernel⟩, List.mem_of_getElem? (i := 164) (by decide +kernel), List.mem_of_getElem? (i := 790) (by decide +kernel), List.mem_of_getElem? (i := 791) (by decide +kernel)⟩
theorem lw_p25 : lw_okq (⟨"RollTown$Reader", "readThing", "(LRollTown$Town;I)Z"⟩, 11) := ⟨⟨by decide +kernel, by decide +kernel⟩, List.mem_of_getElem? (i := 164) (by decide +kernel), List.mem_of_getElem? (i := 806) (by decide +kernel), List.mem_of_getElem? (i := 807) (by decide +kernel)⟩
theorem lw_p26 : lw_okq (⟨"RollTown$Reader", "readFall", "(LRollTown$Town;)Z"⟩, 11) := ⟨⟨by decide +kernel, by decide +kernel⟩, List.mem_of_getElem? (i := 164) (by decide +kernel), List.mem_of_getElem? (i := 815) (by decide +kernel), List.mem_of_getElem? (i := 816) (by decide +kernel)⟩
theorem lw_p27 : lw_okq (⟨"RollTown$Reader", "takeSign", "(C)Z"⟩, 11) := ⟨⟨by decide +kernel, by decide +kernel⟩, List.mem_of_getElem? (i := 164) (by decide +kernel), List.mem_of_getElem? (i := 820) (by decide +kernel), List.mem_of_getElem? (i := 821) (by decide +kernel)⟩
theorem lw_p28 : lw_okq (⟨"RollTown$Reader", "readShut", "(LRollTown$Town;)Z"⟩, 11) := ⟨⟨by decide +kernel, by decide +kernel⟩, List.mem_of_getElem? (i := 164) (by decide +kernel), List.mem_of_getElem? (i := 825) (by decide +kernel), List.mem_of_getElem? (i := 826) (by decide +kernel)⟩
theorem lw_p29 : lw_okq (⟨"RollTownModel", "finds", "(I)I"⟩, 27) := ⟨⟨by decide +kernel, by decide +kernel⟩, List.mem_of_getElem? (i := 920) (by decide +kernel), List.mem_of_getElem? (i := 1022) (by decide +kernel), List.mem_of_getElem? (i := 1023) (by decide +kernel)⟩
theorem lw_p30 : lw_okq (⟨"RollTownModel", "isShut", "(I)Z"⟩, 27) := ⟨⟨by decide +kernel, by decide +kernel⟩, List.mem_of_getElem? (i := 920) (by decide +kernel), List.mem_of_getElem? (i := 1041) (by decide +kernel), List.mem_of_getElem? (i := 1042) (by decide +kernel)⟩
theorem lw_p31 : lw_okq (⟨"RollTownModel", "newThing", "(IIII)I"⟩, 27) := ⟨⟨by decide +kernel, by decide +kernel⟩, List.mem_of_getElem? (i := 920) (by decide +kernel), List.mem_of_getElem? (i := 1055) (by decide +kernel), List.mem_of_getElem? (i := 1056) (by decide +kernel)⟩
def lw_privs_2 : List (MethodName × Nat) := [(⟨"RollTown$Reader", "beginToken", "(II)V"⟩, 11), (⟨"RollTown$Reader", "growToken", "(II)V"⟩, 11), (⟨"RollTown$Reader", "readItem", "(LRollTown$Town;)Z"⟩, 11), (⟨"RollTown$Reader", "takeWord", "(Ljava/lang/String;)Z"⟩, 11), (⟨"RollTown$Reader", "isWord", "(Ljava/lang/String;)Z"⟩, 11), (⟨"RollTown$Reader", "goOn", "()V"⟩, 11), (⟨"RollTown$Reader", "readGround", "(LRollTown$Town;I)Z"⟩, 11), (⟨"RollTown$Reader", "takeCells", "()Z"⟩, 11), (⟨"RollTown$Reader", "takeNumber", "(II)Z"⟩, 11), (⟨"RollTown$Reader", "readThing", "(LRollTown$Town;I)Z"⟩, 11), (⟨"RollTown$Reader", "readFall", "(LRollTown$Town;)Z"⟩, 11), (⟨"RollTown$Reader", "takeSign", "(C)Z"⟩, 11), (⟨"RollTown$Reader", "readShut", "(LRollTown$Town;)Z"⟩, 11), (⟨"RollTownModel", "finds", "(I)I"⟩, 27), (⟨"RollTownModel", "isShut", "(I)Z"⟩, 27), (⟨"RollTownModel", "newThing", "(IIII)I"⟩, 27)]
theorem lw_r2 : ∀ q ∈ lw_privs_2, lw_okq q := List.forall_mem_cons.mpr ⟨lw_p16, List.forall_mem_cons.mpr ⟨lw_p17, List.forall_mem_cons.mpr ⟨lw_p18, List.forall_mem_cons.mpr ⟨lw_p19, List.forall_mem_cons.mpr ⟨lw_p20, List.forall_mem_cons.mpr ⟨lw_p21, List.forall_mem_cons.mpr ⟨lw_p22, List.forall_mem_cons.mpr ⟨lw_p23, List.forall_mem_cons.mpr ⟨lw_p24, List.forall_mem_cons.mpr ⟨lw_p25, List.forall_mem_cons.mpr ⟨lw_p26, List.forall_mem_cons.mpr ⟨lw_p27, List.forall_mem_cons.mpr ⟨lw_p28, List.forall_mem_cons.mpr ⟨lw_p29, List.forall_mem_cons.mpr ⟨lw_p30, List.forall_mem_cons.mpr ⟨lw_p31, fun _ h => absurd h List.not_mem_nil⟩⟩⟩⟩⟩⟩⟩⟩⟩⟩⟩⟩⟩⟩⟩⟩
theorem lw_p32 : lw_okq (⟨"RollTownModel", "isThing", "(I)Z"⟩, 27) := ⟨⟨by decide +kernel, by decide +kernel⟩, List.mem_of_getElem? (i := 920) (by decide +kernel), List.mem_of_getElem? (i := 1066) (by decide +kernel), List.mem_of_getElem? (i := 1067) (by decide +kernel)⟩
theorem lw_p33 : lw_okq (⟨"RollTownModel", "its", "(II)I"⟩, 27) := ⟨⟨by decide +kernel, by decide +kernel⟩, List.mem_of_getElem? (i := 920) (by decide +kernel), List.mem_of_getElem? (i := 1071) (by decide +kernel), List.mem_of_getElem? (i := 1072) (by decide +kernel)⟩
theorem lw_p34 : lw_okq (⟨"RollTownModel", "top", "(I)I"⟩, 27) := ⟨⟨by decide +kernel, by decide +kernel⟩, List.mem_of_getElem? (i := 920) (by decide +kernel), List.mem_of_getElem? (i := 1075) (by decide +kernel), List.mem_of_getElem? (i := 1076) (by decide +kernel)⟩
theorem lw_p35 : lw_okq (⟨"RollTownModel", "gain", "(II)I"⟩, 27) := ⟨⟨by decide +kernel, by decide +kernel⟩, List.mem_of_getElem? (i := 920) (by decide +kernel), List.mem_of_getElem? (i := 1087) (by decide +kernel), List.mem_of_getElem? (i := 1088) (by decide +kernel)⟩
theorem lw_p36 : lw_okq (⟨"RollTownModel", "drag", "(II)I"⟩, 27) := ⟨⟨by decide +kernel, by decide +kernel⟩, List.mem_of_getElem? (i := 920) (by decide +kernel), List.mem_of_getElem? (i := 1091) (by decide +kernel), List.mem_of_getElem? (i := 1092) (by decide +kernel)⟩
theorem lw_p37 : lw_okq (⟨"RollTownModel", "isReady", "(I)Z"⟩, 27) := ⟨⟨by decide +kernel, by decide +kernel⟩, List.mem_of_getElem? (i := 920) (by decide +kernel), List.mem_of_getElem? (i := 1099) (by decide +kernel), List.mem_of_getElem? (i := 1100) (by decide +kernel)⟩
theorem lw_p38 : lw_okq (⟨"RollTownModel", "letsGo", "(II)V"⟩, 27) := ⟨⟨by decide +kernel, by decide +kernel⟩, List.mem_of_getElem? (i := 920) (by decide +kernel), List.mem_of_getElem? (i := 1104) (by decide +kernel), List.mem_of_getElem? (i := 1105) (by decide +kernel)⟩
theorem lw_p39 : lw_okq (⟨"RollTownModel", "isTooLate", "(I)Z"⟩, 27) := ⟨⟨by decide +kernel, by decide +kernel⟩, List.mem_of_getElem? (i := 920) (by decide +kernel), List.mem_of_getElem? (i := 1117) (by decide +kernel), List.mem_of_getElem? (i := 1118) (by decide +kernel)⟩
theorem lw_p40 : lw_okq (⟨"RollTownModel", "minute", "()V"⟩, 27) := ⟨⟨by decide +kernel, by decide +kernel⟩, List.mem_of_getElem? (i := 920) (by decide +kernel), List.mem_of_getElem? (i := 1121) (by decide +kernel), List.mem_of_getElem? (i := 1122) (by decide +kernel)⟩
theorem lw_p41 : lw_okq (⟨"RollTownModel", "rolls", "(II)V"⟩, 27) := ⟨⟨by decide +kernel, by decide +kernel⟩, List.mem_of_getElem? (i := 920) (by decide +kernel), List.mem_of_getElem? (i := 1125) (by decide +kernel), List.mem_of_getElem? (i := 1126) (by decide +kernel)⟩
theorem lw_p42 : lw_okq (⟨"RollTownModel", "meets", "(I)I"⟩, 27) := ⟨⟨by decide +kernel, by decide +kernel⟩, List.mem_of_getElem? (i := 920) (by decide +kernel), List.mem_of_getElem? (i := 1129) (by decide +kernel), List.mem_of_getElem? (i := 1130) (by decide +kernel)⟩
theorem lw_p43 : lw_okq (⟨"RollTownModel", "isOnLane", "(I)Z"⟩, 27) := ⟨⟨by decide +kernel, by decide +kernel⟩, List.mem_of_getElem? (i := 920) (by decide +kernel), List.mem_of_getElem? (i := 1133) (by decide +kernel), List.mem_of_getElem? (i := 1134) (by decide +kernel)⟩
theorem lw_p44 : lw_okq (⟨"RollTownModel", "areIn", "(I)I"⟩, 27) := ⟨⟨by decide +kernel, by decide +kernel⟩, List.mem_of_getElem? (i := 920) (by decide +kernel), List.mem_of_getElem? (i := 1142) (by decide +kernel), List.mem_of_getElem? (i := 1143) (by decide +kernel)⟩
theorem lw_p45 : lw_okq (⟨"RollTownModel", "onCell", "(I)I"⟩, 27) := ⟨⟨by decide +kernel, by decide +kernel⟩, List.mem_of_getElem? (i := 920) (by decide +kernel), List.mem_of_getElem? (i := 1150) (by decide +kernel), List.mem_of_getElem? (i := 1151) (by decide +kernel)⟩
theorem lw_p46 : lw_okq (⟨"RollTownModel", "puts", "()V"⟩, 27) := ⟨⟨by decide +kernel, by decide +kernel⟩, List.mem_of_getElem? (i := 920) (by decide +kernel), List.mem_of_getElem? (i := 1159) (by decide +kernel), List.mem_of_getElem? (i := 1160) (by decide +kernel)⟩
theorem lw_p47 : lw_okq (⟨"RollTownModel", "sumOf", "(I)I"⟩, 27) := ⟨⟨by decide +kernel, by decide +kernel⟩, List.mem_of_getElem? (i := 920) (by decide +kernel), List.mem_of_getElem? (i := 1163) (by decide +kernel), List.mem_of_getElem? (i := 1164) (by decide +kernel)⟩
def lw_privs_3 : List (MethodName × Nat) := [(⟨"RollTownModel", "isThing", "(I)Z"⟩, 27), (⟨"RollTownModel", "its", "(II)I"⟩, 27), (⟨"RollTownModel", "top", "(I)I"⟩, 27), (⟨"RollTownModel", "gain", "(II)I"⟩, 27), (⟨"RollTownModel", "drag", "(II)I"⟩, 27), (⟨"RollTownModel", "isReady", "(I)Z"⟩, 27), (⟨"RollTownModel", "letsGo", "(II)V"⟩, 27), (⟨"RollTownModel", "isTooLate", "(I)Z"⟩, 27), (⟨"RollTownModel", "minute", "()V"⟩, 27), (⟨"RollTownModel", "rolls", "(II)V"⟩, 27), (⟨"RollTownModel", "meets", "(I)I"⟩, 27), (⟨"RollTownModel", "isOnLane", "(I)Z"⟩, 27), (⟨"RollTownModel", "areIn", "(I)I"⟩, 27), (⟨"RollTownModel", "onCell", "(I)I"⟩, 27), (⟨"RollTownModel", "puts", "()V"⟩, 27), (⟨"RollTownModel", "sumOf", "(I)I"⟩, 27)]
theorem lw_r3 : ∀ q ∈ lw_privs_3, lw_okq q := List.forall_mem_cons.mpr ⟨lw_p32, List.forall_mem_cons.mpr ⟨lw_p33, List.forall_mem_cons.mpr ⟨lw_p34, List.forall_mem_cons.mpr ⟨lw_p35, List.forall_mem_cons.mpr ⟨lw_p36, List.forall_mem_cons.mpr ⟨lw_p37, List.forall_mem_cons.mpr ⟨lw_p38, List.forall_mem_cons.mpr ⟨lw_p39, List.forall_mem_cons.mpr ⟨lw_p40, List.forall_mem_cons.mpr ⟨lw_p41, List.forall_mem_cons.mpr ⟨lw_p42, List.forall_mem_cons.mpr ⟨lw_p43, List.forall_mem_cons.mpr ⟨lw_p44, List.forall_mem_cons.mpr ⟨lw_p45, List.forall_mem_cons.mpr ⟨lw_p46, List.forall_mem_cons.mpr ⟨lw_p47, fun _ h => absurd h List.not_mem_nil⟩⟩⟩⟩⟩⟩⟩⟩⟩⟩⟩⟩⟩⟩⟩⟩
theorem lw_p48 : lw_okq (⟨"RollTownModel", "putsBack", "()V"⟩, 27) := ⟨⟨by decide +kernel, by decide +kernel⟩, List.mem_of_getElem? (i := 920) (by decide +kernel), List.mem_of_getElem? (i := 1167) (by decide +kernel), List.mem_of_getElem? (i := 1168) (by decide +kernel)⟩
theorem lw_p49 : lw_okq (⟨"RollTownModel", "rollWrong", "(I)I"⟩, 27) := ⟨⟨by decide +kernel, by decide +kernel⟩, List.mem_of_getElem? (i := 920) (by decide +kernel), List.mem_of_getElem? (i := 1180) (by decide +kernel), List.mem_of_getElem? (i := 1181) (by decide +kernel)⟩
theorem lw_p50 : lw_okq (⟨"RollTownModel", "alone", "(II)V"⟩, 27) := ⟨⟨by decide +kernel, by decide +kernel⟩, List.mem_of_getElem? (i := 920) (by decide +kernel), List.mem_of_getElem? (i := 1184) (by decide +kernel), List.mem_of_getElem? (i := 1185) (by decide +kernel)⟩
theorem lw_p51 : lw_okq (⟨"RollTownModel", "isQuiet", "(I)Z"⟩, 27) := ⟨⟨by decide +kernel, by decide +kernel⟩, List.mem_of_getElem? (i := 920) (by decide +kernel), List.mem_of_getElem? (i := 1220) (by decide +kernel), List.mem_of_getElem? (i := 1221) (by decide +kernel)⟩
theorem lw_p52 : lw_okq (⟨"RollTownModel", "isRolling", "()Z"⟩, 27) := ⟨⟨by decide +kernel, by decide +kernel⟩, List.mem_of_getElem? (i := 920) (by decide +kernel), List.mem_of_getElem? (i := 1228) (by decide +kernel), List.mem_of_getElem? (i := 1229) (by decide +kernel)⟩
theorem lw_p53 : lw_okq (⟨"RollTownModel", "isSet", "(I)Z"⟩, 27) := ⟨⟨by decide +kernel, by decide +kernel⟩, List.mem_of_getElem? (i := 920) (by decide +kernel), List.mem_of_getElem? (i := 1240) (by decide +kernel), List.mem_of_getElem? (i := 1241) (by decide +kernel)⟩
theorem lw_p54 : lw_okq (⟨"RollTownModel", "packed", "(I)I"⟩, 27) := ⟨⟨by decide +kernel, by decide +kernel⟩, List.mem_of_getElem? (i := 920) (by decide +kernel), List.mem_of_getElem? (i := 1244) (by decide +kernel), List.mem_of_getElem? (i := 1245) (by decide +kernel)⟩
theorem lw_p55 : lw_okq (⟨"RollTownModel", "offBy", "(II)I"⟩, 27) := ⟨⟨by decide +kernel, by decide +kernel⟩, List.mem_of_getElem? (i := 920) (by decide +kernel), List.mem_of_getElem? (i := 1248) (by decide +kernel), List.mem_of_getElem? (i := 1249) (by decide +kernel)⟩
theorem lw_p56 : lw_okq (⟨"RollTownModel", "weighs", "(I)I"⟩, 27) := ⟨⟨by decide +kernel, by decide +kernel⟩, List.mem_of_getElem? (i := 920) (by decide +kernel), List.mem_of_getElem? (i := 1252) (by decide +kernel), List.mem_of_getElem? (i := 1253) (by decide +kernel)⟩
theorem lw_p57 : lw_okq (⟨"RollTownModel", "minutesUp", "(I)I"⟩, 27) := ⟨⟨by decide +kernel, by decide +kernel⟩, List.mem_of_getElem? (i := 920) (by decide +kernel), List.mem_of_getElem? (i := 1273) (by decide +kernel), List.mem_of_getElem? (i := 1274) (by decide +kernel)⟩
theorem lw_p58 : lw_okq (⟨"RollTownModel", "findLine", "()V"⟩, 27) := ⟨⟨by decide +kernel, by decide +kernel⟩, List.mem_of_getElem? (i := 920) (by decide +kernel), List.mem_of_getElem? (i := 1281) (by decide +kernel), List.mem_of_getElem? (i := 1282) (by decide +kernel)⟩
theorem lw_p59 : lw_okq (⟨"RollTownModel", "draw", "()I"⟩, 27) := ⟨⟨by decide +kernel, by decide +kernel⟩, List.mem_of_getElem? (i := 920) (by decide +kernel), List.mem_of_getElem? (i := 1298) (by decide +kernel), List.mem_of_getElem? (i := 1299) (by decide +kernel)⟩
theorem lw_p60 : lw_okq (⟨"RollTownModel", "token", "()V"⟩, 27) := ⟨⟨by decide +kernel, by decide +kernel⟩, List.mem_of_getElem? (i := 920) (by decide +kernel), List.mem_of_getElem? (i := 1323) (by decide +kernel), List.mem_of_getElem? (i := 1324) (by decide +kernel)⟩
theorem lw_p61 : lw_okq (⟨"RollTownModel", "byteAt", "(I)I"⟩, 27) := ⟨⟨by decide +kernel, by decide +kernel⟩, List.mem_of_getElem? (i := 920) (by decide +kernel), List.mem_of_getElem? (i := 1327) (by decide +kernel), List.mem_of_getElem? (i := 1328) (by decide +kernel)⟩
theorem lw_p62 : lw_okq (⟨"RollTownModel", "item", "()V"⟩, 27) := ⟨⟨by decide +kernel, by decide +kernel⟩, List.mem_of_getElem? (i := 920) (by decide +kernel), List.mem_of_getElem? (i := 1341) (by decide +kernel), List.mem_of_getElem? (i := 1342) (by decide +kernel)⟩
theorem lw_p63 : lw_okq (⟨"RollTownModel", "groundHere", "()I"⟩, 27) := ⟨⟨by decide +kernel, by decide +kernel⟩, List.mem_of_getElem? (i := 920) (by decide +kernel), List.mem_of_getElem? (i := 1345) (by decide +kernel), List.mem_of_getElem? (i := 1346) (by decide +kernel)⟩
def lw_privs_4 : List (MethodName × Nat) := [(⟨"RollTownModel", "putsBack", "()V"⟩, 27), (⟨"RollTownModel", "rollWrong", "(I)I"⟩, 27), (⟨"RollTownModel", "alone", "(II)V"⟩, 27), (⟨"RollTownModel", "isQuiet", "(I)Z"⟩, 27), (⟨"RollTownModel", "isRolling", "()Z"⟩, 27), (⟨"RollTownModel", "isSet", "(I)Z"⟩, 27), (⟨"RollTownModel", "packed", "(I)I"⟩, 27), (⟨"RollTownModel", "offBy", "(II)I"⟩, 27), (⟨"RollTownModel", "weighs", "(I)I"⟩, 27), (⟨"RollTownModel", "minutesUp", "(I)I"⟩, 27), (⟨"RollTownModel", "findLine", "()V"⟩, 27), (⟨"RollTownModel", "draw", "()I"⟩, 27), (⟨"RollTownModel", "token", "()V"⟩, 27), (⟨"RollTownModel", "byteAt", "(I)I"⟩, 27), (⟨"RollTownModel", "item", "()V"⟩, 27), (⟨"RollTownModel", "groundHere", "()I"⟩, 27)]
theorem lw_r4 : ∀ q ∈ lw_privs_4, lw_okq q := List.forall_mem_cons.mpr ⟨lw_p48, List.forall_mem_cons.mpr ⟨lw_p49, List.forall_mem_cons.mpr ⟨lw_p50, List.forall_mem_cons.mpr ⟨lw_p51, List.forall_mem_cons.mpr ⟨lw_p52, List.forall_mem_cons.mpr ⟨lw_p53, List.forall_mem_cons.mpr ⟨lw_p54, List.forall_mem_cons.mpr ⟨lw_p55, List.forall_mem_cons.mpr ⟨lw_p56, List.forall_mem_cons.mpr ⟨lw_p57, List.forall_mem_cons.mpr ⟨lw_p58, List.forall_mem_cons.mpr ⟨lw_p59, List.forall_mem_cons.mpr ⟨lw_p60, List.forall_mem_cons.mpr ⟨lw_p61, List.forall_mem_cons.mpr ⟨lw_p62, List.forall_mem_cons.mpr ⟨lw_p63, fun _ h => absurd h List.not_mem_nil⟩⟩⟩⟩⟩⟩⟩⟩⟩⟩⟩⟩⟩⟩⟩⟩
theorem lw_p64 : lw_okq (⟨"RollTownModel", "word", "()J"⟩, 27) := ⟨⟨by decide +kernel, by decide +kernel⟩, List.mem_of_getElem? (i := 920) (by decide +kernel), List.mem_of_getElem? (i := 1349) (by decide +kernel), List.mem_of_getElem? (i := 1350) (by decide +kernel)⟩
theorem lw_p65 : lw_okq (⟨"RollTownModel", "kindHere", "()I"⟩, 27) := ⟨⟨by decide +kernel, by decide +kernel⟩, List.mem_of_getElem? (i := 920) (by decide +kernel), List.mem_of_getElem? (i := 1360) (by decide +kernel), List.mem_of_getElem? (i := 1361) (by decide +kernel)⟩
theorem lw_p66 : lw_okq (⟨"RollTownModel", "groundItem", "(I)V"⟩, 27) := ⟨⟨by decide +kernel, by decide +kernel⟩, List.mem_of_getElem? (i := 920) (by decide +kernel), List.mem_of_getElem? (i := 1371) (by decide +kernel), List.mem_of_getElem? (i := 1372) (by decide +kernel)⟩
theorem lw_p67 : lw_okq (⟨"RollTownModel", "cells", "()V"⟩, 27) := ⟨⟨by decide +kernel, by decide +kernel⟩, List.mem_of_getElem? (i := 920) (by decide +kernel), List.mem_of_getElem? (i := 1375) (by decide +kernel), List.mem_of_getElem? (i := 1376) (by decide +kernel)⟩
theorem lw_p68 : lw_okq (⟨"RollTownModel", "needs", "(Z)V"⟩, 27) := ⟨⟨by decide +kernel, by decide +kernel⟩, List.mem_of_getElem? (i := 920) (by decide +kernel), List.mem_of_getElem? (i := 1379) (by decide +kernel), List.mem_of_getElem? (i := 1380) (by decide +kernel)⟩
theorem lw_p69 : lw_okq (⟨"RollTownModel", "number", "(II)V"⟩, 27) := ⟨⟨by decide +kernel, by decide +kernel⟩, List.mem_of_getElem? (i := 920) (by decide +kernel), List.mem_of_getElem? (i := 1383) (by decide +kernel), List.mem_of_getElem? (i := 1384) (by decide +kernel)⟩
theorem lw_p70 : lw_okq (⟨"RollTownModel", "perhaps", "(ZIII)I"⟩, 27) := ⟨⟨by decide +kernel, by decide +kernel⟩, List.mem_of_getElem? (i := 920) (by decide +kernel), List.mem_of_getElem? (i := 1388) (by decide +kernel), List.mem_of_getElem? (i := 1389) (by decide +kernel)⟩
theorem lw_p71 : lw_okq (⟨"RollTownModel", "thingItem", "(I)V"⟩, 27) := ⟨⟨by decide +kernel, by decide +kernel⟩, List.mem_of_getElem? (i := 920) (by decide +kernel), List.mem_of_getElem? (i := 1392) (by decide +kernel), List.mem_of_getElem? (i := 1393) (by decide +kernel)⟩
theorem lw_p72 : lw_okq (⟨"RollTownModel", "fallItem", "()V"⟩, 27) := ⟨⟨by decide +kernel, by decide +kernel⟩, List.mem_of_getElem? (i := 920) (by decide +kernel), List.mem_of_getElem? (i := 1400) (by decide +kernel), List.mem_of_getElem? (i := 1401) (by decide +kernel)⟩
theorem lw_p73 : lw_okq (⟨"RollTownModel", "shutItem", "()V"⟩, 27) := ⟨⟨by decide +kernel, by decide +kernel⟩, List.mem_of_getElem? (i := 920) (by decide +kernel), List.mem_of_getElem? (i := 1405) (by decide +kernel), List.mem_of_getElem? (i := 1406) (by decide +kernel)⟩
theorem lw_p74 : lw_okq (⟨"RollTownModel", "wrong", "(I)I"⟩, 27) := ⟨⟨by decide +kernel, by decide +kernel⟩, List.mem_of_getElem? (i := 920) (by decide +kernel), List.mem_of_getElem? (i := 1432) (by decide +kernel), List.mem_of_getElem? (i := 1433) (by decide +kernel)⟩
theorem lw_p75 : lw_okq (⟨"RollTownModel", "stones", "()I"⟩, 27) := ⟨⟨by decide +kernel, by decide +kernel⟩, List.mem_of_getElem? (i := 920) (by decide +kernel), List.mem_of_getElem? (i := 1467) (by decide +kernel), List.mem_of_getElem? (i := 1468) (by decide +kernel)⟩
theorem lw_p76 : lw_okq (⟨"RollTownModel", "held", "()I"⟩, 27) := ⟨⟨by decide +kernel, by decide +kernel⟩, List.mem_of_getElem? (i := 920) (by decide +kernel), List.mem_of_getElem? (i := 1471) (by decide +kernel), List.mem_of_getElem? (i := 1472) (by decide +kernel)⟩
def lw_privs_5 : List (MethodName × Nat) := [(⟨"RollTownModel", "word", "()J"⟩, 27), (⟨"RollTownModel", "kindHere", "()I"⟩, 27), (⟨"RollTownModel", "groundItem", "(I)V"⟩, 27), (⟨"RollTownModel", "cells", "()V"⟩, 27), (⟨"RollTownModel", "needs", "(Z)V"⟩, 27), (⟨"RollTownModel", "number", "(II)V"⟩, 27), (⟨"RollTownModel", "perhaps", "(ZIII)I"⟩, 27), (⟨"RollTownModel", "thingItem", "(I)V"⟩, 27), (⟨"RollTownModel", "fallItem", "()V"⟩, 27), (⟨"RollTownModel", "shutItem", "()V"⟩, 27), (⟨"RollTownModel", "wrong", "(I)I"⟩, 27), (⟨"RollTownModel", "stones", "()I"⟩, 27), (⟨"RollTownModel", "held", "()I"⟩, 27)]
theorem lw_r5 : ∀ q ∈ lw_privs_5, lw_okq q := List.forall_mem_cons.mpr ⟨lw_p64, List.forall_mem_cons.mpr ⟨lw_p65, List.forall_mem_cons.mpr ⟨lw_p66, List.forall_mem_cons.mpr ⟨lw_p67, List.forall_mem_cons.mpr ⟨lw_p68, List.forall_mem_cons.mpr ⟨lw_p69, List.forall_mem_cons.mpr ⟨lw_p70, List.forall_mem_cons.mpr ⟨lw_p71, List.forall_mem_cons.mpr ⟨lw_p72, List.forall_mem_cons.mpr ⟨lw_p73, List.forall_mem_cons.mpr ⟨lw_p74, List.forall_mem_cons.mpr ⟨lw_p75, List.forall_mem_cons.mpr ⟨lw_p76, fun _ h => absurd h List.not_mem_nil⟩⟩⟩⟩⟩⟩⟩⟩⟩⟩⟩⟩⟩
def lw_privs : List (MethodName × Nat) := lw_privs_1 ++ (lw_privs_2 ++ (lw_privs_3 ++ (lw_privs_4 ++ (lw_privs_5))))
def lw_tbl : List Cond := k2_sels lw_privs ++ tables_1
theorem lw_privs_ok : ∀ q ∈ lw_privs, lw_okq q := by
  show ∀ q ∈ lw_privs_1 ++ (lw_privs_2 ++ (lw_privs_3 ++ (lw_privs_4 ++ (lw_privs_5)))), lw_okq q
  exact List.forall_mem_append.mpr ⟨lw_r1, List.forall_mem_append.mpr ⟨lw_r2, List.forall_mem_append.mpr ⟨lw_r3, List.forall_mem_append.mpr ⟨lw_r4, lw_r5⟩⟩⟩⟩
end
section
def RX0 : String := "RollTown$Packing"
def TX0 : u_T := fun k => match k with
  | _ => ("RollTown$Packing", "row", "[I", true)
def tyX0 : Nat → FieldType := fun k => match k with
  | _ => .array .int
abbrev wsX00 : List Cond := u_ws RX0 TX0 1
theorem nmX0 : ∀ a, a < 1 → ∀ b, b < 1 → a ≠ b → (TX0 a).2.1 ≠ (TX0 b).2.1 := by decide +kernel
theorem tyX0_ok : ∀ k, k < 1 → parseFieldDescriptor (TX0 k).2.2.1 = some (tyX0 k) := by decide +kernel
abbrev cX0_init : ByteArray := prog_2_method_1_code
def yX0_init : MethodName := ⟨RX0, "<init>", "()V"⟩
abbrev cX0_leftSide : ByteArray := prog_2_method_2_code
def yX0_leftSide : MethodName := ⟨RX0, "leftSide", "(LRollTown$Town;I)I"⟩
abbrev cX0_weighAllSets : ByteArray := prog_2_method_3_code
def yX0_weighAllSets : MethodName := ⟨RX0, "weighAllSets", "(LRollTown$Town;)V"⟩
abbrev cX0_difference : ByteArray := prog_2_method_4_code
def yX0_difference : MethodName := ⟨RX0, "difference", "(II)I"⟩
abbrev cX0_fewestDrums : ByteArray := prog_2_method_5_code
def yX0_fewestDrums : MethodName := ⟨RX0, "fewestDrums", "(LRollTown$Town;II)I"⟩
abbrev cX0_fewestFor : ByteArray := prog_2_method_6_code
def yX0_fewestFor : MethodName := ⟨RX0, "fewestFor", "(LRollTown$Town;II)I"⟩
def RX1 : String := "RollTown$Reader"
def TX1 : u_T := fun k => match k with
  | 0 => ("RollTown$Reader", "bytes", "[I", true)
  | 1 => ("RollTown$Reader", "size", "I", false)
  | 2 => ("RollTown$Reader", "begins", "[I", true)
  | 3 => ("RollTown$Reader", "ends", "[I", true)
  | 4 => ("RollTown$Reader", "types", "[I", true)
  | 5 => ("RollTown$Reader", "values", "[I", true)
  | 6 => ("RollTown$Reader", "tokens", "I", false)
  | 7 => ("RollTown$Reader", "at", "I", false)
  | 8 => ("RollTown$Reader", "number", "I", false)
  | 9 => ("RollTown$Reader", "from", "I", false)
  | _ => ("RollTown$Reader", "to", "I", false)
def tyX1 : Nat → FieldType := fun k => match k with
  | 0 => .array .int
  | 1 => .int
  | 2 => .array .int
  | 3 => .array .int
  | 4 => .array .int
  | 5 => .array .int
  | 6 => .int
  | 7 => .int
  | 8 => .int
  | 9 => .int
  | _ => .int
abbrev wsX10 : List Cond := u_ws RX1 TX1 11
theorem nmX1 : ∀ a, a < 11 → ∀ b, b < 11 → a ≠ b → (TX1 a).2.1 ≠ (TX1 b).2.1 := by decide +kernel
theorem tyX1_ok : ∀ k, k < 11 → parseFieldDescriptor (TX1 k).2.2.1 = some (tyX1 k) := by decide +kernel
abbrev cX1_init : ByteArray := prog_3_method_1_code
def yX1_init : MethodName := ⟨RX1, "<init>", "()V"⟩
abbrev cX1_addByte : ByteArray := prog_3_method_2_code
def yX1_addByte : MethodName := ⟨RX1, "addByte", "(I)V"⟩
abbrev cX1_readText : ByteArray := prog_3_method_3_code
def yX1_readText : MethodName := ⟨RX1, "readText", "(LRollTown$Town;)I"⟩
abbrev cX1_splitTape : ByteArray := prog_3_method_4_code
def yX1_splitTape : MethodName := ⟨RX1, "splitTape", "()V"⟩
abbrev cX1_beginToken : ByteArray := prog_3_method_5_code
def yX1_beginToken : MethodName := ⟨RX1, "beginToken", "(II)V"⟩
abbrev cX1_growToken : ByteArray := prog_3_method_6_code
def yX1_growToken : MethodName := ⟨RX1, "growToken", "(II)V"⟩
abbrev cX1_typeOf : ByteArray := prog_3_method_7_code
def yX1_typeOf : MethodName := ⟨RX1, "typeOf", "(I)I"⟩
abbrev cX1_readItem : ByteArray := prog_3_method_8_code
def yX1_readItem : MethodName := ⟨RX1, "readItem", "(LRollTown$Town;)Z"⟩
abbrev cX1_readGround : ByteArray := prog_3_method_9_code
def yX1_readGround : MethodName := ⟨RX1, "readGround", "(LRollTown$Town;I)Z"⟩
abbrev cX1_readFall : ByteArray := prog_3_method_10_code
def yX1_readFall : MethodName := ⟨RX1, "readFall", "(LRollTown$Town;)Z"⟩
abbrev cX1_readShut : ByteArray := prog_3_method_11_code
def yX1_readShut : MethodName := ⟨RX1, "readShut", "(LRollTown$Town;)Z"⟩
abbrev cX1_readThing : ByteArray := prog_3_method_12_code
def yX1_readThing : MethodName := ⟨RX1, "readThing", "(LRollTown$Town;I)Z"⟩
abbrev cX1_takeCells : ByteArray := prog_3_method_13_code
def yX1_takeCells : MethodName := ⟨RX1, "takeCells", "()Z"⟩
abbrev cX1_takeWord : ByteArray := prog_3_method_14_code
def yX1_takeWord : MethodName := ⟨RX1, "takeWord", "(Ljava/lang/String;)Z"⟩
abbrev cX1_isWord : ByteArray := prog_3_method_15_code
def yX1_isWord : MethodName := ⟨RX1, "isWord", "(Ljava/lang/String;)Z"⟩
abbrev cX1_takeNumber : ByteArray := prog_3_method_16_code
def yX1_takeNumber : MethodName := ⟨RX1, "takeNumber", "(II)Z"⟩
abbrev cX1_takeSign : ByteArray := prog_3_method_17_code
def yX1_takeSign : MethodName := ⟨RX1, "takeSign", "(C)Z"⟩
abbrev cX1_goOn : ByteArray := prog_3_method_18_code
def yX1_goOn : MethodName := ⟨RX1, "goOn", "()V"⟩
abbrev cX1_nameOfGround : ByteArray := prog_3_method_19_code
def yX1_nameOfGround : MethodName := ⟨RX1, "nameOfGround", "(I)Ljava/lang/String;"⟩
abbrev cX1_nameOfKind : ByteArray := prog_3_method_20_code
def yX1_nameOfKind : MethodName := ⟨RX1, "nameOfKind", "(I)Ljava/lang/String;"⟩
def RX2 : String := "RollTown$Roll"
def TX2 : u_T := fun k => match k with
  | 0 => ("RollTown$Roll", "rider", "LRollTown$Thing;", true)
  | 1 => ("RollTown$Roll", "took", "I", false)
  | 2 => ("RollTown$Roll", "fastest", "I", false)
  | _ => ("RollTown$Roll", "cells", "I", false)
def tyX2 : Nat → FieldType := fun k => match k with
  | 0 => .object "RollTown$Thing"
  | 1 => .int
  | 2 => .int
  | _ => .int
abbrev wsX20 : List Cond := u_ws RX2 TX2 4
theorem nmX2 : ∀ a, a < 4 → ∀ b, b < 4 → a ≠ b → (TX2 a).2.1 ≠ (TX2 b).2.1 := by decide +kernel
theorem tyX2_ok : ∀ k, k < 4 → parseFieldDescriptor (TX2 k).2.2.1 = some (tyX2 k) := by decide +kernel
abbrev cX2_init : ByteArray := prog_4_method_1_code
def yX2_init : MethodName := ⟨RX2, "<init>", "()V"⟩
abbrev cX2_run : ByteArray := prog_4_method_2_code
def yX2_run : MethodName := ⟨RX2, "run", "(LRollTown$Town;LRollTown$Thing;)V"⟩
abbrev cX2_runFrom : ByteArray := prog_4_method_3_code
def yX2_runFrom : MethodName := ⟨RX2, "runFrom", "(LRollTown$Town;LRollTown$Thing;I)V"⟩
abbrev cX2_goesStill : ByteArray := prog_4_method_4_code
def yX2_goesStill : MethodName := ⟨RX2, "goesStill", "()Z"⟩
abbrev cX2_endsOn : ByteArray := prog_4_method_5_code
def yX2_endsOn : MethodName := ⟨RX2, "endsOn", "(I)Z"⟩
abbrev cX2_place : ByteArray := prog_4_method_6_code
def yX2_place : MethodName := ⟨RX2, "place", "()I"⟩
def RX3 : String := "RollTown$Sheet"
def TX3 : u_T := fun k => match k with
  | 0 => ("RollTown$Sheet", "numbers", "[I", true)
  | 1 => ("RollTown$Sheet", "bits", "I", false)
  | _ => ("RollTown$Sheet", "size", "I", false)
def tyX3 : Nat → FieldType := fun k => match k with
  | 0 => .array .int
  | 1 => .int
  | _ => .int
abbrev wsX30 : List Cond := u_ws RX3 TX3 3
theorem nmX3 : ∀ a, a < 3 → ∀ b, b < 3 → a ≠ b → (TX3 a).2.1 ≠ (TX3 b).2.1 := by decide +kernel
theorem tyX3_ok : ∀ k, k < 3 → parseFieldDescriptor (TX3 k).2.2.1 = some (tyX3 k) := by decide +kernel
abbrev cX3_init : ByteArray := prog_5_method_1_code
def yX3_init : MethodName := ⟨RX3, "<init>", "()V"⟩
abbrev cX3_begin : ByteArray := prog_5_method_2_code
def yX3_begin : MethodName := ⟨RX3, "begin", "(II)V"⟩
abbrev cX3_isMissing : ByteArray := prog_5_method_3_code
def yX3_isMissing : MethodName := ⟨RX3, "isMissing", "()Z"⟩
abbrev cX3_hasPart : ByteArray := prog_5_method_4_code
def yX3_hasPart : MethodName := ⟨RX3, "hasPart", "(II)Z"⟩
abbrev cX3_cutToBits : ByteArray := prog_5_method_5_code
def yX3_cutToBits : MethodName := ⟨RX3, "cutToBits", "(I)I"⟩
def RX4 : String := "RollTown$Thing"
def TX4 : u_T := fun k => match k with
  | 0 => ("RollTown$Thing", "kind", "I", false)
  | 1 => ("RollTown$Thing", "weight", "I", false)
  | 2 => ("RollTown$Thing", "rolls", "I", false)
  | 3 => ("RollTown$Thing", "lean", "I", false)
  | 4 => ("RollTown$Thing", "cell", "I", false)
  | 5 => ("RollTown$Thing", "speed", "I", false)
  | 6 => ("RollTown$Thing", "state", "I", false)
  | _ => ("RollTown$Thing", "damage", "I", false)
def tyX4 : Nat → FieldType := fun k => match k with
  | 0 => .int
  | 1 => .int
  | 2 => .int
  | 3 => .int
  | 4 => .int
  | 5 => .int
  | 6 => .int
  | _ => .int
abbrev wsX40 : List Cond := u_ws RX4 TX4 8
theorem nmX4 : ∀ a, a < 8 → ∀ b, b < 8 → a ≠ b → (TX4 a).2.1 ≠ (TX4 b).2.1 := by decide +kernel
theorem tyX4_ok : ∀ k, k < 8 → parseFieldDescriptor (TX4 k).2.2.1 = some (tyX4 k) := by decide +kernel
abbrev cX4_init : ByteArray := prog_6_method_1_code
def yX4_init : MethodName := ⟨RX4, "<init>", "()V"⟩
abbrev cX4_beginAs : ByteArray := prog_6_method_2_code
def yX4_beginAs : MethodName := ⟨RX4, "beginAs", "(II)V"⟩
abbrev cX4_become : ByteArray := prog_6_method_3_code
def yX4_become : MethodName := ⟨RX4, "become", "(LRollTown$Thing;)V"⟩
abbrev cX4_gainFrom : ByteArray := prog_6_method_4_code
def yX4_gainFrom : MethodName := ⟨RX4, "gainFrom", "(I)I"⟩
abbrev cX4_dragOn : ByteArray := prog_6_method_5_code
def yX4_dragOn : MethodName := ⟨RX4, "dragOn", "(I)I"⟩
abbrev cX4_bendLimit : ByteArray := prog_6_method_6_code
def yX4_bendLimit : MethodName := ⟨RX4, "bendLimit", "()I"⟩
abbrev cX4_isOfKind : ByteArray := prog_6_method_7_code
def yX4_isOfKind : MethodName := ⟨RX4, "isOfKind", "(I)Z"⟩
abbrev cX4_isStanding : ByteArray := prog_6_method_8_code
def yX4_isStanding : MethodName := ⟨RX4, "isStanding", "()Z"⟩
abbrev cX4_canBeLetGo : ByteArray := prog_6_method_9_code
def yX4_canBeLetGo : MethodName := ⟨RX4, "canBeLetGo", "()Z"⟩
abbrev cX4_letGo : ByteArray := prog_6_method_10_code
def yX4_letGo : MethodName := ⟨RX4, "letGo", "(I)V"⟩
abbrev cX4_stop : ByteArray := prog_6_method_11_code
def yX4_stop : MethodName := ⟨RX4, "stop", "()V"⟩
abbrev cX4_wheelTime : ByteArray := prog_6_method_12_code
def yX4_wheelTime : MethodName := ⟨RX4, "wheelTime", "()I"⟩
def RX5 : String := "RollTown$Town"
def TX5 : u_T := fun k => match k with
  | 0 => ("RollTown$Town", "falls", "[I", true)
  | 1 => ("RollTown$Town", "grounds", "[I", true)
  | 2 => ("RollTown$Town", "things", "[LRollTown$Thing;", true)
  | 3 => ("RollTown$Town", "spots", "[I", true)
  | 4 => ("RollTown$Town", "size", "I", false)
  | 5 => ("RollTown$Town", "shutFirst", "I", false)
  | 6 => ("RollTown$Town", "shutLast", "I", false)
  | 7 => ("RollTown$Town", "minute", "I", false)
  | _ => ("RollTown$Town", "z", "I", false)
def tyX5 : Nat → FieldType := fun k => match k with
  | 0 => .array .int
  | 1 => .array .int
  | 2 => .array (.object "RollTown$Thing")
  | 3 => .array .int
  | 4 => .int
  | 5 => .int
  | 6 => .int
  | 7 => .int
  | _ => .int
abbrev wsX50 : List Cond := u_ws RX5 TX5 9
theorem nmX5 : ∀ a, a < 9 → ∀ b, b < 9 → a ≠ b → (TX5 a).2.1 ≠ (TX5 b).2.1 := by decide +kernel
theorem tyX5_ok : ∀ k, k < 9 → parseFieldDescriptor (TX5 k).2.2.1 = some (tyX5 k) := by decide +kernel
abbrev cX5_init : ByteArray := prog_7_method_1_code
def yX5_init : MethodName := ⟨RX5, "<init>", "()V"⟩
abbrev cX5_become : ByteArray := prog_7_method_2_code
def yX5_become : MethodName := ⟨RX5, "become", "(LRollTown$Town;)V"⟩
abbrev cX5_isFull : ByteArray := prog_7_method_3_code
def yX5_isFull : MethodName := ⟨RX5, "isFull", "()Z"⟩
abbrev cX5_addThing : ByteArray := prog_7_method_4_code
def yX5_addThing : MethodName := ⟨RX5, "addThing", "(II)V"⟩
abbrev cX5_clearAllBut : ByteArray := prog_7_method_5_code
def yX5_clearAllBut : MethodName := ⟨RX5, "clearAllBut", "(I)V"⟩
abbrev cX5_gatesAreShut : ByteArray := prog_7_method_6_code
def yX5_gatesAreShut : MethodName := ⟨RX5, "gatesAreShut", "(I)Z"⟩
abbrev cX5_passMinutes : ByteArray := prog_7_method_7_code
def yX5_passMinutes : MethodName := ⟨RX5, "passMinutes", "(I)I"⟩
abbrev cX5_firstMeeting : ByteArray := prog_7_method_8_code
def yX5_firstMeeting : MethodName := ⟨RX5, "firstMeeting", "(I)I"⟩
abbrev cX5_passMinute : ByteArray := prog_7_method_9_code
def yX5_passMinute : MethodName := ⟨RX5, "passMinute", "()I"⟩
abbrev cX5_rollOn : ByteArray := prog_7_method_10_code
def yX5_rollOn : MethodName := ⟨RX5, "rollOn", "(LRollTown$Thing;I)V"⟩
abbrev cX5_stepOn : ByteArray := prog_7_method_11_code
def yX5_stepOn : MethodName := ⟨RX5, "stepOn", "(LRollTown$Thing;Z)V"⟩
abbrev cX5_stopThoseThatMeet : ByteArray := prog_7_method_12_code
def yX5_stopThoseThatMeet : MethodName := ⟨RX5, "stopThoseThatMeet", "(I)I"⟩
abbrev cX5_stopWithDamage : ByteArray := prog_7_method_13_code
def yX5_stopWithDamage : MethodName := ⟨RX5, "stopWithDamage", "(I)V"⟩
abbrev cX5_allIn : ByteArray := prog_7_method_14_code
def yX5_allIn : MethodName := ⟨RX5, "allIn", "(I)I"⟩
abbrev cX5_allOn : ByteArray := prog_7_method_15_code
def yX5_allOn : MethodName := ⟨RX5, "allOn", "(I)I"⟩
abbrev cX5_restingOnFoot : ByteArray := prog_7_method_16_code
def yX5_restingOnFoot : MethodName := ⟨RX5, "restingOnFoot", "()I"⟩
abbrev cX5_damageOfAll : ByteArray := prog_7_method_17_code
def yX5_damageOfAll : MethodName := ⟨RX5, "damageOfAll", "()I"⟩
abbrev cX5_weightOfAll : ByteArray := prog_7_method_18_code
def yX5_weightOfAll : MethodName := ⟨RX5, "weightOfAll", "()I"⟩
abbrev cX5_heaviest : ByteArray := prog_7_method_19_code
def yX5_heaviest : MethodName := ⟨RX5, "heaviest", "(I)I"⟩
abbrev cX5_cellsOfStone : ByteArray := prog_7_method_20_code
def yX5_cellsOfStone : MethodName := ⟨RX5, "cellsOfStone", "()I"⟩
abbrev cX5_spotsInUse : ByteArray := prog_7_method_21_code
def yX5_spotsInUse : MethodName := ⟨RX5, "spotsInUse", "()I"⟩
abbrev cX5_draw : ByteArray := prog_7_method_22_code
def yX5_draw : MethodName := ⟨RX5, "draw", "()I"⟩
def RX6 : String := "RollTown"
def TX6 : u_T := fun k => match k with
  | 0 => ("RollTown", "now", "LRollTown$Town;", true)
  | 1 => ("RollTown", "kept", "LRollTown$Town;", true)
  | 2 => ("RollTown", "isKept", "Z", false)
  | 3 => ("RollTown", "later", "LRollTown$Town;", true)
  | 4 => ("RollTown", "trial", "LRollTown$Town;", true)
  | 5 => ("RollTown", "roll", "LRollTown$Roll;", true)
  | 6 => ("RollTown", "packing", "LRollTown$Packing;", true)
  | 7 => ("RollTown", "queue", "[I", true)
  | 8 => ("RollTown", "tape", "LRollTown$Reader;", true)
  | 9 => ("RollTown", "sheets", "[LRollTown$Sheet;", true)
  | _ => ("RollTown", "refusals", "[I", true)
def tyX6 : Nat → FieldType := fun k => match k with
  | 0 => .object "RollTown$Town"
  | 1 => .object "RollTown$Town"
  | 2 => .boolean
  | 3 => .object "RollTown$Town"
  | 4 => .object "RollTown$Town"
  | 5 => .object "RollTown$Roll"
  | 6 => .object "RollTown$Packing"
  | 7 => .array .int
  | 8 => .object "RollTown$Reader"
  | 9 => .array (.object "RollTown$Sheet")
  | _ => .array .int
abbrev wsX60 : List Cond := u_ws RX6 TX6 11
theorem nmX6 : ∀ a, a < 11 → ∀ b, b < 11 → a ≠ b → (TX6 a).2.1 ≠ (TX6 b).2.1 := by decide +kernel
theorem tyX6_ok : ∀ k, k < 11 → parseFieldDescriptor (TX6 k).2.2.1 = some (tyX6 k) := by decide +kernel
abbrev cX6_init : ByteArray := prog_1_method_1_code
def yX6_init : MethodName := ⟨RX6, "<init>", "()V"⟩
abbrev cX6_fall : ByteArray := prog_1_method_2_code
def yX6_fall : MethodName := ⟨RX6, "fall", "(II)I"⟩
abbrev cX6_ground : ByteArray := prog_1_method_3_code
def yX6_ground : MethodName := ⟨RX6, "ground", "(II)I"⟩
abbrev cX6_gate : ByteArray := prog_1_method_4_code
def yX6_gate : MethodName := ⟨RX6, "gate", "(II)I"⟩
abbrev cX6_shut : ByteArray := prog_1_method_5_code
def yX6_shut : MethodName := ⟨RX6, "shut", "(I)I"⟩
abbrev cX6_thing : ByteArray := prog_1_method_6_code
def yX6_thing : MethodName := ⟨RX6, "thing", "(II)I"⟩
abbrev cX6_of : ByteArray := prog_1_method_7_code
def yX6_of : MethodName := ⟨RX6, "of", "(II)I"⟩
abbrev cX6_change : ByteArray := prog_1_method_8_code
def yX6_change : MethodName := ⟨RX6, "change", "(III)I"⟩
abbrev cX6_told : ByteArray := prog_1_method_9_code
def yX6_told : MethodName := ⟨RX6, "told", "(III)I"⟩
abbrev cX6_go : ByteArray := prog_1_method_10_code
def yX6_go : MethodName := ⟨RX6, "go", "(I)I"⟩
abbrev cX6_put : ByteArray := prog_1_method_11_code
def yX6_put : MethodName := ⟨RX6, "put", "(II)I"⟩
abbrev cX6_minutes : ByteArray := prog_1_method_12_code
def yX6_minutes : MethodName := ⟨RX6, "minutes", "(I)I"⟩
abbrev cX6_are : ByteArray := prog_1_method_13_code
def yX6_are : MethodName := ⟨RX6, "are", "(I)I"⟩
abbrev cX6_on : ByteArray := prog_1_method_14_code
def yX6_on : MethodName := ⟨RX6, "on", "(I)I"⟩
abbrev cX6_ahead : ByteArray := prog_1_method_15_code
def yX6_ahead : MethodName := ⟨RX6, "ahead", "(II)I"⟩
abbrev cX6_meet : ByteArray := prog_1_method_16_code
def yX6_meet : MethodName := ⟨RX6, "meet", "()I"⟩
abbrev cX6_ends : ByteArray := prog_1_method_17_code
def yX6_ends : MethodName := ⟨RX6, "ends", "(I)I"⟩
abbrev cX6_takes : ByteArray := prog_1_method_18_code
def yX6_takes : MethodName := ⟨RX6, "takes", "(I)I"⟩
abbrev cX6_speed : ByteArray := prog_1_method_19_code
def yX6_speed : MethodName := ⟨RX6, "speed", "(I)I"⟩
abbrev cX6_seen : ByteArray := prog_1_method_20_code
def yX6_seen : MethodName := ⟨RX6, "seen", "(I)I"⟩
abbrev cX6_sand : ByteArray := prog_1_method_21_code
def yX6_sand : MethodName := ⟨RX6, "sand", "(II)I"⟩
abbrev cX6_rollsFor : ByteArray := prog_1_method_22_code
def yX6_rollsFor : MethodName := ⟨RX6, "rollsFor", "(I)I"⟩
abbrev cX6_matters : ByteArray := prog_1_method_23_code
def yX6_matters : MethodName := ⟨RX6, "matters", "(I)I"⟩
abbrev cX6_kindFor : ByteArray := prog_1_method_24_code
def yX6_kindFor : MethodName := ⟨RX6, "kindFor", "(I)I"⟩
abbrev cX6_wait : ByteArray := prog_1_method_25_code
def yX6_wait : MethodName := ⟨RX6, "wait", "(I)I"⟩
abbrev cX6_behind : ByteArray := prog_1_method_26_code
def yX6_behind : MethodName := ⟨RX6, "behind", "(II)I"⟩
abbrev cX6_come : ByteArray := prog_1_method_27_code
def yX6_come : MethodName := ⟨RX6, "come", "()I"⟩
abbrev cX6_pack : ByteArray := prog_1_method_28_code
def yX6_pack : MethodName := ⟨RX6, "pack", "(I)I"⟩
abbrev cX6_lean : ByteArray := prog_1_method_29_code
def yX6_lean : MethodName := ⟨RX6, "lean", "(I)I"⟩
abbrev cX6_drums : ByteArray := prog_1_method_30_code
def yX6_drums : MethodName := ⟨RX6, "drums", "(II)I"⟩
abbrev cX6_waits : ByteArray := prog_1_method_31_code
def yX6_waits : MethodName := ⟨RX6, "waits", "()I"⟩
abbrev cX6_least : ByteArray := prog_1_method_32_code
def yX6_least : MethodName := ⟨RX6, "least", "()I"⟩
abbrev cX6_order : ByteArray := prog_1_method_33_code
def yX6_order : MethodName := ⟨RX6, "order", "(I)I"⟩
abbrev cX6_wheel : ByteArray := prog_1_method_34_code
def yX6_wheel : MethodName := ⟨RX6, "wheel", "(I)I"⟩
abbrev cX6_odds : ByteArray := prog_1_method_35_code
def yX6_odds : MethodName := ⟨RX6, "odds", "(II)I"⟩
abbrev cX6_worst : ByteArray := prog_1_method_36_code
def yX6_worst : MethodName := ⟨RX6, "worst", "()I"⟩
abbrev cX6_seed : ByteArray := prog_1_method_37_code
def yX6_seed : MethodName := ⟨RX6, "seed", "(I)I"⟩
abbrev cX6_feed : ByteArray := prog_1_method_38_code
def yX6_feed : MethodName := ⟨RX6, "feed", "(II)I"⟩
abbrev cX6_wipe : ByteArray := prog_1_method_39_code
def yX6_wipe : MethodName := ⟨RX6, "wipe", "()I"⟩
abbrev cX6_text : ByteArray := prog_1_method_40_code
def yX6_text : MethodName := ⟨RX6, "text", "()I"⟩
abbrev cX6_hold : ByteArray := prog_1_method_41_code
def yX6_hold : MethodName := ⟨RX6, "hold", "(II)I"⟩
abbrev cX6_as : ByteArray := prog_1_method_42_code
def yX6_as : MethodName := ⟨RX6, "as", "(II)I"⟩
abbrev cX6_sheet : ByteArray := prog_1_method_43_code
def yX6_sheet : MethodName := ⟨RX6, "sheet", "(III)I"⟩
abbrev cX6_write : ByteArray := prog_1_method_44_code
def yX6_write : MethodName := ⟨RX6, "write", "(III)I"⟩
abbrev cX6_copy : ByteArray := prog_1_method_45_code
def yX6_copy : MethodName := ⟨RX6, "copy", "(IIIII)I"⟩
abbrev cX6_load : ByteArray := prog_1_method_46_code
def yX6_load : MethodName := ⟨RX6, "load", "(II)I"⟩
abbrev cX6_judge : ByteArray := prog_1_method_47_code
def yX6_judge : MethodName := ⟨RX6, "judge", "(II)I"⟩
abbrev cX6_image : ByteArray := prog_1_method_48_code
def yX6_image : MethodName := ⟨RX6, "image", "()I"⟩
abbrev cX6_undo : ByteArray := prog_1_method_49_code
def yX6_undo : MethodName := ⟨RX6, "undo", "()I"⟩
abbrev cX6_tear : ByteArray := prog_1_method_50_code
def yX6_tear : MethodName := ⟨RX6, "tear", "()I"⟩
abbrev cX6_count : ByteArray := prog_1_method_51_code
def yX6_count : MethodName := ⟨RX6, "count", "(I)I"⟩
abbrev cX6_status : ByteArray := prog_1_method_52_code
def yX6_status : MethodName := ⟨RX6, "status", "(I)I"⟩
abbrev cX6_refuse : ByteArray := prog_1_method_53_code
def yX6_refuse : MethodName := ⟨RX6, "refuse", "(I)I"⟩
abbrev cX6_againstRoll : ByteArray := prog_1_method_54_code
def yX6_againstRoll : MethodName := ⟨RX6, "againstRoll", "(I)I"⟩
abbrev cX6_rollWithGround : ByteArray := prog_1_method_55_code
def yX6_rollWithGround : MethodName := ⟨RX6, "rollWithGround", "(III)V"⟩
abbrev cX6_isTooLateToRoll : ByteArray := prog_1_method_56_code
def yX6_isTooLateToRoll : MethodName := ⟨RX6, "isTooLateToRoll", "()Z"⟩
abbrev cX6_isTooLateToWait : ByteArray := prog_1_method_57_code
def yX6_isTooLateToWait : MethodName := ⟨RX6, "isTooLateToWait", "()Z"⟩
abbrev cX6_standTogether : ByteArray := prog_1_method_58_code
def yX6_standTogether : MethodName := ⟨RX6, "standTogether", "(LRollTown$Thing;LRollTown$Thing;)Z"⟩
abbrev cX6_lineUpByNumber : ByteArray := prog_1_method_59_code
def yX6_lineUpByNumber : MethodName := ⟨RX6, "lineUpByNumber", "()I"⟩
abbrev cX6_lineUpByWeight : ByteArray := prog_1_method_60_code
def yX6_lineUpByWeight : MethodName := ⟨RX6, "lineUpByWeight", "()I"⟩
abbrev cX6_waitsOfQueue : ByteArray := prog_1_method_61_code
def yX6_waitsOfQueue : MethodName := ⟨RX6, "waitsOfQueue", "(I)I"⟩
abbrev cX6_isThing : ByteArray := prog_1_method_62_code
def yX6_isThing : MethodName := ⟨RX6, "isThing", "(I)Z"⟩
abbrev cX6_isSetOfThings : ByteArray := prog_1_method_63_code
def yX6_isSetOfThings : MethodName := ⟨RX6, "isSetOfThings", "(I)Z"⟩
abbrev cX6_isCell : ByteArray := prog_1_method_64_code
def yX6_isCell : MethodName := ⟨RX6, "isCell", "(I)Z"⟩
abbrev cX6_isFall : ByteArray := prog_1_method_65_code
def yX6_isFall : MethodName := ⟨RX6, "isFall", "(I)Z"⟩
abbrev cX6_isMinuteOfHour : ByteArray := prog_1_method_66_code
def yX6_isMinuteOfHour : MethodName := ⟨RX6, "isMinuteOfHour", "(I)Z"⟩
abbrev cX6_isKind : ByteArray := prog_1_method_67_code
def yX6_isKind : MethodName := ⟨RX6, "isKind", "(I)Z"⟩
abbrev cX6_isWeight : ByteArray := prog_1_method_68_code
def yX6_isWeight : MethodName := ⟨RX6, "isWeight", "(I)Z"⟩
abbrev cX6_isRolls : ByteArray := prog_1_method_69_code
def yX6_isRolls : MethodName := ⟨RX6, "isRolls", "(I)Z"⟩
abbrev cX6_isLean : ByteArray := prog_1_method_70_code
def yX6_isLean : MethodName := ⟨RX6, "isLean", "(I)Z"⟩
abbrev cX6_isSheet : ByteArray := prog_1_method_71_code
def yX6_isSheet : MethodName := ⟨RX6, "isSheet", "(I)Z"⟩
abbrev cX6_within : ByteArray := prog_1_method_72_code
def yX6_within : MethodName := ⟨RX6, "within", "(III)Z"⟩
abbrev cX6_has : ByteArray := prog_1_method_73_code
def yX6_has : MethodName := ⟨RX6, "has", "(II)Z"⟩
def RX7 : String := "RollTownModel"
def TX7 : u_T := fun k => match k with
  | 0 => ("RollTownModel", "s", "[I", true)
  | 1 => ("RollTownModel", "keptS", "[I", true)
  | 2 => ("RollTownModel", "other", "[I", true)
  | 3 => ("RollTownModel", "statuses", "[I", true)
  | 4 => ("RollTownModel", "isKept", "Z", false)
  | 5 => ("RollTownModel", "met", "I", false)
  | 6 => ("RollTownModel", "outs", "I", false)
  | 7 => ("RollTownModel", "endCell", "I", false)
  | 8 => ("RollTownModel", "endHow", "I", false)
  | 9 => ("RollTownModel", "minutesTaken", "I", false)
  | 10 => ("RollTownModel", "fastest", "I", false)
  | 11 => ("RollTownModel", "seenSet", "I", false)
  | 12 => ("RollTownModel", "filled", "[I", true)
  | 13 => ("RollTownModel", "line", "[I", true)
  | 14 => ("RollTownModel", "lined", "I", false)
  | 15 => ("RollTownModel", "tape", "[I", true)
  | 16 => ("RollTownModel", "taped", "I", false)
  | 17 => ("RollTownModel", "from", "I", false)
  | 18 => ("RollTownModel", "to", "I", false)
  | 19 => ("RollTownModel", "value", "I", false)
  | 20 => ("RollTownModel", "isWrong", "Z", false)
  | 21 => ("RollTownModel", "low", "I", false)
  | 22 => ("RollTownModel", "high", "I", false)
  | 23 => ("RollTownModel", "bitsOf", "[I", true)
  | 24 => ("RollTownModel", "sizeOf", "[I", true)
  | 25 => ("RollTownModel", "number", "[I", true)
  | _ => ("RollTownModel", "moved", "[I", true)
def tyX7 : Nat → FieldType := fun k => match k with
  | 0 => .array .int
  | 1 => .array .int
  | 2 => .array .int
  | 3 => .array .int
  | 4 => .boolean
  | 5 => .int
  | 6 => .int
  | 7 => .int
  | 8 => .int
  | 9 => .int
  | 10 => .int
  | 11 => .int
  | 12 => .array .int
  | 13 => .array .int
  | 14 => .int
  | 15 => .array .int
  | 16 => .int
  | 17 => .int
  | 18 => .int
  | 19 => .int
  | 20 => .boolean
  | 21 => .int
  | 22 => .int
  | 23 => .array .int
  | 24 => .array .int
  | 25 => .array .int
  | _ => .array .int
abbrev wsX70 : List Cond := u_ws RX7 TX7 27
theorem nmX7 : ∀ a, a < 27 → ∀ b, b < 27 → a ≠ b → (TX7 a).2.1 ≠ (TX7 b).2.1 := by decide +kernel
theorem tyX7_ok : ∀ k, k < 27 → parseFieldDescriptor (TX7 k).2.2.1 = some (tyX7 k) := by decide +kernel
abbrev cX7_init : ByteArray := prog_9_method_1_code
def yX7_init : MethodName := ⟨RX7, "<init>", "()V"⟩
abbrev cX7_in : ByteArray := prog_9_method_2_code
def yX7_in : MethodName := ⟨RX7, "in", "(JJJ)Z"⟩
abbrev cX7_finds : ByteArray := prog_9_method_3_code
def yX7_finds : MethodName := ⟨RX7, "finds", "(I)I"⟩
abbrev cX7_isCell : ByteArray := prog_9_method_4_code
def yX7_isCell : MethodName := ⟨RX7, "isCell", "(I)Z"⟩
abbrev cX7_isThing : ByteArray := prog_9_method_5_code
def yX7_isThing : MethodName := ⟨RX7, "isThing", "(I)Z"⟩
abbrev cX7_has : ByteArray := prog_9_method_6_code
def yX7_has : MethodName := ⟨RX7, "has", "(II)Z"⟩
abbrev cX7_draw : ByteArray := prog_9_method_7_code
def yX7_draw : MethodName := ⟨RX7, "draw", "()I"⟩
abbrev cX7_puts : ByteArray := prog_9_method_8_code
def yX7_puts : MethodName := ⟨RX7, "puts", "()V"⟩
abbrev cX7_putsBack : ByteArray := prog_9_method_9_code
def yX7_putsBack : MethodName := ⟨RX7, "putsBack", "()V"⟩
abbrev cX7_fall : ByteArray := prog_9_method_10_code
def yX7_fall : MethodName := ⟨RX7, "fall", "(II)I"⟩
abbrev cX7_ground : ByteArray := prog_9_method_11_code
def yX7_ground : MethodName := ⟨RX7, "ground", "(II)I"⟩
abbrev cX7_gate : ByteArray := prog_9_method_12_code
def yX7_gate : MethodName := ⟨RX7, "gate", "(II)I"⟩
abbrev cX7_isShut : ByteArray := prog_9_method_13_code
def yX7_isShut : MethodName := ⟨RX7, "isShut", "(I)Z"⟩
abbrev cX7_shut : ByteArray := prog_9_method_14_code
def yX7_shut : MethodName := ⟨RX7, "shut", "(I)I"⟩
abbrev cX7_at : ByteArray := prog_9_method_15_code
def yX7_at : MethodName := ⟨RX7, "at", "(II)I"⟩
abbrev cX7_its : ByteArray := prog_9_method_16_code
def yX7_its : MethodName := ⟨RX7, "its", "(II)I"⟩
abbrev cX7_newThing : ByteArray := prog_9_method_17_code
def yX7_newThing : MethodName := ⟨RX7, "newThing", "(IIII)I"⟩
abbrev cX7_isPart : ByteArray := prog_9_method_18_code
def yX7_isPart : MethodName := ⟨RX7, "isPart", "(II)Z"⟩
abbrev cX7_thing : ByteArray := prog_9_method_19_code
def yX7_thing : MethodName := ⟨RX7, "thing", "(II)I"⟩
abbrev cX7_gain : ByteArray := prog_9_method_20_code
def yX7_gain : MethodName := ⟨RX7, "gain", "(II)I"⟩
abbrev cX7_drag : ByteArray := prog_9_method_21_code
def yX7_drag : MethodName := ⟨RX7, "drag", "(II)I"⟩
abbrev cX7_top : ByteArray := prog_9_method_22_code
def yX7_top : MethodName := ⟨RX7, "top", "(I)I"⟩
abbrev cX7_of : ByteArray := prog_9_method_23_code
def yX7_of : MethodName := ⟨RX7, "of", "(II)I"⟩
abbrev cX7_change : ByteArray := prog_9_method_24_code
def yX7_change : MethodName := ⟨RX7, "change", "(III)I"⟩
abbrev cX7_told : ByteArray := prog_9_method_25_code
def yX7_told : MethodName := ⟨RX7, "told", "(III)I"⟩
abbrev cX7_isReady : ByteArray := prog_9_method_26_code
def yX7_isReady : MethodName := ⟨RX7, "isReady", "(I)Z"⟩
abbrev cX7_letsGo : ByteArray := prog_9_method_27_code
def yX7_letsGo : MethodName := ⟨RX7, "letsGo", "(II)V"⟩
abbrev cX7_go : ByteArray := prog_9_method_28_code
def yX7_go : MethodName := ⟨RX7, "go", "(I)I"⟩
abbrev cX7_put : ByteArray := prog_9_method_29_code
def yX7_put : MethodName := ⟨RX7, "put", "(II)I"⟩
abbrev cX7_rolls : ByteArray := prog_9_method_30_code
def yX7_rolls : MethodName := ⟨RX7, "rolls", "(II)V"⟩
abbrev cX7_isOnLane : ByteArray := prog_9_method_31_code
def yX7_isOnLane : MethodName := ⟨RX7, "isOnLane", "(I)Z"⟩
abbrev cX7_meets : ByteArray := prog_9_method_32_code
def yX7_meets : MethodName := ⟨RX7, "meets", "(I)I"⟩
abbrev cX7_minute : ByteArray := prog_9_method_33_code
def yX7_minute : MethodName := ⟨RX7, "minute", "()V"⟩
abbrev cX7_isTooLate : ByteArray := prog_9_method_34_code
def yX7_isTooLate : MethodName := ⟨RX7, "isTooLate", "(I)Z"⟩
abbrev cX7_minutes : ByteArray := prog_9_method_35_code
def yX7_minutes : MethodName := ⟨RX7, "minutes", "(I)I"⟩
abbrev cX7_areIn : ByteArray := prog_9_method_36_code
def yX7_areIn : MethodName := ⟨RX7, "areIn", "(I)I"⟩
abbrev cX7_are : ByteArray := prog_9_method_37_code
def yX7_are : MethodName := ⟨RX7, "are", "(I)I"⟩
abbrev cX7_onCell : ByteArray := prog_9_method_38_code
def yX7_onCell : MethodName := ⟨RX7, "onCell", "(I)I"⟩
abbrev cX7_on : ByteArray := prog_9_method_39_code
def yX7_on : MethodName := ⟨RX7, "on", "(I)I"⟩
abbrev cX7_sumOf : ByteArray := prog_9_method_40_code
def yX7_sumOf : MethodName := ⟨RX7, "sumOf", "(I)I"⟩
abbrev cX7_ahead : ByteArray := prog_9_method_41_code
def yX7_ahead : MethodName := ⟨RX7, "ahead", "(II)I"⟩
abbrev cX7_meet : ByteArray := prog_9_method_42_code
def yX7_meet : MethodName := ⟨RX7, "meet", "()I"⟩
abbrev cX7_alone : ByteArray := prog_9_method_43_code
def yX7_alone : MethodName := ⟨RX7, "alone", "(II)V"⟩
abbrev cX7_rollWrong : ByteArray := prog_9_method_44_code
def yX7_rollWrong : MethodName := ⟨RX7, "rollWrong", "(I)I"⟩
abbrev cX7_ends : ByteArray := prog_9_method_45_code
def yX7_ends : MethodName := ⟨RX7, "ends", "(I)I"⟩
abbrev cX7_takes : ByteArray := prog_9_method_46_code
def yX7_takes : MethodName := ⟨RX7, "takes", "(I)I"⟩
abbrev cX7_speed : ByteArray := prog_9_method_47_code
def yX7_speed : MethodName := ⟨RX7, "speed", "(I)I"⟩
abbrev cX7_seen : ByteArray := prog_9_method_48_code
def yX7_seen : MethodName := ⟨RX7, "seen", "(I)I"⟩
abbrev cX7_sand : ByteArray := prog_9_method_49_code
def yX7_sand : MethodName := ⟨RX7, "sand", "(II)I"⟩
abbrev cX7_rollsFor : ByteArray := prog_9_method_50_code
def yX7_rollsFor : MethodName := ⟨RX7, "rollsFor", "(I)I"⟩
abbrev cX7_matters : ByteArray := prog_9_method_51_code
def yX7_matters : MethodName := ⟨RX7, "matters", "(I)I"⟩
abbrev cX7_kindFor : ByteArray := prog_9_method_52_code
def yX7_kindFor : MethodName := ⟨RX7, "kindFor", "(I)I"⟩
abbrev cX7_isQuiet : ByteArray := prog_9_method_53_code
def yX7_isQuiet : MethodName := ⟨RX7, "isQuiet", "(I)Z"⟩
abbrev cX7_wait : ByteArray := prog_9_method_54_code
def yX7_wait : MethodName := ⟨RX7, "wait", "(I)I"⟩
abbrev cX7_isRolling : ByteArray := prog_9_method_55_code
def yX7_isRolling : MethodName := ⟨RX7, "isRolling", "()Z"⟩
abbrev cX7_behind : ByteArray := prog_9_method_56_code
def yX7_behind : MethodName := ⟨RX7, "behind", "(II)I"⟩
abbrev cX7_come : ByteArray := prog_9_method_57_code
def yX7_come : MethodName := ⟨RX7, "come", "()I"⟩
abbrev cX7_isSet : ByteArray := prog_9_method_58_code
def yX7_isSet : MethodName := ⟨RX7, "isSet", "(I)Z"⟩
abbrev cX7_weighs : ByteArray := prog_9_method_59_code
def yX7_weighs : MethodName := ⟨RX7, "weighs", "(I)I"⟩
abbrev cX7_offBy : ByteArray := prog_9_method_60_code
def yX7_offBy : MethodName := ⟨RX7, "offBy", "(II)I"⟩
abbrev cX7_packed : ByteArray := prog_9_method_61_code
def yX7_packed : MethodName := ⟨RX7, "packed", "(I)I"⟩
abbrev cX7_pack : ByteArray := prog_9_method_62_code
def yX7_pack : MethodName := ⟨RX7, "pack", "(I)I"⟩
abbrev cX7_lean : ByteArray := prog_9_method_63_code
def yX7_lean : MethodName := ⟨RX7, "lean", "(I)I"⟩
abbrev cX7_drums : ByteArray := prog_9_method_64_code
def yX7_drums : MethodName := ⟨RX7, "drums", "(II)I"⟩
abbrev cX7_findLine : ByteArray := prog_9_method_65_code
def yX7_findLine : MethodName := ⟨RX7, "findLine", "()V"⟩
abbrev cX7_minutesUp : ByteArray := prog_9_method_66_code
def yX7_minutesUp : MethodName := ⟨RX7, "minutesUp", "(I)I"⟩
abbrev cX7_waits : ByteArray := prog_9_method_67_code
def yX7_waits : MethodName := ⟨RX7, "waits", "()I"⟩
abbrev cX7_least : ByteArray := prog_9_method_68_code
def yX7_least : MethodName := ⟨RX7, "least", "()I"⟩
abbrev cX7_order : ByteArray := prog_9_method_69_code
def yX7_order : MethodName := ⟨RX7, "order", "(I)I"⟩
abbrev cX7_wheel : ByteArray := prog_9_method_70_code
def yX7_wheel : MethodName := ⟨RX7, "wheel", "(I)I"⟩
abbrev cX7_odds : ByteArray := prog_9_method_71_code
def yX7_odds : MethodName := ⟨RX7, "odds", "(II)I"⟩
abbrev cX7_worst : ByteArray := prog_9_method_72_code
def yX7_worst : MethodName := ⟨RX7, "worst", "()I"⟩
abbrev cX7_seed : ByteArray := prog_9_method_73_code
def yX7_seed : MethodName := ⟨RX7, "seed", "(I)I"⟩
abbrev cX7_feed : ByteArray := prog_9_method_74_code
def yX7_feed : MethodName := ⟨RX7, "feed", "(II)I"⟩
abbrev cX7_wipe : ByteArray := prog_9_method_75_code
def yX7_wipe : MethodName := ⟨RX7, "wipe", "()I"⟩
abbrev cX7_byteAt : ByteArray := prog_9_method_76_code
def yX7_byteAt : MethodName := ⟨RX7, "byteAt", "(I)I"⟩
abbrev cX7_isLetter : ByteArray := prog_9_method_77_code
def yX7_isLetter : MethodName := ⟨RX7, "isLetter", "(I)Z"⟩
abbrev cX7_isDigit : ByteArray := prog_9_method_78_code
def yX7_isDigit : MethodName := ⟨RX7, "isDigit", "(I)Z"⟩
abbrev cX7_token : ByteArray := prog_9_method_79_code
def yX7_token : MethodName := ⟨RX7, "token", "()V"⟩
abbrev cX7_needs : ByteArray := prog_9_method_80_code
def yX7_needs : MethodName := ⟨RX7, "needs", "(Z)V"⟩
abbrev cX7_word : ByteArray := prog_9_method_81_code
def yX7_word : MethodName := ⟨RX7, "word", "()J"⟩
abbrev cX7_number : ByteArray := prog_9_method_82_code
def yX7_number : MethodName := ⟨RX7, "number", "(II)V"⟩
abbrev cX7_groundHere : ByteArray := prog_9_method_83_code
def yX7_groundHere : MethodName := ⟨RX7, "groundHere", "()I"⟩
abbrev cX7_kindHere : ByteArray := prog_9_method_84_code
def yX7_kindHere : MethodName := ⟨RX7, "kindHere", "()I"⟩
abbrev cX7_perhaps : ByteArray := prog_9_method_85_code
def yX7_perhaps : MethodName := ⟨RX7, "perhaps", "(ZIII)I"⟩
abbrev cX7_cells : ByteArray := prog_9_method_86_code
def yX7_cells : MethodName := ⟨RX7, "cells", "()V"⟩
abbrev cX7_groundItem : ByteArray := prog_9_method_87_code
def yX7_groundItem : MethodName := ⟨RX7, "groundItem", "(I)V"⟩
abbrev cX7_fallItem : ByteArray := prog_9_method_88_code
def yX7_fallItem : MethodName := ⟨RX7, "fallItem", "()V"⟩
abbrev cX7_shutItem : ByteArray := prog_9_method_89_code
def yX7_shutItem : MethodName := ⟨RX7, "shutItem", "()V"⟩
abbrev cX7_thingItem : ByteArray := prog_9_method_90_code
def yX7_thingItem : MethodName := ⟨RX7, "thingItem", "(I)V"⟩
abbrev cX7_item : ByteArray := prog_9_method_91_code
def yX7_item : MethodName := ⟨RX7, "item", "()V"⟩
abbrev cX7_text : ByteArray := prog_9_method_92_code
def yX7_text : MethodName := ⟨RX7, "text", "()I"⟩
abbrev cX7_hold : ByteArray := prog_9_method_93_code
def yX7_hold : MethodName := ⟨RX7, "hold", "(II)I"⟩
abbrev cX7_as : ByteArray := prog_9_method_94_code
def yX7_as : MethodName := ⟨RX7, "as", "(II)I"⟩
abbrev cX7_isOne : ByteArray := prog_9_method_95_code
def yX7_isOne : MethodName := ⟨RX7, "isOne", "(I)Z"⟩
abbrev cX7_sheet : ByteArray := prog_9_method_96_code
def yX7_sheet : MethodName := ⟨RX7, "sheet", "(III)I"⟩
abbrev cX7_narrowed : ByteArray := prog_9_method_97_code
def yX7_narrowed : MethodName := ⟨RX7, "narrowed", "(II)I"⟩
abbrev cX7_wrong : ByteArray := prog_9_method_98_code
def yX7_wrong : MethodName := ⟨RX7, "wrong", "(I)I"⟩
abbrev cX7_write : ByteArray := prog_9_method_99_code
def yX7_write : MethodName := ⟨RX7, "write", "(III)I"⟩
abbrev cX7_copy : ByteArray := prog_9_method_100_code
def yX7_copy : MethodName := ⟨RX7, "copy", "(IIIII)I"⟩
abbrev cX7_load : ByteArray := prog_9_method_101_code
def yX7_load : MethodName := ⟨RX7, "load", "(II)I"⟩
abbrev cX7_judge : ByteArray := prog_9_method_102_code
def yX7_judge : MethodName := ⟨RX7, "judge", "(II)I"⟩
abbrev cX7_image : ByteArray := prog_9_method_103_code
def yX7_image : MethodName := ⟨RX7, "image", "()I"⟩
abbrev cX7_undo : ByteArray := prog_9_method_104_code
def yX7_undo : MethodName := ⟨RX7, "undo", "()I"⟩
abbrev cX7_tear : ByteArray := prog_9_method_105_code
def yX7_tear : MethodName := ⟨RX7, "tear", "()I"⟩
abbrev cX7_stones : ByteArray := prog_9_method_106_code
def yX7_stones : MethodName := ⟨RX7, "stones", "()I"⟩
abbrev cX7_held : ByteArray := prog_9_method_107_code
def yX7_held : MethodName := ⟨RX7, "held", "()I"⟩
abbrev cX7_count : ByteArray := prog_9_method_108_code
def yX7_count : MethodName := ⟨RX7, "count", "(I)I"⟩
abbrev cX7_status : ByteArray := prog_9_method_109_code
def yX7_status : MethodName := ⟨RX7, "status", "(I)I"⟩
def RJ6 : String := "java/lang/Integer"
def TJ6 : u_T := fun k => match k with
  | _ => ("", "", "", false)
def tyJ6 : Nat → FieldType := fun k => match k with
  | _ => .int
abbrev wsJ60 : List Cond := u_ws RJ6 TJ6 0
theorem nmJ6 : ∀ a, a < 0 → ∀ b, b < 0 → a ≠ b → (TJ6 a).2.1 ≠ (TJ6 b).2.1 := by decide +kernel
theorem tyJ6_ok : ∀ k, k < 0 → parseFieldDescriptor (TJ6 k).2.2.1 = some (tyJ6 k) := by decide +kernel
abbrev cJ6_bitCount_0f7a4 : ByteArray := prog_10_method_49_code
def yJ6_bitCount_0f7a4 : MethodName := ⟨RJ6, "bitCount", "(I)I"⟩
def RJ9 : String := "java/lang/Math"
def TJ9 : u_T := fun k => match k with
  | _ => ("", "", "", false)
def tyJ9 : Nat → FieldType := fun k => match k with
  | _ => .int
abbrev wsJ90 : List Cond := u_ws RJ9 TJ9 0
theorem nmJ9 : ∀ a, a < 0 → ∀ b, b < 0 → a ≠ b → (TJ9 a).2.1 ≠ (TJ9 b).2.1 := by decide +kernel
theorem tyJ9_ok : ∀ k, k < 0 → parseFieldDescriptor (TJ9 k).2.2.1 = some (tyJ9 k) := by decide +kernel
abbrev cJ9_abs_0f7a4 : ByteArray := prog_11_method_59_code
def yJ9_abs_0f7a4 : MethodName := ⟨RJ9, "abs", "(I)I"⟩
abbrev cJ9_max_7cf53 : ByteArray := prog_11_method_65_code
def yJ9_max_7cf53 : MethodName := ⟨RJ9, "max", "(II)I"⟩
abbrev cJ9_min_7cf53 : ByteArray := prog_11_method_69_code
def yJ9_min_7cf53 : MethodName := ⟨RJ9, "min", "(II)I"⟩
def RJ0 : String := "java/lang/String"
def TJ0 : u_T := fun k => match k with
  | _ => ("", "", "", false)
def tyJ0 : Nat → FieldType := fun k => match k with
  | _ => .int
abbrev wsJ00 : List Cond := u_ws RJ0 TJ0 0
theorem nmJ0 : ∀ a, a < 0 → ∀ b, b < 0 → a ≠ b → (TJ0 a).2.1 ≠ (TJ0 b).2.1 := by decide +kernel
theorem tyJ0_ok : ∀ k, k < 0 → parseFieldDescriptor (TJ0 k).2.2.1 = some (tyJ0 k) := by decide +kernel
abbrev cJ0_length_8abf5 : ByteArray := prog_12_method_54_code
def yJ0_length_8abf5 : MethodName := ⟨RJ0, "length", "()I"⟩
abbrev cJ0_charAt_5068e : ByteArray := prog_12_method_56_code
def yJ0_charAt_5068e : MethodName := ⟨RJ0, "charAt", "(I)C"⟩
abbrev cJ0_coder_7d493 : ByteArray := prog_12_method_152_code
def yJ0_coder_7d493 : MethodName := ⟨RJ0, "coder", "()B"⟩
abbrev cJ0_isLatin1_aae02 : ByteArray := prog_12_method_154_code
def yJ0_isLatin1_aae02 : MethodName := ⟨RJ0, "isLatin1", "()Z"⟩
abbrev cJ0_checkIndex_df160 : ByteArray := prog_12_method_155_code
def yJ0_checkIndex_df160 : MethodName := ⟨RJ0, "checkIndex", "(II)V"⟩
def RJ1 : String := "java/lang/StringLatin1"
def TJ1 : u_T := fun k => match k with
  | _ => ("", "", "", false)
def tyJ1 : Nat → FieldType := fun k => match k with
  | _ => .int
abbrev wsJ10 : List Cond := u_ws RJ1 TJ1 0
theorem nmJ1 : ∀ a, a < 0 → ∀ b, b < 0 → a ≠ b → (TJ1 a).2.1 ≠ (TJ1 b).2.1 := by decide +kernel
theorem tyJ1_ok : ∀ k, k < 0 → parseFieldDescriptor (TJ1 k).2.2.1 = some (tyJ1 k) := by decide +kernel
abbrev cJ1_charAt_3b067 : ByteArray := prog_13_method_2_code
def yJ1_charAt_3b067 : MethodName := ⟨RJ1, "charAt", "([BI)C"⟩
def RJ2 : String := "java/lang/StringUTF16"
def TJ2 : u_T := fun k => match k with
  | _ => ("", "", "", false)
def tyJ2 : Nat → FieldType := fun k => match k with
  | _ => .int
abbrev wsJ20 : List Cond := u_ws RJ2 TJ2 0
theorem nmJ2 : ∀ a, a < 0 → ∀ b, b < 0 → a ≠ b → (TJ2 a).2.1 ≠ (TJ2 b).2.1 := by decide +kernel
theorem tyJ2_ok : ∀ k, k < 0 → parseFieldDescriptor (TJ2 k).2.2.1 = some (tyJ2 k) := by decide +kernel
abbrev cJ2_getChar_3b067 : ByteArray := prog_14_method_5_code
def yJ2_getChar_3b067 : MethodName := ⟨RJ2, "getChar", "([BI)C"⟩
abbrev cJ2_length_9d52b : ByteArray := prog_14_method_6_code
def yJ2_length_9d52b : MethodName := ⟨RJ2, "length", "([B)I"⟩
abbrev cJ2_charAt_3b067 : ByteArray := prog_14_method_83_code
def yJ2_charAt_3b067 : MethodName := ⟨RJ2, "charAt", "([BI)C"⟩
abbrev cJ2_checkIndex_2214a : ByteArray := prog_14_method_91_code
def yJ2_checkIndex_2214a : MethodName := ⟨RJ2, "checkIndex", "(I[B)V"⟩
def RJ10 : String := "java/lang/System"
def TJ10 : u_T := fun k => match k with
  | _ => ("", "", "", false)
def tyJ10 : Nat → FieldType := fun k => match k with
  | _ => .int
abbrev wsJ100 : List Cond := u_ws RJ10 TJ10 0
theorem nmJ10 : ∀ a, a < 0 → ∀ b, b < 0 → a ≠ b → (TJ10 a).2.1 ≠ (TJ10 b).2.1 := by decide +kernel
theorem tyJ10_ok : ∀ k, k < 0 → parseFieldDescriptor (TJ10 k).2.2.1 = some (tyJ10 k) := by decide +kernel
def RJ3 : String := "jdk/internal/util/Preconditions"
def TJ3 : u_T := fun k => match k with
  | _ => ("", "", "", false)
def tyJ3 : Nat → FieldType := fun k => match k with
  | _ => .int
abbrev wsJ30 : List Cond := u_ws RJ3 TJ3 0
theorem nmJ3 : ∀ a, a < 0 → ∀ b, b < 0 → a ≠ b → (TJ3 a).2.1 ≠ (TJ3 b).2.1 := by decide +kernel
theorem tyJ3_ok : ∀ k, k < 0 → parseFieldDescriptor (TJ3 k).2.2.1 = some (tyJ3 k) := by decide +kernel
abbrev cJ3_checkIndex_8e157 : ByteArray := prog_16_method_11_code
def yJ3_checkIndex_8e157 : MethodName := ⟨RJ3, "checkIndex", "(IILjava/util/function/BiFunction;)I"⟩
def RL : String := "RollTownLaw"
abbrev cL_law : ByteArray := code
def yL_law : MethodName := ⟨RL, "law", "([I)Z"⟩
abbrev vwCl : List vw_C := [(RX0, TX0, 1), (RX1, TX1, 11), (RX2, TX2, 4), (RX3, TX3, 3), (RX4, TX4, 8), (RX5, TX5, 9), (RX6, TX6, 11), (RX7, TX7, 27)]
end
section
theorem dJ0_length_8abf5_0 : decode cJ0_length_8abf5 0 = .ok (.aload_n 0, 1) := by decide +kernel
theorem dJ0_length_8abf5_1 : decode cJ0_length_8abf5 1 = .ok (.getfield 9, 3) := by decide +kernel
theorem dJ0_length_8abf5_4 : decode cJ0_length_8abf5 4 = .ok (.arraylength, 1) := by decide +kernel
theorem dJ0_length_8abf5_5 : decode cJ0_length_8abf5 5 = .ok (.aload_n 0, 1) := by decide +kernel
theorem dJ0_length_8abf5_6 : decode cJ0_length_8abf5 6 = .ok (.invokevirtual 335, 3) := by decide +kernel
theorem dJ0_length_8abf5_9 : decode cJ0_length_8abf5 9 = .ok (.ishr, 1) := by decide +kernel
theorem dJ0_length_8abf5_10 : decode cJ0_length_8abf5 10 = .ok (.ireturn, 1) := by decide +kernel
theorem dJ0_charAt_5068e_0 : decode cJ0_charAt_5068e 0 = .ok (.aload_n 0, 1) := by decide +kernel
theorem dJ0_charAt_5068e_1 : decode cJ0_charAt_5068e 1 = .ok (.invokevirtual 492, 3) := by decide +kernel
theorem dJ0_charAt_5068e_4 : decode cJ0_charAt_5068e 4 = .ok (.ifCond .eq 12, 3) := by decide +kernel
theorem dJ0_charAt_5068e_7 : decode cJ0_charAt_5068e 7 = .ok (.aload_n 0, 1) := by decide +kernel
theorem dJ0_charAt_5068e_8 : decode cJ0_charAt_5068e 8 = .ok (.getfield 9, 3) := by decide +kernel
theorem dJ0_charAt_5068e_11 : decode cJ0_charAt_5068e 11 = .ok (.iload_n 1, 1) := by decide +kernel
theorem dJ0_charAt_5068e_12 : decode cJ0_charAt_5068e 12 = .ok (.invokestatic 495, 3) := by decide +kernel
theorem dJ0_charAt_5068e_15 : decode cJ0_charAt_5068e 15 = .ok (.ireturn, 1) := by decide +kernel
theorem dJ0_charAt_5068e_16 : decode cJ0_charAt_5068e 16 = .ok (.aload_n 0, 1) := by decide +kernel
theorem dJ0_charAt_5068e_17 : decode cJ0_charAt_5068e 17 = .ok (.getfield 9, 3) := by decide +kernel
theorem dJ0_charAt_5068e_20 : decode cJ0_charAt_5068e 20 = .ok (.iload_n 1, 1) := by decide +kernel
theorem dJ0_charAt_5068e_21 : decode cJ0_charAt_5068e 21 = .ok (.invokestatic 498, 3) := by decide +kernel
theorem dJ0_charAt_5068e_24 : decode cJ0_charAt_5068e 24 = .ok (.ireturn, 1) := by decide +kernel
theorem dJ0_coder_7d493_0 : decode cJ0_coder_7d493 0 = .ok (.getstatic 38, 3) := by decide +kernel
theorem dJ0_coder_7d493_3 : decode cJ0_coder_7d493 3 = .ok (.ifCond .eq 10, 3) := by decide +kernel
theorem dJ0_coder_7d493_6 : decode cJ0_coder_7d493 6 = .ok (.aload_n 0, 1) := by decide +kernel
theorem dJ0_coder_7d493_7 : decode cJ0_coder_7d493 7 = .ok (.getfield 15, 3) := by decide +kernel
theorem dJ0_coder_7d493_10 : decode cJ0_coder_7d493 10 = .ok (.goto 4, 3) := by decide +kernel
theorem dJ0_coder_7d493_13 : decode cJ0_coder_7d493 13 = .ok (.iconst 1, 1) := by decide +kernel
theorem dJ0_coder_7d493_14 : decode cJ0_coder_7d493 14 = .ok (.ireturn, 1) := by decide +kernel
theorem dJ0_isLatin1_aae02_0 : decode cJ0_isLatin1_aae02 0 = .ok (.getstatic 38, 3) := by decide +kernel
theorem dJ0_isLatin1_aae02_3 : decode cJ0_isLatin1_aae02 3 = .ok (.ifCond .eq 14, 3) := by decide +kernel
theorem dJ0_isLatin1_aae02_6 : decode cJ0_isLatin1_aae02 6 = .ok (.aload_n 0, 1) := by decide +kernel
theorem dJ0_isLatin1_aae02_7 : decode cJ0_isLatin1_aae02 7 = .ok (.getfield 15, 3) := by decide +kernel
theorem dJ0_isLatin1_aae02_10 : decode cJ0_isLatin1_aae02 10 = .ok (.ifCond .ne 7, 3) := by decide +kernel
theorem dJ0_isLatin1_aae02_13 : decode cJ0_isLatin1_aae02 13 = .ok (.iconst 1, 1) := by decide +kernel
theorem dJ0_isLatin1_aae02_14 : decode cJ0_isLatin1_aae02 14 = .ok (.goto 4, 3) := by decide +kernel
theorem dJ0_isLatin1_aae02_17 : decode cJ0_isLatin1_aae02 17 = .ok (.iconst 0, 1) := by decide +kernel
theorem dJ0_isLatin1_aae02_18 : decode cJ0_isLatin1_aae02 18 = .ok (.ireturn, 1) := by decide +kernel
theorem dJ0_checkIndex_df160_0 : decode cJ0_checkIndex_df160 0 = .ok (.iload_n 0, 1) := by decide +kernel
theorem dJ0_checkIndex_df160_1 : decode cJ0_checkIndex_df160 1 = .ok (.iload_n 1, 1) := by decide +kernel
theorem dJ0_checkIndex_df160_2 : decode cJ0_checkIndex_df160 2 = .ok (.getstatic 1053, 3) := by decide +kernel
theorem dJ0_checkIndex_df160_5 : decode cJ0_checkIndex_df160 5 = .ok (.invokestatic 1059, 3) := by decide +kernel
theorem dJ0_checkIndex_df160_8 : decode cJ0_checkIndex_df160 8 = .ok (.pop, 1) := by decide +kernel
theorem dJ0_checkIndex_df160_9 : decode cJ0_checkIndex_df160 9 = .ok (.return_, 1) := by decide +kernel
theorem dJ1_charAt_3b067_0 : decode cJ1_charAt_3b067 0 = .ok (.iload_n 1, 1) := by decide +kernel
theorem dJ1_charAt_3b067_1 : decode cJ1_charAt_3b067 1 = .ok (.aload_n 0, 1) := by decide +kernel
theorem dJ1_charAt_3b067_2 : decode cJ1_charAt_3b067 2 = .ok (.arraylength, 1) := by decide +kernel
theorem dJ1_charAt_3b067_3 : decode cJ1_charAt_3b067 3 = .ok (.invokestatic 9, 3) := by decide +kernel
theorem dJ1_charAt_3b067_6 : decode cJ1_charAt_3b067 6 = .ok (.aload_n 0, 1) := by decide +kernel
theorem dJ1_charAt_3b067_7 : decode cJ1_charAt_3b067 7 = .ok (.iload_n 1, 1) := by decide +kernel
theorem dJ1_charAt_3b067_8 : decode cJ1_charAt_3b067 8 = .ok (.baload, 1) := by decide +kernel
theorem dJ1_charAt_3b067_9 : decode cJ1_charAt_3b067 9 = .ok (.sipush 255, 3) := by decide +kernel
theorem dJ1_charAt_3b067_12 : decode cJ1_charAt_3b067 12 = .ok (.iand, 1) := by decide +kernel
theorem dJ1_charAt_3b067_13 : decode cJ1_charAt_3b067 13 = .ok (.i2c, 1) := by decide +kernel
theorem dJ1_charAt_3b067_14 : decode cJ1_charAt_3b067 14 = .ok (.ireturn, 1) := by decide +kernel
theorem dJ2_getChar_3b067_0 : decode cJ2_getChar_3b067 0 = .ok (.getstatic 44, 3) := by decide +kernel
theorem dJ2_getChar_3b067_3 : decode cJ2_getChar_3b067 3 = .ok (.ifCond .ne 25, 3) := by decide +kernel
theorem dJ2_getChar_3b067_6 : decode cJ2_getChar_3b067 6 = .ok (.iload_n 1, 1) := by decide +kernel
theorem dJ2_getChar_3b067_7 : decode cJ2_getChar_3b067 7 = .ok (.ifCond .lt 11, 3) := by decide +kernel
theorem dJ2_getChar_3b067_10 : decode cJ2_getChar_3b067 10 = .ok (.iload_n 1, 1) := by decide +kernel
theorem dJ2_getChar_3b067_11 : decode cJ2_getChar_3b067 11 = .ok (.aload_n 0, 1) := by decide +kernel
theorem dJ2_getChar_3b067_12 : decode cJ2_getChar_3b067 12 = .ok (.invokestatic 48, 3) := by decide +kernel
theorem dJ2_getChar_3b067_15 : decode cJ2_getChar_3b067 15 = .ok (.if_icmp .lt 13, 3) := by decide +kernel
theorem dJ2_getChar_3b067_18 : decode cJ2_getChar_3b067 18 = .ok (.new 52, 3) := by decide +kernel
theorem dJ2_getChar_3b067_21 : decode cJ2_getChar_3b067 21 = .ok (.dup, 1) := by decide +kernel
theorem dJ2_getChar_3b067_22 : decode cJ2_getChar_3b067 22 = .ok (.ldc 54, 2) := by decide +kernel
theorem dJ2_getChar_3b067_24 : decode cJ2_getChar_3b067 24 = .ok (.invokespecial 56, 3) := by decide +kernel
theorem dJ2_getChar_3b067_27 : decode cJ2_getChar_3b067 27 = .ok (.athrow, 1) := by decide +kernel
theorem dJ2_getChar_3b067_28 : decode cJ2_getChar_3b067 28 = .ok (.iload_n 1, 1) := by decide +kernel
theorem dJ2_getChar_3b067_29 : decode cJ2_getChar_3b067 29 = .ok (.iconst 1, 1) := by decide +kernel
theorem dJ2_getChar_3b067_30 : decode cJ2_getChar_3b067 30 = .ok (.ishl, 1) := by decide +kernel
theorem dJ2_getChar_3b067_31 : decode cJ2_getChar_3b067 31 = .ok (.istore_n 1, 1) := by decide +kernel
theorem dJ2_getChar_3b067_32 : decode cJ2_getChar_3b067 32 = .ok (.aload_n 0, 1) := by decide +kernel
theorem dJ2_getChar_3b067_33 : decode cJ2_getChar_3b067 33 = .ok (.iload_n 1, 1) := by decide +kernel
theorem dJ2_getChar_3b067_34 : decode cJ2_getChar_3b067 34 = .ok (.iinc 1 1, 3) := by decide +kernel
theorem dJ2_getChar_3b067_37 : decode cJ2_getChar_3b067 37 = .ok (.baload, 1) := by decide +kernel
theorem dJ2_getChar_3b067_38 : decode cJ2_getChar_3b067 38 = .ok (.sipush 255, 3) := by decide +kernel
theorem dJ2_getChar_3b067_41 : decode cJ2_getChar_3b067 41 = .ok (.iand, 1) := by decide +kernel
theorem dJ2_getChar_3b067_42 : decode cJ2_getChar_3b067 42 = .ok (.getstatic 59, 3) := by decide +kernel
theorem dJ2_getChar_3b067_45 : decode cJ2_getChar_3b067 45 = .ok (.ishl, 1) := by decide +kernel
theorem dJ2_getChar_3b067_46 : decode cJ2_getChar_3b067 46 = .ok (.aload_n 0, 1) := by decide +kernel
theorem dJ2_getChar_3b067_47 : decode cJ2_getChar_3b067 47 = .ok (.iload_n 1, 1) := by decide +kernel
theorem dJ2_getChar_3b067_48 : decode cJ2_getChar_3b067 48 = .ok (.baload, 1) := by decide +kernel
theorem dJ2_getChar_3b067_49 : decode cJ2_getChar_3b067 49 = .ok (.sipush 255, 3) := by decide +kernel
theorem dJ2_getChar_3b067_52 : decode cJ2_getChar_3b067 52 = .ok (.iand, 1) := by decide +kernel
theorem dJ2_getChar_3b067_53 : decode cJ2_getChar_3b067 53 = .ok (.getstatic 63, 3) := by decide +kernel
theorem dJ2_getChar_3b067_56 : decode cJ2_getChar_3b067 56 = .ok (.ishl, 1) := by decide +kernel
theorem dJ2_getChar_3b067_57 : decode cJ2_getChar_3b067 57 = .ok (.ior, 1) := by decide +kernel
theorem dJ2_getChar_3b067_58 : decode cJ2_getChar_3b067 58 = .ok (.i2c, 1) := by decide +kernel
theorem dJ2_getChar_3b067_59 : decode cJ2_getChar_3b067 59 = .ok (.ireturn, 1) := by decide +kernel
theorem dJ2_length_9d52b_0 : decode cJ2_length_9d52b 0 = .ok (.aload_n 0, 1) := by decide +kernel
theorem dJ2_length_9d52b_1 : decode cJ2_length_9d52b 1 = .ok (.arraylength, 1) := by decide +kernel
theorem dJ2_length_9d52b_2 : decode cJ2_length_9d52b 2 = .ok (.iconst 1, 1) := by decide +kernel
theorem dJ2_length_9d52b_3 : decode cJ2_length_9d52b 3 = .ok (.ishr, 1) := by decide +kernel
theorem dJ2_length_9d52b_4 : decode cJ2_length_9d52b 4 = .ok (.ireturn, 1) := by decide +kernel
theorem dJ2_charAt_3b067_0 : decode cJ2_charAt_3b067 0 = .ok (.iload_n 1, 1) := by decide +kernel
theorem dJ2_charAt_3b067_1 : decode cJ2_charAt_3b067 1 = .ok (.aload_n 0, 1) := by decide +kernel
theorem dJ2_charAt_3b067_2 : decode cJ2_charAt_3b067 2 = .ok (.invokestatic 67, 3) := by decide +kernel
theorem dJ2_charAt_3b067_5 : decode cJ2_charAt_3b067 5 = .ok (.aload_n 0, 1) := by decide +kernel
theorem dJ2_charAt_3b067_6 : decode cJ2_charAt_3b067 6 = .ok (.iload_n 1, 1) := by decide +kernel
theorem dJ2_charAt_3b067_7 : decode cJ2_charAt_3b067 7 = .ok (.invokestatic 71, 3) := by decide +kernel
theorem dJ2_charAt_3b067_10 : decode cJ2_charAt_3b067 10 = .ok (.ireturn, 1) := by decide +kernel
theorem dJ2_checkIndex_2214a_0 : decode cJ2_checkIndex_2214a 0 = .ok (.iload_n 0, 1) := by decide +kernel
theorem dJ2_checkIndex_2214a_1 : decode cJ2_checkIndex_2214a 1 = .ok (.aload_n 1, 1) := by decide +kernel
theorem dJ2_checkIndex_2214a_2 : decode cJ2_checkIndex_2214a 2 = .ok (.invokestatic 48, 3) := by decide +kernel
theorem dJ2_checkIndex_2214a_5 : decode cJ2_checkIndex_2214a 5 = .ok (.invokestatic 414, 3) := by decide +kernel
theorem dJ2_checkIndex_2214a_8 : decode cJ2_checkIndex_2214a 8 = .ok (.return_, 1) := by decide +kernel
theorem dJ3_checkIndex_8e157_0 : decode cJ3_checkIndex_8e157 0 = .ok (.iload_n 0, 1) := by decide +kernel
theorem dJ3_checkIndex_8e157_1 : decode cJ3_checkIndex_8e157 1 = .ok (.ifCond .lt 8, 3) := by decide +kernel
theorem dJ3_checkIndex_8e157_4 : decode cJ3_checkIndex_8e157 4 = .ok (.iload_n 0, 1) := by decide +kernel
theorem dJ3_checkIndex_8e157_5 : decode cJ3_checkIndex_8e157 5 = .ok (.iload_n 1, 1) := by decide +kernel
theorem dJ3_checkIndex_8e157_6 : decode cJ3_checkIndex_8e157 6 = .ok (.if_icmp .lt 10, 3) := by decide +kernel
theorem dJ3_checkIndex_8e157_9 : decode cJ3_checkIndex_8e157 9 = .ok (.aload_n 2, 1) := by decide +kernel
theorem dJ3_checkIndex_8e157_10 : decode cJ3_checkIndex_8e157 10 = .ok (.iload_n 0, 1) := by decide +kernel
theorem dJ3_checkIndex_8e157_11 : decode cJ3_checkIndex_8e157 11 = .ok (.iload_n 1, 1) := by decide +kernel
theorem dJ3_checkIndex_8e157_12 : decode cJ3_checkIndex_8e157 12 = .ok (.invokestatic 95, 3) := by decide +kernel
theorem dJ3_checkIndex_8e157_15 : decode cJ3_checkIndex_8e157 15 = .ok (.athrow, 1) := by decide +kernel
theorem dJ3_checkIndex_8e157_16 : decode cJ3_checkIndex_8e157 16 = .ok (.iload_n 0, 1) := by decide +kernel
theorem dJ3_checkIndex_8e157_17 : decode cJ3_checkIndex_8e157 17 = .ok (.ireturn, 1) := by decide +kernel
theorem dJ6_bitCount_0f7a4_0 : decode cJ6_bitCount_0f7a4 0 = .ok (.iload_n 0, 1) := by decide +kernel
theorem dJ6_bitCount_0f7a4_1 : decode cJ6_bitCount_0f7a4 1 = .ok (.iload_n 0, 1) := by decide +kernel
theorem dJ6_bitCount_0f7a4_2 : decode cJ6_bitCount_0f7a4 2 = .ok (.iconst 1, 1) := by decide +kernel
theorem dJ6_bitCount_0f7a4_3 : decode cJ6_bitCount_0f7a4 3 = .ok (.iushr, 1) := by decide +kernel
theorem dJ6_bitCount_0f7a4_4 : decode cJ6_bitCount_0f7a4 4 = .ok (.ldc_w 265, 3) := by decide +kernel
theorem dJ6_bitCount_0f7a4_7 : decode cJ6_bitCount_0f7a4 7 = .ok (.iand, 1) := by decide +kernel
theorem dJ6_bitCount_0f7a4_8 : decode cJ6_bitCount_0f7a4 8 = .ok (.isub, 1) := by decide +kernel
theorem dJ6_bitCount_0f7a4_9 : decode cJ6_bitCount_0f7a4 9 = .ok (.istore_n 0, 1) := by decide +kernel
theorem dJ6_bitCount_0f7a4_10 : decode cJ6_bitCount_0f7a4 10 = .ok (.iload_n 0, 1) := by decide +kernel
theorem dJ6_bitCount_0f7a4_11 : decode cJ6_bitCount_0f7a4 11 = .ok (.ldc_w 266, 3) := by decide +kernel
theorem dJ6_bitCount_0f7a4_14 : decode cJ6_bitCount_0f7a4 14 = .ok (.iand, 1) := by decide +kernel
theorem dJ6_bitCount_0f7a4_15 : decode cJ6_bitCount_0f7a4 15 = .ok (.iload_n 0, 1) := by decide +kernel
theorem dJ6_bitCount_0f7a4_16 : decode cJ6_bitCount_0f7a4 16 = .ok (.iconst 2, 1) := by decide +kernel
theorem dJ6_bitCount_0f7a4_17 : decode cJ6_bitCount_0f7a4 17 = .ok (.iushr, 1) := by decide +kernel
theorem dJ6_bitCount_0f7a4_18 : decode cJ6_bitCount_0f7a4 18 = .ok (.ldc_w 266, 3) := by decide +kernel
theorem dJ6_bitCount_0f7a4_21 : decode cJ6_bitCount_0f7a4 21 = .ok (.iand, 1) := by decide +kernel
theorem dJ6_bitCount_0f7a4_22 : decode cJ6_bitCount_0f7a4 22 = .ok (.iadd, 1) := by decide +kernel
theorem dJ6_bitCount_0f7a4_23 : decode cJ6_bitCount_0f7a4 23 = .ok (.istore_n 0, 1) := by decide +kernel
theorem dJ6_bitCount_0f7a4_24 : decode cJ6_bitCount_0f7a4 24 = .ok (.iload_n 0, 1) := by decide +kernel
theorem dJ6_bitCount_0f7a4_25 : decode cJ6_bitCount_0f7a4 25 = .ok (.iload_n 0, 1) := by decide +kernel
theorem dJ6_bitCount_0f7a4_26 : decode cJ6_bitCount_0f7a4 26 = .ok (.iconst 4, 1) := by decide +kernel
theorem dJ6_bitCount_0f7a4_27 : decode cJ6_bitCount_0f7a4 27 = .ok (.iushr, 1) := by decide +kernel
theorem dJ6_bitCount_0f7a4_28 : decode cJ6_bitCount_0f7a4 28 = .ok (.iadd, 1) := by decide +kernel
theorem dJ6_bitCount_0f7a4_29 : decode cJ6_bitCount_0f7a4 29 = .ok (.ldc_w 267, 3) := by decide +kernel
theorem dJ6_bitCount_0f7a4_32 : decode cJ6_bitCount_0f7a4 32 = .ok (.iand, 1) := by decide +kernel
theorem dJ6_bitCount_0f7a4_33 : decode cJ6_bitCount_0f7a4 33 = .ok (.istore_n 0, 1) := by decide +kernel
theorem dJ6_bitCount_0f7a4_34 : decode cJ6_bitCount_0f7a4 34 = .ok (.iload_n 0, 1) := by decide +kernel
theorem dJ6_bitCount_0f7a4_35 : decode cJ6_bitCount_0f7a4 35 = .ok (.iload_n 0, 1) := by decide +kernel
theorem dJ6_bitCount_0f7a4_36 : decode cJ6_bitCount_0f7a4 36 = .ok (.bipush 8, 2) := by decide +kernel
theorem dJ6_bitCount_0f7a4_38 : decode cJ6_bitCount_0f7a4 38 = .ok (.iushr, 1) := by decide +kernel
theorem dJ6_bitCount_0f7a4_39 : decode cJ6_bitCount_0f7a4 39 = .ok (.iadd, 1) := by decide +kernel
theorem dJ6_bitCount_0f7a4_40 : decode cJ6_bitCount_0f7a4 40 = .ok (.istore_n 0, 1) := by decide +kernel
theorem dJ6_bitCount_0f7a4_41 : decode cJ6_bitCount_0f7a4 41 = .ok (.iload_n 0, 1) := by decide +kernel
theorem dJ6_bitCount_0f7a4_42 : decode cJ6_bitCount_0f7a4 42 = .ok (.iload_n 0, 1) := by decide +kernel
theorem dJ6_bitCount_0f7a4_43 : decode cJ6_bitCount_0f7a4 43 = .ok (.bipush 16, 2) := by decide +kernel
theorem dJ6_bitCount_0f7a4_45 : decode cJ6_bitCount_0f7a4 45 = .ok (.iushr, 1) := by decide +kernel
theorem dJ6_bitCount_0f7a4_46 : decode cJ6_bitCount_0f7a4 46 = .ok (.iadd, 1) := by decide +kernel
theorem dJ6_bitCount_0f7a4_47 : decode cJ6_bitCount_0f7a4 47 = .ok (.istore_n 0, 1) := by decide +kernel
theorem dJ6_bitCount_0f7a4_48 : decode cJ6_bitCount_0f7a4 48 = .ok (.iload_n 0, 1) := by decide +kernel
theorem dJ6_bitCount_0f7a4_49 : decode cJ6_bitCount_0f7a4 49 = .ok (.bipush 63, 2) := by decide +kernel
theorem dJ6_bitCount_0f7a4_51 : decode cJ6_bitCount_0f7a4 51 = .ok (.iand, 1) := by decide +kernel
theorem dJ6_bitCount_0f7a4_52 : decode cJ6_bitCount_0f7a4 52 = .ok (.ireturn, 1) := by decide +kernel
theorem dJ9_abs_0f7a4_0 : decode cJ9_abs_0f7a4 0 = .ok (.iload_n 0, 1) := by decide +kernel
theorem dJ9_abs_0f7a4_1 : decode cJ9_abs_0f7a4 1 = .ok (.ifCond .ge 8, 3) := by decide +kernel
theorem dJ9_abs_0f7a4_4 : decode cJ9_abs_0f7a4 4 = .ok (.iload_n 0, 1) := by decide +kernel
theorem dJ9_abs_0f7a4_5 : decode cJ9_abs_0f7a4 5 = .ok (.ineg, 1) := by decide +kernel
theorem dJ9_abs_0f7a4_6 : decode cJ9_abs_0f7a4 6 = .ok (.goto 4, 3) := by decide +kernel
theorem dJ9_abs_0f7a4_9 : decode cJ9_abs_0f7a4 9 = .ok (.iload_n 0, 1) := by decide +kernel
theorem dJ9_abs_0f7a4_10 : decode cJ9_abs_0f7a4 10 = .ok (.ireturn, 1) := by decide +kernel
theorem dJ9_max_7cf53_0 : decode cJ9_max_7cf53 0 = .ok (.iload_n 0, 1) := by decide +kernel
theorem dJ9_max_7cf53_1 : decode cJ9_max_7cf53 1 = .ok (.iload_n 1, 1) := by decide +kernel
theorem dJ9_max_7cf53_2 : decode cJ9_max_7cf53 2 = .ok (.if_icmp .lt 7, 3) := by decide +kernel
theorem dJ9_max_7cf53_5 : decode cJ9_max_7cf53 5 = .ok (.iload_n 0, 1) := by decide +kernel
theorem dJ9_max_7cf53_6 : decode cJ9_max_7cf53 6 = .ok (.goto 4, 3) := by decide +kernel
theorem dJ9_max_7cf53_9 : decode cJ9_max_7cf53 9 = .ok (.iload_n 1, 1) := by decide +kernel
theorem dJ9_max_7cf53_10 : decode cJ9_max_7cf53 10 = .ok (.ireturn, 1) := by decide +kernel
theorem dJ9_min_7cf53_0 : decode cJ9_min_7cf53 0 = .ok (.iload_n 0, 1) := by decide +kernel
theorem dJ9_min_7cf53_1 : decode cJ9_min_7cf53 1 = .ok (.iload_n 1, 1) := by decide +kernel
theorem dJ9_min_7cf53_2 : decode cJ9_min_7cf53 2 = .ok (.if_icmp .gt 7, 3) := by decide +kernel
theorem dJ9_min_7cf53_5 : decode cJ9_min_7cf53 5 = .ok (.iload_n 0, 1) := by decide +kernel
theorem dJ9_min_7cf53_6 : decode cJ9_min_7cf53 6 = .ok (.goto 4, 3) := by decide +kernel
theorem dJ9_min_7cf53_9 : decode cJ9_min_7cf53 9 = .ok (.iload_n 1, 1) := by decide +kernel
theorem dJ9_min_7cf53_10 : decode cJ9_min_7cf53 10 = .ok (.ireturn, 1) := by decide +kernel
end
section
theorem dL_law_0 : decode cL_law 0 = .ok (.new 7, 3) := by decide +kernel
theorem dL_law_3 : decode cL_law 3 = .ok (.dup, 1) := by decide +kernel
theorem dL_law_4 : decode cL_law 4 = .ok (.invokespecial 9, 3) := by decide +kernel
theorem dL_law_7 : decode cL_law 7 = .ok (.astore_n 1, 1) := by decide +kernel
theorem dL_law_8 : decode cL_law 8 = .ok (.new 10, 3) := by decide +kernel
theorem dL_law_11 : decode cL_law 11 = .ok (.dup, 1) := by decide +kernel
theorem dL_law_12 : decode cL_law 12 = .ok (.invokespecial 12, 3) := by decide +kernel
theorem dL_law_15 : decode cL_law 15 = .ok (.astore_n 2, 1) := by decide +kernel
theorem dL_law_16 : decode cL_law 16 = .ok (.iconst 0, 1) := by decide +kernel
theorem dL_law_17 : decode cL_law 17 = .ok (.istore_n 3, 1) := by decide +kernel
theorem dL_law_18 : decode cL_law 18 = .ok (.iload_n 3, 1) := by decide +kernel
theorem dL_law_19 : decode cL_law 19 = .ok (.aload_n 0, 1) := by decide +kernel
theorem dL_law_20 : decode cL_law 20 = .ok (.arraylength, 1) := by decide +kernel
theorem dL_law_21 : decode cL_law 21 = .ok (.bipush 6, 2) := by decide +kernel
theorem dL_law_23 : decode cL_law 23 = .ok (.isub, 1) := by decide +kernel
theorem dL_law_24 : decode cL_law 24 = .ok (.if_icmp .gt 1587, 3) := by decide +kernel
theorem dL_law_27 : decode cL_law 27 = .ok (.aload_n 0, 1) := by decide +kernel
theorem dL_law_28 : decode cL_law 28 = .ok (.iload_n 3, 1) := by decide +kernel
theorem dL_law_29 : decode cL_law 29 = .ok (.iaload, 1) := by decide +kernel
theorem dL_law_30 : decode cL_law 30 = .ok (.bipush 63, 2) := by decide +kernel
theorem dL_law_32 : decode cL_law 32 = .ok (.iand, 1) := by decide +kernel
theorem dL_law_33 : decode cL_law 33 = .ok (.tableswitch 1572 0 50 #[219, 252, 285, 318, 341, 374, 407, 450, 493, 516, 549, 572, 595, 618, 651, 664, 687, 710, 733, 756, 789, 812, 835, 858, 881, 914, 927, 950, 973, 1006, 1019, 1032, 1055, 1078, 1111, 1124, 1147, 1180, 1193, 1206, 1239, 1272, 1315, 1358, 1421, 1454, 1487, 1500, 1513, 1526, 1549], 219) := by decide +kernel
theorem dL_law_252 : decode cL_law 252 = .ok (.aload_n 1, 1) := by decide +kernel
theorem dL_law_253 : decode cL_law 253 = .ok (.aload_n 0, 1) := by decide +kernel
theorem dL_law_254 : decode cL_law 254 = .ok (.iload_n 3, 1) := by decide +kernel
theorem dL_law_255 : decode cL_law 255 = .ok (.iconst 1, 1) := by decide +kernel
theorem dL_law_256 : decode cL_law 256 = .ok (.iadd, 1) := by decide +kernel
theorem dL_law_257 : decode cL_law 257 = .ok (.iaload, 1) := by decide +kernel
theorem dL_law_258 : decode cL_law 258 = .ok (.aload_n 0, 1) := by decide +kernel
theorem dL_law_259 : decode cL_law 259 = .ok (.iload_n 3, 1) := by decide +kernel
theorem dL_law_260 : decode cL_law 260 = .ok (.iconst 2, 1) := by decide +kernel
theorem dL_law_261 : decode cL_law 261 = .ok (.iadd, 1) := by decide +kernel
theorem dL_law_262 : decode cL_law 262 = .ok (.iaload, 1) := by decide +kernel
theorem dL_law_263 : decode cL_law 263 = .ok (.invokevirtual 13, 3) := by decide +kernel
theorem dL_law_266 : decode cL_law 266 = .ok (.aload_n 2, 1) := by decide +kernel
theorem dL_law_267 : decode cL_law 267 = .ok (.aload_n 0, 1) := by decide +kernel
theorem dL_law_268 : decode cL_law 268 = .ok (.iload_n 3, 1) := by decide +kernel
theorem dL_law_269 : decode cL_law 269 = .ok (.iconst 1, 1) := by decide +kernel
theorem dL_law_270 : decode cL_law 270 = .ok (.iadd, 1) := by decide +kernel
theorem dL_law_271 : decode cL_law 271 = .ok (.iaload, 1) := by decide +kernel
theorem dL_law_272 : decode cL_law 272 = .ok (.aload_n 0, 1) := by decide +kernel
theorem dL_law_273 : decode cL_law 273 = .ok (.iload_n 3, 1) := by decide +kernel
theorem dL_law_274 : decode cL_law 274 = .ok (.iconst 2, 1) := by decide +kernel
theorem dL_law_275 : decode cL_law 275 = .ok (.iadd, 1) := by decide +kernel
theorem dL_law_276 : decode cL_law 276 = .ok (.iaload, 1) := by decide +kernel
theorem dL_law_277 : decode cL_law 277 = .ok (.invokevirtual 17, 3) := by decide +kernel
theorem dL_law_280 : decode cL_law 280 = .ok (.if_icmp .eq 1325, 3) := by decide +kernel
theorem dL_law_283 : decode cL_law 283 = .ok (.iconst 0, 1) := by decide +kernel
theorem dL_law_284 : decode cL_law 284 = .ok (.ireturn, 1) := by decide +kernel
theorem dL_law_285 : decode cL_law 285 = .ok (.aload_n 1, 1) := by decide +kernel
theorem dL_law_286 : decode cL_law 286 = .ok (.aload_n 0, 1) := by decide +kernel
theorem dL_law_287 : decode cL_law 287 = .ok (.iload_n 3, 1) := by decide +kernel
theorem dL_law_288 : decode cL_law 288 = .ok (.iconst 1, 1) := by decide +kernel
theorem dL_law_289 : decode cL_law 289 = .ok (.iadd, 1) := by decide +kernel
theorem dL_law_290 : decode cL_law 290 = .ok (.iaload, 1) := by decide +kernel
theorem dL_law_291 : decode cL_law 291 = .ok (.aload_n 0, 1) := by decide +kernel
theorem dL_law_292 : decode cL_law 292 = .ok (.iload_n 3, 1) := by decide +kernel
theorem dL_law_293 : decode cL_law 293 = .ok (.iconst 2, 1) := by decide +kernel
theorem dL_law_294 : decode cL_law 294 = .ok (.iadd, 1) := by decide +kernel
theorem dL_law_295 : decode cL_law 295 = .ok (.iaload, 1) := by decide +kernel
theorem dL_law_296 : decode cL_law 296 = .ok (.invokevirtual 18, 3) := by decide +kernel
theorem dL_law_299 : decode cL_law 299 = .ok (.aload_n 2, 1) := by decide +kernel
theorem dL_law_300 : decode cL_law 300 = .ok (.aload_n 0, 1) := by decide +kernel
theorem dL_law_301 : decode cL_law 301 = .ok (.iload_n 3, 1) := by decide +kernel
theorem dL_law_302 : decode cL_law 302 = .ok (.iconst 1, 1) := by decide +kernel
theorem dL_law_303 : decode cL_law 303 = .ok (.iadd, 1) := by decide +kernel
theorem dL_law_304 : decode cL_law 304 = .ok (.iaload, 1) := by decide +kernel
theorem dL_law_305 : decode cL_law 305 = .ok (.aload_n 0, 1) := by decide +kernel
theorem dL_law_306 : decode cL_law 306 = .ok (.iload_n 3, 1) := by decide +kernel
theorem dL_law_307 : decode cL_law 307 = .ok (.iconst 2, 1) := by decide +kernel
theorem dL_law_308 : decode cL_law 308 = .ok (.iadd, 1) := by decide +kernel
theorem dL_law_309 : decode cL_law 309 = .ok (.iaload, 1) := by decide +kernel
theorem dL_law_310 : decode cL_law 310 = .ok (.invokevirtual 21, 3) := by decide +kernel
theorem dL_law_313 : decode cL_law 313 = .ok (.if_icmp .eq 1292, 3) := by decide +kernel
theorem dL_law_316 : decode cL_law 316 = .ok (.iconst 0, 1) := by decide +kernel
theorem dL_law_317 : decode cL_law 317 = .ok (.ireturn, 1) := by decide +kernel
theorem dL_law_318 : decode cL_law 318 = .ok (.aload_n 1, 1) := by decide +kernel
theorem dL_law_319 : decode cL_law 319 = .ok (.aload_n 0, 1) := by decide +kernel
theorem dL_law_320 : decode cL_law 320 = .ok (.iload_n 3, 1) := by decide +kernel
theorem dL_law_321 : decode cL_law 321 = .ok (.iconst 1, 1) := by decide +kernel
theorem dL_law_322 : decode cL_law 322 = .ok (.iadd, 1) := by decide +kernel
theorem dL_law_323 : decode cL_law 323 = .ok (.iaload, 1) := by decide +kernel
theorem dL_law_324 : decode cL_law 324 = .ok (.aload_n 0, 1) := by decide +kernel
theorem dL_law_325 : decode cL_law 325 = .ok (.iload_n 3, 1) := by decide +kernel
theorem dL_law_326 : decode cL_law 326 = .ok (.iconst 2, 1) := by decide +kernel
theorem dL_law_327 : decode cL_law 327 = .ok (.iadd, 1) := by decide +kernel
theorem dL_law_328 : decode cL_law 328 = .ok (.iaload, 1) := by decide +kernel
theorem dL_law_329 : decode cL_law 329 = .ok (.invokevirtual 22, 3) := by decide +kernel
theorem dL_law_332 : decode cL_law 332 = .ok (.aload_n 2, 1) := by decide +kernel
theorem dL_law_333 : decode cL_law 333 = .ok (.aload_n 0, 1) := by decide +kernel
theorem dL_law_334 : decode cL_law 334 = .ok (.iload_n 3, 1) := by decide +kernel
theorem dL_law_335 : decode cL_law 335 = .ok (.iconst 1, 1) := by decide +kernel
theorem dL_law_336 : decode cL_law 336 = .ok (.iadd, 1) := by decide +kernel
theorem dL_law_337 : decode cL_law 337 = .ok (.iaload, 1) := by decide +kernel
theorem dL_law_338 : decode cL_law 338 = .ok (.aload_n 0, 1) := by decide +kernel
theorem dL_law_339 : decode cL_law 339 = .ok (.iload_n 3, 1) := by decide +kernel
theorem dL_law_340 : decode cL_law 340 = .ok (.iconst 2, 1) := by decide +kernel
theorem dL_law_341 : decode cL_law 341 = .ok (.iadd, 1) := by decide +kernel
theorem dL_law_342 : decode cL_law 342 = .ok (.iaload, 1) := by decide +kernel
theorem dL_law_343 : decode cL_law 343 = .ok (.invokevirtual 25, 3) := by decide +kernel
theorem dL_law_346 : decode cL_law 346 = .ok (.if_icmp .eq 1259, 3) := by decide +kernel
theorem dL_law_349 : decode cL_law 349 = .ok (.iconst 0, 1) := by decide +kernel
theorem dL_law_350 : decode cL_law 350 = .ok (.ireturn, 1) := by decide +kernel
theorem dL_law_351 : decode cL_law 351 = .ok (.aload_n 1, 1) := by decide +kernel
theorem dL_law_352 : decode cL_law 352 = .ok (.aload_n 0, 1) := by decide +kernel
theorem dL_law_353 : decode cL_law 353 = .ok (.iload_n 3, 1) := by decide +kernel
theorem dL_law_354 : decode cL_law 354 = .ok (.iconst 1, 1) := by decide +kernel
theorem dL_law_355 : decode cL_law 355 = .ok (.iadd, 1) := by decide +kernel
theorem dL_law_356 : decode cL_law 356 = .ok (.iaload, 1) := by decide +kernel
theorem dL_law_357 : decode cL_law 357 = .ok (.invokevirtual 26, 3) := by decide +kernel
theorem dL_law_360 : decode cL_law 360 = .ok (.aload_n 2, 1) := by decide +kernel
theorem dL_law_361 : decode cL_law 361 = .ok (.aload_n 0, 1) := by decide +kernel
theorem dL_law_362 : decode cL_law 362 = .ok (.iload_n 3, 1) := by decide +kernel
theorem dL_law_363 : decode cL_law 363 = .ok (.iconst 1, 1) := by decide +kernel
theorem dL_law_364 : decode cL_law 364 = .ok (.iadd, 1) := by decide +kernel
theorem dL_law_365 : decode cL_law 365 = .ok (.iaload, 1) := by decide +kernel
theorem dL_law_366 : decode cL_law 366 = .ok (.invokevirtual 30, 3) := by decide +kernel
theorem dL_law_369 : decode cL_law 369 = .ok (.if_icmp .eq 1236, 3) := by decide +kernel
theorem dL_law_372 : decode cL_law 372 = .ok (.iconst 0, 1) := by decide +kernel
theorem dL_law_373 : decode cL_law 373 = .ok (.ireturn, 1) := by decide +kernel
theorem dL_law_374 : decode cL_law 374 = .ok (.aload_n 1, 1) := by decide +kernel
theorem dL_law_375 : decode cL_law 375 = .ok (.aload_n 0, 1) := by decide +kernel
theorem dL_law_376 : decode cL_law 376 = .ok (.iload_n 3, 1) := by decide +kernel
theorem dL_law_377 : decode cL_law 377 = .ok (.iconst 1, 1) := by decide +kernel
theorem dL_law_378 : decode cL_law 378 = .ok (.iadd, 1) := by decide +kernel
theorem dL_law_379 : decode cL_law 379 = .ok (.iaload, 1) := by decide +kernel
theorem dL_law_380 : decode cL_law 380 = .ok (.aload_n 0, 1) := by decide +kernel
theorem dL_law_381 : decode cL_law 381 = .ok (.iload_n 3, 1) := by decide +kernel
theorem dL_law_382 : decode cL_law 382 = .ok (.iconst 2, 1) := by decide +kernel
theorem dL_law_383 : decode cL_law 383 = .ok (.iadd, 1) := by decide +kernel
theorem dL_law_384 : decode cL_law 384 = .ok (.iaload, 1) := by decide +kernel
theorem dL_law_385 : decode cL_law 385 = .ok (.invokevirtual 31, 3) := by decide +kernel
theorem dL_law_388 : decode cL_law 388 = .ok (.aload_n 2, 1) := by decide +kernel
theorem dL_law_389 : decode cL_law 389 = .ok (.aload_n 0, 1) := by decide +kernel
theorem dL_law_390 : decode cL_law 390 = .ok (.iload_n 3, 1) := by decide +kernel
theorem dL_law_391 : decode cL_law 391 = .ok (.iconst 1, 1) := by decide +kernel
theorem dL_law_392 : decode cL_law 392 = .ok (.iadd, 1) := by decide +kernel
theorem dL_law_393 : decode cL_law 393 = .ok (.iaload, 1) := by decide +kernel
theorem dL_law_394 : decode cL_law 394 = .ok (.aload_n 0, 1) := by decide +kernel
theorem dL_law_395 : decode cL_law 395 = .ok (.iload_n 3, 1) := by decide +kernel
theorem dL_law_396 : decode cL_law 396 = .ok (.iconst 2, 1) := by decide +kernel
theorem dL_law_397 : decode cL_law 397 = .ok (.iadd, 1) := by decide +kernel
theorem dL_law_398 : decode cL_law 398 = .ok (.iaload, 1) := by decide +kernel
theorem dL_law_399 : decode cL_law 399 = .ok (.invokevirtual 34, 3) := by decide +kernel
theorem dL_law_402 : decode cL_law 402 = .ok (.if_icmp .eq 1203, 3) := by decide +kernel
theorem dL_law_405 : decode cL_law 405 = .ok (.iconst 0, 1) := by decide +kernel
theorem dL_law_406 : decode cL_law 406 = .ok (.ireturn, 1) := by decide +kernel
theorem dL_law_407 : decode cL_law 407 = .ok (.aload_n 1, 1) := by decide +kernel
theorem dL_law_408 : decode cL_law 408 = .ok (.aload_n 0, 1) := by decide +kernel
theorem dL_law_409 : decode cL_law 409 = .ok (.iload_n 3, 1) := by decide +kernel
theorem dL_law_410 : decode cL_law 410 = .ok (.iconst 1, 1) := by decide +kernel
theorem dL_law_411 : decode cL_law 411 = .ok (.iadd, 1) := by decide +kernel
theorem dL_law_412 : decode cL_law 412 = .ok (.iaload, 1) := by decide +kernel
theorem dL_law_413 : decode cL_law 413 = .ok (.aload_n 0, 1) := by decide +kernel
theorem dL_law_414 : decode cL_law 414 = .ok (.iload_n 3, 1) := by decide +kernel
theorem dL_law_415 : decode cL_law 415 = .ok (.iconst 2, 1) := by decide +kernel
theorem dL_law_416 : decode cL_law 416 = .ok (.iadd, 1) := by decide +kernel
theorem dL_law_417 : decode cL_law 417 = .ok (.iaload, 1) := by decide +kernel
theorem dL_law_418 : decode cL_law 418 = .ok (.invokevirtual 35, 3) := by decide +kernel
theorem dL_law_421 : decode cL_law 421 = .ok (.aload_n 2, 1) := by decide +kernel
theorem dL_law_422 : decode cL_law 422 = .ok (.aload_n 0, 1) := by decide +kernel
theorem dL_law_423 : decode cL_law 423 = .ok (.iload_n 3, 1) := by decide +kernel
theorem dL_law_424 : decode cL_law 424 = .ok (.iconst 1, 1) := by decide +kernel
theorem dL_law_425 : decode cL_law 425 = .ok (.iadd, 1) := by decide +kernel
theorem dL_law_426 : decode cL_law 426 = .ok (.iaload, 1) := by decide +kernel
theorem dL_law_427 : decode cL_law 427 = .ok (.aload_n 0, 1) := by decide +kernel
theorem dL_law_428 : decode cL_law 428 = .ok (.iload_n 3, 1) := by decide +kernel
theorem dL_law_429 : decode cL_law 429 = .ok (.iconst 2, 1) := by decide +kernel
theorem dL_law_430 : decode cL_law 430 = .ok (.iadd, 1) := by decide +kernel
theorem dL_law_431 : decode cL_law 431 = .ok (.iaload, 1) := by decide +kernel
theorem dL_law_432 : decode cL_law 432 = .ok (.invokevirtual 38, 3) := by decide +kernel
theorem dL_law_435 : decode cL_law 435 = .ok (.if_icmp .eq 1170, 3) := by decide +kernel
theorem dL_law_438 : decode cL_law 438 = .ok (.iconst 0, 1) := by decide +kernel
theorem dL_law_439 : decode cL_law 439 = .ok (.ireturn, 1) := by decide +kernel
theorem dL_law_440 : decode cL_law 440 = .ok (.aload_n 1, 1) := by decide +kernel
theorem dL_law_441 : decode cL_law 441 = .ok (.aload_n 0, 1) := by decide +kernel
theorem dL_law_442 : decode cL_law 442 = .ok (.iload_n 3, 1) := by decide +kernel
theorem dL_law_443 : decode cL_law 443 = .ok (.iconst 1, 1) := by decide +kernel
theorem dL_law_444 : decode cL_law 444 = .ok (.iadd, 1) := by decide +kernel
theorem dL_law_445 : decode cL_law 445 = .ok (.iaload, 1) := by decide +kernel
theorem dL_law_446 : decode cL_law 446 = .ok (.aload_n 0, 1) := by decide +kernel
theorem dL_law_447 : decode cL_law 447 = .ok (.iload_n 3, 1) := by decide +kernel
theorem dL_law_448 : decode cL_law 448 = .ok (.iconst 2, 1) := by decide +kernel
theorem dL_law_449 : decode cL_law 449 = .ok (.iadd, 1) := by decide +kernel
theorem dL_law_450 : decode cL_law 450 = .ok (.iaload, 1) := by decide +kernel
theorem dL_law_451 : decode cL_law 451 = .ok (.aload_n 0, 1) := by decide +kernel
theorem dL_law_452 : decode cL_law 452 = .ok (.iload_n 3, 1) := by decide +kernel
theorem dL_law_453 : decode cL_law 453 = .ok (.iconst 3, 1) := by decide +kernel
theorem dL_law_454 : decode cL_law 454 = .ok (.iadd, 1) := by decide +kernel
theorem dL_law_455 : decode cL_law 455 = .ok (.iaload, 1) := by decide +kernel
theorem dL_law_456 : decode cL_law 456 = .ok (.invokevirtual 39, 3) := by decide +kernel
theorem dL_law_459 : decode cL_law 459 = .ok (.aload_n 2, 1) := by decide +kernel
theorem dL_law_460 : decode cL_law 460 = .ok (.aload_n 0, 1) := by decide +kernel
theorem dL_law_461 : decode cL_law 461 = .ok (.iload_n 3, 1) := by decide +kernel
theorem dL_law_462 : decode cL_law 462 = .ok (.iconst 1, 1) := by decide +kernel
theorem dL_law_463 : decode cL_law 463 = .ok (.iadd, 1) := by decide +kernel
theorem dL_law_464 : decode cL_law 464 = .ok (.iaload, 1) := by decide +kernel
theorem dL_law_465 : decode cL_law 465 = .ok (.aload_n 0, 1) := by decide +kernel
theorem dL_law_466 : decode cL_law 466 = .ok (.iload_n 3, 1) := by decide +kernel
theorem dL_law_467 : decode cL_law 467 = .ok (.iconst 2, 1) := by decide +kernel
theorem dL_law_468 : decode cL_law 468 = .ok (.iadd, 1) := by decide +kernel
theorem dL_law_469 : decode cL_law 469 = .ok (.iaload, 1) := by decide +kernel
theorem dL_law_470 : decode cL_law 470 = .ok (.aload_n 0, 1) := by decide +kernel
theorem dL_law_471 : decode cL_law 471 = .ok (.iload_n 3, 1) := by decide +kernel
theorem dL_law_472 : decode cL_law 472 = .ok (.iconst 3, 1) := by decide +kernel
theorem dL_law_473 : decode cL_law 473 = .ok (.iadd, 1) := by decide +kernel
theorem dL_law_474 : decode cL_law 474 = .ok (.iaload, 1) := by decide +kernel
theorem dL_law_475 : decode cL_law 475 = .ok (.invokevirtual 43, 3) := by decide +kernel
theorem dL_law_478 : decode cL_law 478 = .ok (.if_icmp .eq 1127, 3) := by decide +kernel
theorem dL_law_481 : decode cL_law 481 = .ok (.iconst 0, 1) := by decide +kernel
theorem dL_law_482 : decode cL_law 482 = .ok (.ireturn, 1) := by decide +kernel
theorem dL_law_483 : decode cL_law 483 = .ok (.aload_n 1, 1) := by decide +kernel
theorem dL_law_484 : decode cL_law 484 = .ok (.aload_n 0, 1) := by decide +kernel
theorem dL_law_485 : decode cL_law 485 = .ok (.iload_n 3, 1) := by decide +kernel
theorem dL_law_486 : decode cL_law 486 = .ok (.iconst 1, 1) := by decide +kernel
theorem dL_law_487 : decode cL_law 487 = .ok (.iadd, 1) := by decide +kernel
theorem dL_law_488 : decode cL_law 488 = .ok (.iaload, 1) := by decide +kernel
theorem dL_law_489 : decode cL_law 489 = .ok (.aload_n 0, 1) := by decide +kernel
theorem dL_law_490 : decode cL_law 490 = .ok (.iload_n 3, 1) := by decide +kernel
theorem dL_law_491 : decode cL_law 491 = .ok (.iconst 2, 1) := by decide +kernel
theorem dL_law_492 : decode cL_law 492 = .ok (.iadd, 1) := by decide +kernel
theorem dL_law_493 : decode cL_law 493 = .ok (.iaload, 1) := by decide +kernel
theorem dL_law_494 : decode cL_law 494 = .ok (.aload_n 0, 1) := by decide +kernel
theorem dL_law_495 : decode cL_law 495 = .ok (.iload_n 3, 1) := by decide +kernel
theorem dL_law_496 : decode cL_law 496 = .ok (.iconst 3, 1) := by decide +kernel
theorem dL_law_497 : decode cL_law 497 = .ok (.iadd, 1) := by decide +kernel
theorem dL_law_498 : decode cL_law 498 = .ok (.iaload, 1) := by decide +kernel
theorem dL_law_499 : decode cL_law 499 = .ok (.invokevirtual 44, 3) := by decide +kernel
theorem dL_law_502 : decode cL_law 502 = .ok (.aload_n 2, 1) := by decide +kernel
theorem dL_law_503 : decode cL_law 503 = .ok (.aload_n 0, 1) := by decide +kernel
theorem dL_law_504 : decode cL_law 504 = .ok (.iload_n 3, 1) := by decide +kernel
theorem dL_law_505 : decode cL_law 505 = .ok (.iconst 1, 1) := by decide +kernel
theorem dL_law_506 : decode cL_law 506 = .ok (.iadd, 1) := by decide +kernel
theorem dL_law_507 : decode cL_law 507 = .ok (.iaload, 1) := by decide +kernel
theorem dL_law_508 : decode cL_law 508 = .ok (.aload_n 0, 1) := by decide +kernel
theorem dL_law_509 : decode cL_law 509 = .ok (.iload_n 3, 1) := by decide +kernel
theorem dL_law_510 : decode cL_law 510 = .ok (.iconst 2, 1) := by decide +kernel
theorem dL_law_511 : decode cL_law 511 = .ok (.iadd, 1) := by decide +kernel
theorem dL_law_512 : decode cL_law 512 = .ok (.iaload, 1) := by decide +kernel
theorem dL_law_513 : decode cL_law 513 = .ok (.aload_n 0, 1) := by decide +kernel
theorem dL_law_514 : decode cL_law 514 = .ok (.iload_n 3, 1) := by decide +kernel
theorem dL_law_515 : decode cL_law 515 = .ok (.iconst 3, 1) := by decide +kernel
theorem dL_law_516 : decode cL_law 516 = .ok (.iadd, 1) := by decide +kernel
theorem dL_law_517 : decode cL_law 517 = .ok (.iaload, 1) := by decide +kernel
theorem dL_law_518 : decode cL_law 518 = .ok (.invokevirtual 47, 3) := by decide +kernel
theorem dL_law_521 : decode cL_law 521 = .ok (.if_icmp .eq 1084, 3) := by decide +kernel
theorem dL_law_524 : decode cL_law 524 = .ok (.iconst 0, 1) := by decide +kernel
theorem dL_law_525 : decode cL_law 525 = .ok (.ireturn, 1) := by decide +kernel
theorem dL_law_526 : decode cL_law 526 = .ok (.aload_n 1, 1) := by decide +kernel
theorem dL_law_527 : decode cL_law 527 = .ok (.aload_n 0, 1) := by decide +kernel
theorem dL_law_528 : decode cL_law 528 = .ok (.iload_n 3, 1) := by decide +kernel
theorem dL_law_529 : decode cL_law 529 = .ok (.iconst 1, 1) := by decide +kernel
theorem dL_law_530 : decode cL_law 530 = .ok (.iadd, 1) := by decide +kernel
theorem dL_law_531 : decode cL_law 531 = .ok (.iaload, 1) := by decide +kernel
theorem dL_law_532 : decode cL_law 532 = .ok (.invokevirtual 48, 3) := by decide +kernel
theorem dL_law_535 : decode cL_law 535 = .ok (.aload_n 2, 1) := by decide +kernel
theorem dL_law_536 : decode cL_law 536 = .ok (.aload_n 0, 1) := by decide +kernel
theorem dL_law_537 : decode cL_law 537 = .ok (.iload_n 3, 1) := by decide +kernel
theorem dL_law_538 : decode cL_law 538 = .ok (.iconst 1, 1) := by decide +kernel
theorem dL_law_539 : decode cL_law 539 = .ok (.iadd, 1) := by decide +kernel
theorem dL_law_540 : decode cL_law 540 = .ok (.iaload, 1) := by decide +kernel
theorem dL_law_541 : decode cL_law 541 = .ok (.invokevirtual 51, 3) := by decide +kernel
theorem dL_law_544 : decode cL_law 544 = .ok (.if_icmp .eq 1061, 3) := by decide +kernel
theorem dL_law_547 : decode cL_law 547 = .ok (.iconst 0, 1) := by decide +kernel
theorem dL_law_548 : decode cL_law 548 = .ok (.ireturn, 1) := by decide +kernel
theorem dL_law_549 : decode cL_law 549 = .ok (.aload_n 1, 1) := by decide +kernel
theorem dL_law_550 : decode cL_law 550 = .ok (.aload_n 0, 1) := by decide +kernel
theorem dL_law_551 : decode cL_law 551 = .ok (.iload_n 3, 1) := by decide +kernel
theorem dL_law_552 : decode cL_law 552 = .ok (.iconst 1, 1) := by decide +kernel
theorem dL_law_553 : decode cL_law 553 = .ok (.iadd, 1) := by decide +kernel
theorem dL_law_554 : decode cL_law 554 = .ok (.iaload, 1) := by decide +kernel
theorem dL_law_555 : decode cL_law 555 = .ok (.aload_n 0, 1) := by decide +kernel
theorem dL_law_556 : decode cL_law 556 = .ok (.iload_n 3, 1) := by decide +kernel
theorem dL_law_557 : decode cL_law 557 = .ok (.iconst 2, 1) := by decide +kernel
theorem dL_law_558 : decode cL_law 558 = .ok (.iadd, 1) := by decide +kernel
theorem dL_law_559 : decode cL_law 559 = .ok (.iaload, 1) := by decide +kernel
theorem dL_law_560 : decode cL_law 560 = .ok (.invokevirtual 52, 3) := by decide +kernel
theorem dL_law_563 : decode cL_law 563 = .ok (.aload_n 2, 1) := by decide +kernel
theorem dL_law_564 : decode cL_law 564 = .ok (.aload_n 0, 1) := by decide +kernel
theorem dL_law_565 : decode cL_law 565 = .ok (.iload_n 3, 1) := by decide +kernel
theorem dL_law_566 : decode cL_law 566 = .ok (.iconst 1, 1) := by decide +kernel
theorem dL_law_567 : decode cL_law 567 = .ok (.iadd, 1) := by decide +kernel
theorem dL_law_568 : decode cL_law 568 = .ok (.iaload, 1) := by decide +kernel
theorem dL_law_569 : decode cL_law 569 = .ok (.aload_n 0, 1) := by decide +kernel
theorem dL_law_570 : decode cL_law 570 = .ok (.iload_n 3, 1) := by decide +kernel
theorem dL_law_571 : decode cL_law 571 = .ok (.iconst 2, 1) := by decide +kernel
theorem dL_law_572 : decode cL_law 572 = .ok (.iadd, 1) := by decide +kernel
theorem dL_law_573 : decode cL_law 573 = .ok (.iaload, 1) := by decide +kernel
theorem dL_law_574 : decode cL_law 574 = .ok (.invokevirtual 55, 3) := by decide +kernel
theorem dL_law_577 : decode cL_law 577 = .ok (.if_icmp .eq 1028, 3) := by decide +kernel
theorem dL_law_580 : decode cL_law 580 = .ok (.iconst 0, 1) := by decide +kernel
theorem dL_law_581 : decode cL_law 581 = .ok (.ireturn, 1) := by decide +kernel
theorem dL_law_582 : decode cL_law 582 = .ok (.aload_n 1, 1) := by decide +kernel
theorem dL_law_583 : decode cL_law 583 = .ok (.aload_n 0, 1) := by decide +kernel
theorem dL_law_584 : decode cL_law 584 = .ok (.iload_n 3, 1) := by decide +kernel
theorem dL_law_585 : decode cL_law 585 = .ok (.iconst 1, 1) := by decide +kernel
theorem dL_law_586 : decode cL_law 586 = .ok (.iadd, 1) := by decide +kernel
theorem dL_law_587 : decode cL_law 587 = .ok (.iaload, 1) := by decide +kernel
theorem dL_law_588 : decode cL_law 588 = .ok (.invokevirtual 56, 3) := by decide +kernel
theorem dL_law_591 : decode cL_law 591 = .ok (.aload_n 2, 1) := by decide +kernel
theorem dL_law_592 : decode cL_law 592 = .ok (.aload_n 0, 1) := by decide +kernel
theorem dL_law_593 : decode cL_law 593 = .ok (.iload_n 3, 1) := by decide +kernel
theorem dL_law_594 : decode cL_law 594 = .ok (.iconst 1, 1) := by decide +kernel
theorem dL_law_595 : decode cL_law 595 = .ok (.iadd, 1) := by decide +kernel
theorem dL_law_596 : decode cL_law 596 = .ok (.iaload, 1) := by decide +kernel
theorem dL_law_597 : decode cL_law 597 = .ok (.invokevirtual 59, 3) := by decide +kernel
theorem dL_law_600 : decode cL_law 600 = .ok (.if_icmp .eq 1005, 3) := by decide +kernel
theorem dL_law_603 : decode cL_law 603 = .ok (.iconst 0, 1) := by decide +kernel
theorem dL_law_604 : decode cL_law 604 = .ok (.ireturn, 1) := by decide +kernel
theorem dL_law_605 : decode cL_law 605 = .ok (.aload_n 1, 1) := by decide +kernel
theorem dL_law_606 : decode cL_law 606 = .ok (.aload_n 0, 1) := by decide +kernel
theorem dL_law_607 : decode cL_law 607 = .ok (.iload_n 3, 1) := by decide +kernel
theorem dL_law_608 : decode cL_law 608 = .ok (.iconst 1, 1) := by decide +kernel
theorem dL_law_609 : decode cL_law 609 = .ok (.iadd, 1) := by decide +kernel
theorem dL_law_610 : decode cL_law 610 = .ok (.iaload, 1) := by decide +kernel
theorem dL_law_611 : decode cL_law 611 = .ok (.invokevirtual 60, 3) := by decide +kernel
theorem dL_law_614 : decode cL_law 614 = .ok (.aload_n 2, 1) := by decide +kernel
theorem dL_law_615 : decode cL_law 615 = .ok (.aload_n 0, 1) := by decide +kernel
theorem dL_law_616 : decode cL_law 616 = .ok (.iload_n 3, 1) := by decide +kernel
theorem dL_law_617 : decode cL_law 617 = .ok (.iconst 1, 1) := by decide +kernel
theorem dL_law_618 : decode cL_law 618 = .ok (.iadd, 1) := by decide +kernel
theorem dL_law_619 : decode cL_law 619 = .ok (.iaload, 1) := by decide +kernel
theorem dL_law_620 : decode cL_law 620 = .ok (.invokevirtual 63, 3) := by decide +kernel
theorem dL_law_623 : decode cL_law 623 = .ok (.if_icmp .eq 982, 3) := by decide +kernel
theorem dL_law_626 : decode cL_law 626 = .ok (.iconst 0, 1) := by decide +kernel
theorem dL_law_627 : decode cL_law 627 = .ok (.ireturn, 1) := by decide +kernel
theorem dL_law_628 : decode cL_law 628 = .ok (.aload_n 1, 1) := by decide +kernel
theorem dL_law_629 : decode cL_law 629 = .ok (.aload_n 0, 1) := by decide +kernel
theorem dL_law_630 : decode cL_law 630 = .ok (.iload_n 3, 1) := by decide +kernel
theorem dL_law_631 : decode cL_law 631 = .ok (.iconst 1, 1) := by decide +kernel
theorem dL_law_632 : decode cL_law 632 = .ok (.iadd, 1) := by decide +kernel
theorem dL_law_633 : decode cL_law 633 = .ok (.iaload, 1) := by decide +kernel
theorem dL_law_634 : decode cL_law 634 = .ok (.invokevirtual 64, 3) := by decide +kernel
theorem dL_law_637 : decode cL_law 637 = .ok (.aload_n 2, 1) := by decide +kernel
theorem dL_law_638 : decode cL_law 638 = .ok (.aload_n 0, 1) := by decide +kernel
theorem dL_law_639 : decode cL_law 639 = .ok (.iload_n 3, 1) := by decide +kernel
theorem dL_law_640 : decode cL_law 640 = .ok (.iconst 1, 1) := by decide +kernel
theorem dL_law_641 : decode cL_law 641 = .ok (.iadd, 1) := by decide +kernel
theorem dL_law_642 : decode cL_law 642 = .ok (.iaload, 1) := by decide +kernel
theorem dL_law_643 : decode cL_law 643 = .ok (.invokevirtual 67, 3) := by decide +kernel
theorem dL_law_646 : decode cL_law 646 = .ok (.if_icmp .eq 959, 3) := by decide +kernel
theorem dL_law_649 : decode cL_law 649 = .ok (.iconst 0, 1) := by decide +kernel
theorem dL_law_650 : decode cL_law 650 = .ok (.ireturn, 1) := by decide +kernel
theorem dL_law_651 : decode cL_law 651 = .ok (.aload_n 1, 1) := by decide +kernel
theorem dL_law_652 : decode cL_law 652 = .ok (.aload_n 0, 1) := by decide +kernel
theorem dL_law_653 : decode cL_law 653 = .ok (.iload_n 3, 1) := by decide +kernel
theorem dL_law_654 : decode cL_law 654 = .ok (.iconst 1, 1) := by decide +kernel
theorem dL_law_655 : decode cL_law 655 = .ok (.iadd, 1) := by decide +kernel
theorem dL_law_656 : decode cL_law 656 = .ok (.iaload, 1) := by decide +kernel
theorem dL_law_657 : decode cL_law 657 = .ok (.aload_n 0, 1) := by decide +kernel
theorem dL_law_658 : decode cL_law 658 = .ok (.iload_n 3, 1) := by decide +kernel
theorem dL_law_659 : decode cL_law 659 = .ok (.iconst 2, 1) := by decide +kernel
theorem dL_law_660 : decode cL_law 660 = .ok (.iadd, 1) := by decide +kernel
theorem dL_law_661 : decode cL_law 661 = .ok (.iaload, 1) := by decide +kernel
theorem dL_law_662 : decode cL_law 662 = .ok (.invokevirtual 68, 3) := by decide +kernel
theorem dL_law_665 : decode cL_law 665 = .ok (.aload_n 2, 1) := by decide +kernel
theorem dL_law_666 : decode cL_law 666 = .ok (.aload_n 0, 1) := by decide +kernel
theorem dL_law_667 : decode cL_law 667 = .ok (.iload_n 3, 1) := by decide +kernel
theorem dL_law_668 : decode cL_law 668 = .ok (.iconst 1, 1) := by decide +kernel
theorem dL_law_669 : decode cL_law 669 = .ok (.iadd, 1) := by decide +kernel
theorem dL_law_670 : decode cL_law 670 = .ok (.iaload, 1) := by decide +kernel
theorem dL_law_671 : decode cL_law 671 = .ok (.aload_n 0, 1) := by decide +kernel
theorem dL_law_672 : decode cL_law 672 = .ok (.iload_n 3, 1) := by decide +kernel
theorem dL_law_673 : decode cL_law 673 = .ok (.iconst 2, 1) := by decide +kernel
theorem dL_law_674 : decode cL_law 674 = .ok (.iadd, 1) := by decide +kernel
theorem dL_law_675 : decode cL_law 675 = .ok (.iaload, 1) := by decide +kernel
theorem dL_law_676 : decode cL_law 676 = .ok (.invokevirtual 71, 3) := by decide +kernel
theorem dL_law_679 : decode cL_law 679 = .ok (.if_icmp .eq 926, 3) := by decide +kernel
theorem dL_law_682 : decode cL_law 682 = .ok (.iconst 0, 1) := by decide +kernel
theorem dL_law_683 : decode cL_law 683 = .ok (.ireturn, 1) := by decide +kernel
theorem dL_law_684 : decode cL_law 684 = .ok (.aload_n 1, 1) := by decide +kernel
theorem dL_law_685 : decode cL_law 685 = .ok (.invokevirtual 72, 3) := by decide +kernel
theorem dL_law_688 : decode cL_law 688 = .ok (.aload_n 2, 1) := by decide +kernel
theorem dL_law_689 : decode cL_law 689 = .ok (.invokevirtual 76, 3) := by decide +kernel
theorem dL_law_692 : decode cL_law 692 = .ok (.if_icmp .eq 913, 3) := by decide +kernel
theorem dL_law_695 : decode cL_law 695 = .ok (.iconst 0, 1) := by decide +kernel
theorem dL_law_696 : decode cL_law 696 = .ok (.ireturn, 1) := by decide +kernel
theorem dL_law_697 : decode cL_law 697 = .ok (.aload_n 1, 1) := by decide +kernel
theorem dL_law_698 : decode cL_law 698 = .ok (.aload_n 0, 1) := by decide +kernel
theorem dL_law_699 : decode cL_law 699 = .ok (.iload_n 3, 1) := by decide +kernel
theorem dL_law_700 : decode cL_law 700 = .ok (.iconst 1, 1) := by decide +kernel
theorem dL_law_701 : decode cL_law 701 = .ok (.iadd, 1) := by decide +kernel
theorem dL_law_702 : decode cL_law 702 = .ok (.iaload, 1) := by decide +kernel
theorem dL_law_703 : decode cL_law 703 = .ok (.invokevirtual 77, 3) := by decide +kernel
theorem dL_law_706 : decode cL_law 706 = .ok (.aload_n 2, 1) := by decide +kernel
theorem dL_law_707 : decode cL_law 707 = .ok (.aload_n 0, 1) := by decide +kernel
theorem dL_law_708 : decode cL_law 708 = .ok (.iload_n 3, 1) := by decide +kernel
theorem dL_law_709 : decode cL_law 709 = .ok (.iconst 1, 1) := by decide +kernel
theorem dL_law_710 : decode cL_law 710 = .ok (.iadd, 1) := by decide +kernel
theorem dL_law_711 : decode cL_law 711 = .ok (.iaload, 1) := by decide +kernel
theorem dL_law_712 : decode cL_law 712 = .ok (.invokevirtual 80, 3) := by decide +kernel
theorem dL_law_715 : decode cL_law 715 = .ok (.if_icmp .eq 890, 3) := by decide +kernel
theorem dL_law_718 : decode cL_law 718 = .ok (.iconst 0, 1) := by decide +kernel
theorem dL_law_719 : decode cL_law 719 = .ok (.ireturn, 1) := by decide +kernel
theorem dL_law_720 : decode cL_law 720 = .ok (.aload_n 1, 1) := by decide +kernel
theorem dL_law_721 : decode cL_law 721 = .ok (.aload_n 0, 1) := by decide +kernel
theorem dL_law_722 : decode cL_law 722 = .ok (.iload_n 3, 1) := by decide +kernel
theorem dL_law_723 : decode cL_law 723 = .ok (.iconst 1, 1) := by decide +kernel
theorem dL_law_724 : decode cL_law 724 = .ok (.iadd, 1) := by decide +kernel
theorem dL_law_725 : decode cL_law 725 = .ok (.iaload, 1) := by decide +kernel
theorem dL_law_726 : decode cL_law 726 = .ok (.invokevirtual 81, 3) := by decide +kernel
theorem dL_law_729 : decode cL_law 729 = .ok (.aload_n 2, 1) := by decide +kernel
theorem dL_law_730 : decode cL_law 730 = .ok (.aload_n 0, 1) := by decide +kernel
theorem dL_law_731 : decode cL_law 731 = .ok (.iload_n 3, 1) := by decide +kernel
theorem dL_law_732 : decode cL_law 732 = .ok (.iconst 1, 1) := by decide +kernel
theorem dL_law_733 : decode cL_law 733 = .ok (.iadd, 1) := by decide +kernel
theorem dL_law_734 : decode cL_law 734 = .ok (.iaload, 1) := by decide +kernel
theorem dL_law_735 : decode cL_law 735 = .ok (.invokevirtual 84, 3) := by decide +kernel
theorem dL_law_738 : decode cL_law 738 = .ok (.if_icmp .eq 867, 3) := by decide +kernel
theorem dL_law_741 : decode cL_law 741 = .ok (.iconst 0, 1) := by decide +kernel
theorem dL_law_742 : decode cL_law 742 = .ok (.ireturn, 1) := by decide +kernel
theorem dL_law_743 : decode cL_law 743 = .ok (.aload_n 1, 1) := by decide +kernel
theorem dL_law_744 : decode cL_law 744 = .ok (.aload_n 0, 1) := by decide +kernel
theorem dL_law_745 : decode cL_law 745 = .ok (.iload_n 3, 1) := by decide +kernel
theorem dL_law_746 : decode cL_law 746 = .ok (.iconst 1, 1) := by decide +kernel
theorem dL_law_747 : decode cL_law 747 = .ok (.iadd, 1) := by decide +kernel
theorem dL_law_748 : decode cL_law 748 = .ok (.iaload, 1) := by decide +kernel
theorem dL_law_749 : decode cL_law 749 = .ok (.invokevirtual 85, 3) := by decide +kernel
theorem dL_law_752 : decode cL_law 752 = .ok (.aload_n 2, 1) := by decide +kernel
theorem dL_law_753 : decode cL_law 753 = .ok (.aload_n 0, 1) := by decide +kernel
theorem dL_law_754 : decode cL_law 754 = .ok (.iload_n 3, 1) := by decide +kernel
theorem dL_law_755 : decode cL_law 755 = .ok (.iconst 1, 1) := by decide +kernel
theorem dL_law_756 : decode cL_law 756 = .ok (.iadd, 1) := by decide +kernel
theorem dL_law_757 : decode cL_law 757 = .ok (.iaload, 1) := by decide +kernel
theorem dL_law_758 : decode cL_law 758 = .ok (.invokevirtual 88, 3) := by decide +kernel
theorem dL_law_761 : decode cL_law 761 = .ok (.if_icmp .eq 844, 3) := by decide +kernel
theorem dL_law_764 : decode cL_law 764 = .ok (.iconst 0, 1) := by decide +kernel
theorem dL_law_765 : decode cL_law 765 = .ok (.ireturn, 1) := by decide +kernel
theorem dL_law_766 : decode cL_law 766 = .ok (.aload_n 1, 1) := by decide +kernel
theorem dL_law_767 : decode cL_law 767 = .ok (.aload_n 0, 1) := by decide +kernel
theorem dL_law_768 : decode cL_law 768 = .ok (.iload_n 3, 1) := by decide +kernel
theorem dL_law_769 : decode cL_law 769 = .ok (.iconst 1, 1) := by decide +kernel
theorem dL_law_770 : decode cL_law 770 = .ok (.iadd, 1) := by decide +kernel
theorem dL_law_771 : decode cL_law 771 = .ok (.iaload, 1) := by decide +kernel
theorem dL_law_772 : decode cL_law 772 = .ok (.invokevirtual 89, 3) := by decide +kernel
theorem dL_law_775 : decode cL_law 775 = .ok (.aload_n 2, 1) := by decide +kernel
theorem dL_law_776 : decode cL_law 776 = .ok (.aload_n 0, 1) := by decide +kernel
theorem dL_law_777 : decode cL_law 777 = .ok (.iload_n 3, 1) := by decide +kernel
theorem dL_law_778 : decode cL_law 778 = .ok (.iconst 1, 1) := by decide +kernel
theorem dL_law_779 : decode cL_law 779 = .ok (.iadd, 1) := by decide +kernel
theorem dL_law_780 : decode cL_law 780 = .ok (.iaload, 1) := by decide +kernel
theorem dL_law_781 : decode cL_law 781 = .ok (.invokevirtual 92, 3) := by decide +kernel
theorem dL_law_784 : decode cL_law 784 = .ok (.if_icmp .eq 821, 3) := by decide +kernel
theorem dL_law_787 : decode cL_law 787 = .ok (.iconst 0, 1) := by decide +kernel
theorem dL_law_788 : decode cL_law 788 = .ok (.ireturn, 1) := by decide +kernel
theorem dL_law_789 : decode cL_law 789 = .ok (.aload_n 1, 1) := by decide +kernel
theorem dL_law_790 : decode cL_law 790 = .ok (.aload_n 0, 1) := by decide +kernel
theorem dL_law_791 : decode cL_law 791 = .ok (.iload_n 3, 1) := by decide +kernel
theorem dL_law_792 : decode cL_law 792 = .ok (.iconst 1, 1) := by decide +kernel
theorem dL_law_793 : decode cL_law 793 = .ok (.iadd, 1) := by decide +kernel
theorem dL_law_794 : decode cL_law 794 = .ok (.iaload, 1) := by decide +kernel
theorem dL_law_795 : decode cL_law 795 = .ok (.aload_n 0, 1) := by decide +kernel
theorem dL_law_796 : decode cL_law 796 = .ok (.iload_n 3, 1) := by decide +kernel
theorem dL_law_797 : decode cL_law 797 = .ok (.iconst 2, 1) := by decide +kernel
theorem dL_law_798 : decode cL_law 798 = .ok (.iadd, 1) := by decide +kernel
theorem dL_law_799 : decode cL_law 799 = .ok (.iaload, 1) := by decide +kernel
theorem dL_law_800 : decode cL_law 800 = .ok (.invokevirtual 93, 3) := by decide +kernel
theorem dL_law_803 : decode cL_law 803 = .ok (.aload_n 2, 1) := by decide +kernel
theorem dL_law_804 : decode cL_law 804 = .ok (.aload_n 0, 1) := by decide +kernel
theorem dL_law_805 : decode cL_law 805 = .ok (.iload_n 3, 1) := by decide +kernel
theorem dL_law_806 : decode cL_law 806 = .ok (.iconst 1, 1) := by decide +kernel
theorem dL_law_807 : decode cL_law 807 = .ok (.iadd, 1) := by decide +kernel
theorem dL_law_808 : decode cL_law 808 = .ok (.iaload, 1) := by decide +kernel
theorem dL_law_809 : decode cL_law 809 = .ok (.aload_n 0, 1) := by decide +kernel
theorem dL_law_810 : decode cL_law 810 = .ok (.iload_n 3, 1) := by decide +kernel
theorem dL_law_811 : decode cL_law 811 = .ok (.iconst 2, 1) := by decide +kernel
theorem dL_law_812 : decode cL_law 812 = .ok (.iadd, 1) := by decide +kernel
theorem dL_law_813 : decode cL_law 813 = .ok (.iaload, 1) := by decide +kernel
theorem dL_law_814 : decode cL_law 814 = .ok (.invokevirtual 96, 3) := by decide +kernel
theorem dL_law_817 : decode cL_law 817 = .ok (.if_icmp .eq 788, 3) := by decide +kernel
theorem dL_law_820 : decode cL_law 820 = .ok (.iconst 0, 1) := by decide +kernel
theorem dL_law_821 : decode cL_law 821 = .ok (.ireturn, 1) := by decide +kernel
theorem dL_law_822 : decode cL_law 822 = .ok (.aload_n 1, 1) := by decide +kernel
theorem dL_law_823 : decode cL_law 823 = .ok (.aload_n 0, 1) := by decide +kernel
theorem dL_law_824 : decode cL_law 824 = .ok (.iload_n 3, 1) := by decide +kernel
theorem dL_law_825 : decode cL_law 825 = .ok (.iconst 1, 1) := by decide +kernel
theorem dL_law_826 : decode cL_law 826 = .ok (.iadd, 1) := by decide +kernel
theorem dL_law_827 : decode cL_law 827 = .ok (.iaload, 1) := by decide +kernel
theorem dL_law_828 : decode cL_law 828 = .ok (.invokevirtual 97, 3) := by decide +kernel
theorem dL_law_831 : decode cL_law 831 = .ok (.aload_n 2, 1) := by decide +kernel
theorem dL_law_832 : decode cL_law 832 = .ok (.aload_n 0, 1) := by decide +kernel
theorem dL_law_833 : decode cL_law 833 = .ok (.iload_n 3, 1) := by decide +kernel
theorem dL_law_834 : decode cL_law 834 = .ok (.iconst 1, 1) := by decide +kernel
theorem dL_law_835 : decode cL_law 835 = .ok (.iadd, 1) := by decide +kernel
theorem dL_law_836 : decode cL_law 836 = .ok (.iaload, 1) := by decide +kernel
theorem dL_law_837 : decode cL_law 837 = .ok (.invokevirtual 100, 3) := by decide +kernel
theorem dL_law_840 : decode cL_law 840 = .ok (.if_icmp .eq 765, 3) := by decide +kernel
theorem dL_law_843 : decode cL_law 843 = .ok (.iconst 0, 1) := by decide +kernel
theorem dL_law_844 : decode cL_law 844 = .ok (.ireturn, 1) := by decide +kernel
theorem dL_law_845 : decode cL_law 845 = .ok (.aload_n 1, 1) := by decide +kernel
theorem dL_law_846 : decode cL_law 846 = .ok (.aload_n 0, 1) := by decide +kernel
theorem dL_law_847 : decode cL_law 847 = .ok (.iload_n 3, 1) := by decide +kernel
theorem dL_law_848 : decode cL_law 848 = .ok (.iconst 1, 1) := by decide +kernel
theorem dL_law_849 : decode cL_law 849 = .ok (.iadd, 1) := by decide +kernel
theorem dL_law_850 : decode cL_law 850 = .ok (.iaload, 1) := by decide +kernel
theorem dL_law_851 : decode cL_law 851 = .ok (.invokevirtual 101, 3) := by decide +kernel
theorem dL_law_854 : decode cL_law 854 = .ok (.aload_n 2, 1) := by decide +kernel
theorem dL_law_855 : decode cL_law 855 = .ok (.aload_n 0, 1) := by decide +kernel
theorem dL_law_856 : decode cL_law 856 = .ok (.iload_n 3, 1) := by decide +kernel
theorem dL_law_857 : decode cL_law 857 = .ok (.iconst 1, 1) := by decide +kernel
theorem dL_law_858 : decode cL_law 858 = .ok (.iadd, 1) := by decide +kernel
theorem dL_law_859 : decode cL_law 859 = .ok (.iaload, 1) := by decide +kernel
theorem dL_law_860 : decode cL_law 860 = .ok (.invokevirtual 104, 3) := by decide +kernel
theorem dL_law_863 : decode cL_law 863 = .ok (.if_icmp .eq 742, 3) := by decide +kernel
theorem dL_law_866 : decode cL_law 866 = .ok (.iconst 0, 1) := by decide +kernel
theorem dL_law_867 : decode cL_law 867 = .ok (.ireturn, 1) := by decide +kernel
theorem dL_law_868 : decode cL_law 868 = .ok (.aload_n 1, 1) := by decide +kernel
theorem dL_law_869 : decode cL_law 869 = .ok (.aload_n 0, 1) := by decide +kernel
theorem dL_law_870 : decode cL_law 870 = .ok (.iload_n 3, 1) := by decide +kernel
theorem dL_law_871 : decode cL_law 871 = .ok (.iconst 1, 1) := by decide +kernel
theorem dL_law_872 : decode cL_law 872 = .ok (.iadd, 1) := by decide +kernel
theorem dL_law_873 : decode cL_law 873 = .ok (.iaload, 1) := by decide +kernel
theorem dL_law_874 : decode cL_law 874 = .ok (.invokevirtual 105, 3) := by decide +kernel
theorem dL_law_877 : decode cL_law 877 = .ok (.aload_n 2, 1) := by decide +kernel
theorem dL_law_878 : decode cL_law 878 = .ok (.aload_n 0, 1) := by decide +kernel
theorem dL_law_879 : decode cL_law 879 = .ok (.iload_n 3, 1) := by decide +kernel
theorem dL_law_880 : decode cL_law 880 = .ok (.iconst 1, 1) := by decide +kernel
theorem dL_law_881 : decode cL_law 881 = .ok (.iadd, 1) := by decide +kernel
theorem dL_law_882 : decode cL_law 882 = .ok (.iaload, 1) := by decide +kernel
theorem dL_law_883 : decode cL_law 883 = .ok (.invokevirtual 108, 3) := by decide +kernel
theorem dL_law_886 : decode cL_law 886 = .ok (.if_icmp .eq 719, 3) := by decide +kernel
theorem dL_law_889 : decode cL_law 889 = .ok (.iconst 0, 1) := by decide +kernel
theorem dL_law_890 : decode cL_law 890 = .ok (.ireturn, 1) := by decide +kernel
theorem dL_law_891 : decode cL_law 891 = .ok (.aload_n 1, 1) := by decide +kernel
theorem dL_law_892 : decode cL_law 892 = .ok (.aload_n 0, 1) := by decide +kernel
theorem dL_law_893 : decode cL_law 893 = .ok (.iload_n 3, 1) := by decide +kernel
theorem dL_law_894 : decode cL_law 894 = .ok (.iconst 1, 1) := by decide +kernel
theorem dL_law_895 : decode cL_law 895 = .ok (.iadd, 1) := by decide +kernel
theorem dL_law_896 : decode cL_law 896 = .ok (.iaload, 1) := by decide +kernel
theorem dL_law_897 : decode cL_law 897 = .ok (.invokevirtual 109, 3) := by decide +kernel
theorem dL_law_900 : decode cL_law 900 = .ok (.aload_n 2, 1) := by decide +kernel
theorem dL_law_901 : decode cL_law 901 = .ok (.aload_n 0, 1) := by decide +kernel
theorem dL_law_902 : decode cL_law 902 = .ok (.iload_n 3, 1) := by decide +kernel
theorem dL_law_903 : decode cL_law 903 = .ok (.iconst 1, 1) := by decide +kernel
theorem dL_law_904 : decode cL_law 904 = .ok (.iadd, 1) := by decide +kernel
theorem dL_law_905 : decode cL_law 905 = .ok (.iaload, 1) := by decide +kernel
theorem dL_law_906 : decode cL_law 906 = .ok (.invokevirtual 112, 3) := by decide +kernel
theorem dL_law_909 : decode cL_law 909 = .ok (.if_icmp .eq 696, 3) := by decide +kernel
theorem dL_law_912 : decode cL_law 912 = .ok (.iconst 0, 1) := by decide +kernel
theorem dL_law_913 : decode cL_law 913 = .ok (.ireturn, 1) := by decide +kernel
theorem dL_law_914 : decode cL_law 914 = .ok (.aload_n 1, 1) := by decide +kernel
theorem dL_law_915 : decode cL_law 915 = .ok (.aload_n 0, 1) := by decide +kernel
theorem dL_law_916 : decode cL_law 916 = .ok (.iload_n 3, 1) := by decide +kernel
theorem dL_law_917 : decode cL_law 917 = .ok (.iconst 1, 1) := by decide +kernel
theorem dL_law_918 : decode cL_law 918 = .ok (.iadd, 1) := by decide +kernel
theorem dL_law_919 : decode cL_law 919 = .ok (.iaload, 1) := by decide +kernel
theorem dL_law_920 : decode cL_law 920 = .ok (.aload_n 0, 1) := by decide +kernel
theorem dL_law_921 : decode cL_law 921 = .ok (.iload_n 3, 1) := by decide +kernel
theorem dL_law_922 : decode cL_law 922 = .ok (.iconst 2, 1) := by decide +kernel
theorem dL_law_923 : decode cL_law 923 = .ok (.iadd, 1) := by decide +kernel
theorem dL_law_924 : decode cL_law 924 = .ok (.iaload, 1) := by decide +kernel
theorem dL_law_925 : decode cL_law 925 = .ok (.invokevirtual 113, 3) := by decide +kernel
theorem dL_law_928 : decode cL_law 928 = .ok (.aload_n 2, 1) := by decide +kernel
theorem dL_law_929 : decode cL_law 929 = .ok (.aload_n 0, 1) := by decide +kernel
theorem dL_law_930 : decode cL_law 930 = .ok (.iload_n 3, 1) := by decide +kernel
theorem dL_law_931 : decode cL_law 931 = .ok (.iconst 1, 1) := by decide +kernel
theorem dL_law_932 : decode cL_law 932 = .ok (.iadd, 1) := by decide +kernel
theorem dL_law_933 : decode cL_law 933 = .ok (.iaload, 1) := by decide +kernel
theorem dL_law_934 : decode cL_law 934 = .ok (.aload_n 0, 1) := by decide +kernel
theorem dL_law_935 : decode cL_law 935 = .ok (.iload_n 3, 1) := by decide +kernel
theorem dL_law_936 : decode cL_law 936 = .ok (.iconst 2, 1) := by decide +kernel
theorem dL_law_937 : decode cL_law 937 = .ok (.iadd, 1) := by decide +kernel
theorem dL_law_938 : decode cL_law 938 = .ok (.iaload, 1) := by decide +kernel
theorem dL_law_939 : decode cL_law 939 = .ok (.invokevirtual 116, 3) := by decide +kernel
theorem dL_law_942 : decode cL_law 942 = .ok (.if_icmp .eq 663, 3) := by decide +kernel
theorem dL_law_945 : decode cL_law 945 = .ok (.iconst 0, 1) := by decide +kernel
theorem dL_law_946 : decode cL_law 946 = .ok (.ireturn, 1) := by decide +kernel
theorem dL_law_947 : decode cL_law 947 = .ok (.aload_n 1, 1) := by decide +kernel
theorem dL_law_948 : decode cL_law 948 = .ok (.invokevirtual 117, 3) := by decide +kernel
theorem dL_law_951 : decode cL_law 951 = .ok (.aload_n 2, 1) := by decide +kernel
theorem dL_law_952 : decode cL_law 952 = .ok (.invokevirtual 120, 3) := by decide +kernel
theorem dL_law_955 : decode cL_law 955 = .ok (.if_icmp .eq 650, 3) := by decide +kernel
theorem dL_law_958 : decode cL_law 958 = .ok (.iconst 0, 1) := by decide +kernel
theorem dL_law_959 : decode cL_law 959 = .ok (.ireturn, 1) := by decide +kernel
theorem dL_law_960 : decode cL_law 960 = .ok (.aload_n 1, 1) := by decide +kernel
theorem dL_law_961 : decode cL_law 961 = .ok (.aload_n 0, 1) := by decide +kernel
theorem dL_law_962 : decode cL_law 962 = .ok (.iload_n 3, 1) := by decide +kernel
theorem dL_law_963 : decode cL_law 963 = .ok (.iconst 1, 1) := by decide +kernel
theorem dL_law_964 : decode cL_law 964 = .ok (.iadd, 1) := by decide +kernel
theorem dL_law_965 : decode cL_law 965 = .ok (.iaload, 1) := by decide +kernel
theorem dL_law_966 : decode cL_law 966 = .ok (.invokevirtual 121, 3) := by decide +kernel
theorem dL_law_969 : decode cL_law 969 = .ok (.aload_n 2, 1) := by decide +kernel
theorem dL_law_970 : decode cL_law 970 = .ok (.aload_n 0, 1) := by decide +kernel
theorem dL_law_971 : decode cL_law 971 = .ok (.iload_n 3, 1) := by decide +kernel
theorem dL_law_972 : decode cL_law 972 = .ok (.iconst 1, 1) := by decide +kernel
theorem dL_law_973 : decode cL_law 973 = .ok (.iadd, 1) := by decide +kernel
theorem dL_law_974 : decode cL_law 974 = .ok (.iaload, 1) := by decide +kernel
theorem dL_law_975 : decode cL_law 975 = .ok (.invokevirtual 124, 3) := by decide +kernel
theorem dL_law_978 : decode cL_law 978 = .ok (.if_icmp .eq 627, 3) := by decide +kernel
theorem dL_law_981 : decode cL_law 981 = .ok (.iconst 0, 1) := by decide +kernel
theorem dL_law_982 : decode cL_law 982 = .ok (.ireturn, 1) := by decide +kernel
theorem dL_law_983 : decode cL_law 983 = .ok (.aload_n 1, 1) := by decide +kernel
theorem dL_law_984 : decode cL_law 984 = .ok (.aload_n 0, 1) := by decide +kernel
theorem dL_law_985 : decode cL_law 985 = .ok (.iload_n 3, 1) := by decide +kernel
theorem dL_law_986 : decode cL_law 986 = .ok (.iconst 1, 1) := by decide +kernel
theorem dL_law_987 : decode cL_law 987 = .ok (.iadd, 1) := by decide +kernel
theorem dL_law_988 : decode cL_law 988 = .ok (.iaload, 1) := by decide +kernel
theorem dL_law_989 : decode cL_law 989 = .ok (.invokevirtual 125, 3) := by decide +kernel
theorem dL_law_992 : decode cL_law 992 = .ok (.aload_n 2, 1) := by decide +kernel
theorem dL_law_993 : decode cL_law 993 = .ok (.aload_n 0, 1) := by decide +kernel
theorem dL_law_994 : decode cL_law 994 = .ok (.iload_n 3, 1) := by decide +kernel
theorem dL_law_995 : decode cL_law 995 = .ok (.iconst 1, 1) := by decide +kernel
theorem dL_law_996 : decode cL_law 996 = .ok (.iadd, 1) := by decide +kernel
theorem dL_law_997 : decode cL_law 997 = .ok (.iaload, 1) := by decide +kernel
theorem dL_law_998 : decode cL_law 998 = .ok (.invokevirtual 128, 3) := by decide +kernel
theorem dL_law_1001 : decode cL_law 1001 = .ok (.if_icmp .eq 604, 3) := by decide +kernel
theorem dL_law_1004 : decode cL_law 1004 = .ok (.iconst 0, 1) := by decide +kernel
theorem dL_law_1005 : decode cL_law 1005 = .ok (.ireturn, 1) := by decide +kernel
theorem dL_law_1006 : decode cL_law 1006 = .ok (.aload_n 1, 1) := by decide +kernel
theorem dL_law_1007 : decode cL_law 1007 = .ok (.aload_n 0, 1) := by decide +kernel
theorem dL_law_1008 : decode cL_law 1008 = .ok (.iload_n 3, 1) := by decide +kernel
theorem dL_law_1009 : decode cL_law 1009 = .ok (.iconst 1, 1) := by decide +kernel
theorem dL_law_1010 : decode cL_law 1010 = .ok (.iadd, 1) := by decide +kernel
theorem dL_law_1011 : decode cL_law 1011 = .ok (.iaload, 1) := by decide +kernel
theorem dL_law_1012 : decode cL_law 1012 = .ok (.aload_n 0, 1) := by decide +kernel
theorem dL_law_1013 : decode cL_law 1013 = .ok (.iload_n 3, 1) := by decide +kernel
theorem dL_law_1014 : decode cL_law 1014 = .ok (.iconst 2, 1) := by decide +kernel
theorem dL_law_1015 : decode cL_law 1015 = .ok (.iadd, 1) := by decide +kernel
theorem dL_law_1016 : decode cL_law 1016 = .ok (.iaload, 1) := by decide +kernel
theorem dL_law_1017 : decode cL_law 1017 = .ok (.invokevirtual 129, 3) := by decide +kernel
theorem dL_law_1020 : decode cL_law 1020 = .ok (.aload_n 2, 1) := by decide +kernel
theorem dL_law_1021 : decode cL_law 1021 = .ok (.aload_n 0, 1) := by decide +kernel
theorem dL_law_1022 : decode cL_law 1022 = .ok (.iload_n 3, 1) := by decide +kernel
theorem dL_law_1023 : decode cL_law 1023 = .ok (.iconst 1, 1) := by decide +kernel
theorem dL_law_1024 : decode cL_law 1024 = .ok (.iadd, 1) := by decide +kernel
theorem dL_law_1025 : decode cL_law 1025 = .ok (.iaload, 1) := by decide +kernel
theorem dL_law_1026 : decode cL_law 1026 = .ok (.aload_n 0, 1) := by decide +kernel
theorem dL_law_1027 : decode cL_law 1027 = .ok (.iload_n 3, 1) := by decide +kernel
theorem dL_law_1028 : decode cL_law 1028 = .ok (.iconst 2, 1) := by decide +kernel
theorem dL_law_1029 : decode cL_law 1029 = .ok (.iadd, 1) := by decide +kernel
theorem dL_law_1030 : decode cL_law 1030 = .ok (.iaload, 1) := by decide +kernel
theorem dL_law_1031 : decode cL_law 1031 = .ok (.invokevirtual 132, 3) := by decide +kernel
theorem dL_law_1034 : decode cL_law 1034 = .ok (.if_icmp .eq 571, 3) := by decide +kernel
theorem dL_law_1037 : decode cL_law 1037 = .ok (.iconst 0, 1) := by decide +kernel
theorem dL_law_1038 : decode cL_law 1038 = .ok (.ireturn, 1) := by decide +kernel
theorem dL_law_1039 : decode cL_law 1039 = .ok (.aload_n 1, 1) := by decide +kernel
theorem dL_law_1040 : decode cL_law 1040 = .ok (.invokevirtual 133, 3) := by decide +kernel
theorem dL_law_1043 : decode cL_law 1043 = .ok (.aload_n 2, 1) := by decide +kernel
theorem dL_law_1044 : decode cL_law 1044 = .ok (.invokevirtual 136, 3) := by decide +kernel
theorem dL_law_1047 : decode cL_law 1047 = .ok (.if_icmp .eq 558, 3) := by decide +kernel
theorem dL_law_1050 : decode cL_law 1050 = .ok (.iconst 0, 1) := by decide +kernel
theorem dL_law_1051 : decode cL_law 1051 = .ok (.ireturn, 1) := by decide +kernel
theorem dL_law_1052 : decode cL_law 1052 = .ok (.aload_n 1, 1) := by decide +kernel
theorem dL_law_1053 : decode cL_law 1053 = .ok (.invokevirtual 137, 3) := by decide +kernel
theorem dL_law_1056 : decode cL_law 1056 = .ok (.aload_n 2, 1) := by decide +kernel
theorem dL_law_1057 : decode cL_law 1057 = .ok (.invokevirtual 140, 3) := by decide +kernel
theorem dL_law_1060 : decode cL_law 1060 = .ok (.if_icmp .eq 545, 3) := by decide +kernel
theorem dL_law_1063 : decode cL_law 1063 = .ok (.iconst 0, 1) := by decide +kernel
theorem dL_law_1064 : decode cL_law 1064 = .ok (.ireturn, 1) := by decide +kernel
theorem dL_law_1065 : decode cL_law 1065 = .ok (.aload_n 1, 1) := by decide +kernel
theorem dL_law_1066 : decode cL_law 1066 = .ok (.aload_n 0, 1) := by decide +kernel
theorem dL_law_1067 : decode cL_law 1067 = .ok (.iload_n 3, 1) := by decide +kernel
theorem dL_law_1068 : decode cL_law 1068 = .ok (.iconst 1, 1) := by decide +kernel
theorem dL_law_1069 : decode cL_law 1069 = .ok (.iadd, 1) := by decide +kernel
theorem dL_law_1070 : decode cL_law 1070 = .ok (.iaload, 1) := by decide +kernel
theorem dL_law_1071 : decode cL_law 1071 = .ok (.invokevirtual 141, 3) := by decide +kernel
theorem dL_law_1074 : decode cL_law 1074 = .ok (.aload_n 2, 1) := by decide +kernel
theorem dL_law_1075 : decode cL_law 1075 = .ok (.aload_n 0, 1) := by decide +kernel
theorem dL_law_1076 : decode cL_law 1076 = .ok (.iload_n 3, 1) := by decide +kernel
theorem dL_law_1077 : decode cL_law 1077 = .ok (.iconst 1, 1) := by decide +kernel
theorem dL_law_1078 : decode cL_law 1078 = .ok (.iadd, 1) := by decide +kernel
theorem dL_law_1079 : decode cL_law 1079 = .ok (.iaload, 1) := by decide +kernel
theorem dL_law_1080 : decode cL_law 1080 = .ok (.invokevirtual 144, 3) := by decide +kernel
theorem dL_law_1083 : decode cL_law 1083 = .ok (.if_icmp .eq 522, 3) := by decide +kernel
theorem dL_law_1086 : decode cL_law 1086 = .ok (.iconst 0, 1) := by decide +kernel
theorem dL_law_1087 : decode cL_law 1087 = .ok (.ireturn, 1) := by decide +kernel
theorem dL_law_1088 : decode cL_law 1088 = .ok (.aload_n 1, 1) := by decide +kernel
theorem dL_law_1089 : decode cL_law 1089 = .ok (.aload_n 0, 1) := by decide +kernel
theorem dL_law_1090 : decode cL_law 1090 = .ok (.iload_n 3, 1) := by decide +kernel
theorem dL_law_1091 : decode cL_law 1091 = .ok (.iconst 1, 1) := by decide +kernel
theorem dL_law_1092 : decode cL_law 1092 = .ok (.iadd, 1) := by decide +kernel
theorem dL_law_1093 : decode cL_law 1093 = .ok (.iaload, 1) := by decide +kernel
theorem dL_law_1094 : decode cL_law 1094 = .ok (.invokevirtual 145, 3) := by decide +kernel
theorem dL_law_1097 : decode cL_law 1097 = .ok (.aload_n 2, 1) := by decide +kernel
theorem dL_law_1098 : decode cL_law 1098 = .ok (.aload_n 0, 1) := by decide +kernel
theorem dL_law_1099 : decode cL_law 1099 = .ok (.iload_n 3, 1) := by decide +kernel
theorem dL_law_1100 : decode cL_law 1100 = .ok (.iconst 1, 1) := by decide +kernel
theorem dL_law_1101 : decode cL_law 1101 = .ok (.iadd, 1) := by decide +kernel
theorem dL_law_1102 : decode cL_law 1102 = .ok (.iaload, 1) := by decide +kernel
theorem dL_law_1103 : decode cL_law 1103 = .ok (.invokevirtual 148, 3) := by decide +kernel
theorem dL_law_1106 : decode cL_law 1106 = .ok (.if_icmp .eq 499, 3) := by decide +kernel
theorem dL_law_1109 : decode cL_law 1109 = .ok (.iconst 0, 1) := by decide +kernel
theorem dL_law_1110 : decode cL_law 1110 = .ok (.ireturn, 1) := by decide +kernel
theorem dL_law_1111 : decode cL_law 1111 = .ok (.aload_n 1, 1) := by decide +kernel
theorem dL_law_1112 : decode cL_law 1112 = .ok (.aload_n 0, 1) := by decide +kernel
theorem dL_law_1113 : decode cL_law 1113 = .ok (.iload_n 3, 1) := by decide +kernel
theorem dL_law_1114 : decode cL_law 1114 = .ok (.iconst 1, 1) := by decide +kernel
theorem dL_law_1115 : decode cL_law 1115 = .ok (.iadd, 1) := by decide +kernel
theorem dL_law_1116 : decode cL_law 1116 = .ok (.iaload, 1) := by decide +kernel
theorem dL_law_1117 : decode cL_law 1117 = .ok (.aload_n 0, 1) := by decide +kernel
theorem dL_law_1118 : decode cL_law 1118 = .ok (.iload_n 3, 1) := by decide +kernel
theorem dL_law_1119 : decode cL_law 1119 = .ok (.iconst 2, 1) := by decide +kernel
theorem dL_law_1120 : decode cL_law 1120 = .ok (.iadd, 1) := by decide +kernel
theorem dL_law_1121 : decode cL_law 1121 = .ok (.iaload, 1) := by decide +kernel
theorem dL_law_1122 : decode cL_law 1122 = .ok (.invokevirtual 149, 3) := by decide +kernel
theorem dL_law_1125 : decode cL_law 1125 = .ok (.aload_n 2, 1) := by decide +kernel
theorem dL_law_1126 : decode cL_law 1126 = .ok (.aload_n 0, 1) := by decide +kernel
theorem dL_law_1127 : decode cL_law 1127 = .ok (.iload_n 3, 1) := by decide +kernel
theorem dL_law_1128 : decode cL_law 1128 = .ok (.iconst 1, 1) := by decide +kernel
theorem dL_law_1129 : decode cL_law 1129 = .ok (.iadd, 1) := by decide +kernel
theorem dL_law_1130 : decode cL_law 1130 = .ok (.iaload, 1) := by decide +kernel
theorem dL_law_1131 : decode cL_law 1131 = .ok (.aload_n 0, 1) := by decide +kernel
theorem dL_law_1132 : decode cL_law 1132 = .ok (.iload_n 3, 1) := by decide +kernel
theorem dL_law_1133 : decode cL_law 1133 = .ok (.iconst 2, 1) := by decide +kernel
theorem dL_law_1134 : decode cL_law 1134 = .ok (.iadd, 1) := by decide +kernel
theorem dL_law_1135 : decode cL_law 1135 = .ok (.iaload, 1) := by decide +kernel
theorem dL_law_1136 : decode cL_law 1136 = .ok (.invokevirtual 152, 3) := by decide +kernel
theorem dL_law_1139 : decode cL_law 1139 = .ok (.if_icmp .eq 466, 3) := by decide +kernel
theorem dL_law_1142 : decode cL_law 1142 = .ok (.iconst 0, 1) := by decide +kernel
theorem dL_law_1143 : decode cL_law 1143 = .ok (.ireturn, 1) := by decide +kernel
theorem dL_law_1144 : decode cL_law 1144 = .ok (.aload_n 1, 1) := by decide +kernel
theorem dL_law_1145 : decode cL_law 1145 = .ok (.invokevirtual 153, 3) := by decide +kernel
theorem dL_law_1148 : decode cL_law 1148 = .ok (.aload_n 2, 1) := by decide +kernel
theorem dL_law_1149 : decode cL_law 1149 = .ok (.invokevirtual 156, 3) := by decide +kernel
theorem dL_law_1152 : decode cL_law 1152 = .ok (.if_icmp .eq 453, 3) := by decide +kernel
theorem dL_law_1155 : decode cL_law 1155 = .ok (.iconst 0, 1) := by decide +kernel
theorem dL_law_1156 : decode cL_law 1156 = .ok (.ireturn, 1) := by decide +kernel
theorem dL_law_1157 : decode cL_law 1157 = .ok (.aload_n 1, 1) := by decide +kernel
theorem dL_law_1158 : decode cL_law 1158 = .ok (.aload_n 0, 1) := by decide +kernel
theorem dL_law_1159 : decode cL_law 1159 = .ok (.iload_n 3, 1) := by decide +kernel
theorem dL_law_1160 : decode cL_law 1160 = .ok (.iconst 1, 1) := by decide +kernel
theorem dL_law_1161 : decode cL_law 1161 = .ok (.iadd, 1) := by decide +kernel
theorem dL_law_1162 : decode cL_law 1162 = .ok (.iaload, 1) := by decide +kernel
theorem dL_law_1163 : decode cL_law 1163 = .ok (.invokevirtual 157, 3) := by decide +kernel
theorem dL_law_1166 : decode cL_law 1166 = .ok (.aload_n 2, 1) := by decide +kernel
theorem dL_law_1167 : decode cL_law 1167 = .ok (.aload_n 0, 1) := by decide +kernel
theorem dL_law_1168 : decode cL_law 1168 = .ok (.iload_n 3, 1) := by decide +kernel
theorem dL_law_1169 : decode cL_law 1169 = .ok (.iconst 1, 1) := by decide +kernel
theorem dL_law_1170 : decode cL_law 1170 = .ok (.iadd, 1) := by decide +kernel
theorem dL_law_1171 : decode cL_law 1171 = .ok (.iaload, 1) := by decide +kernel
theorem dL_law_1172 : decode cL_law 1172 = .ok (.invokevirtual 160, 3) := by decide +kernel
theorem dL_law_1175 : decode cL_law 1175 = .ok (.if_icmp .eq 430, 3) := by decide +kernel
theorem dL_law_1178 : decode cL_law 1178 = .ok (.iconst 0, 1) := by decide +kernel
theorem dL_law_1179 : decode cL_law 1179 = .ok (.ireturn, 1) := by decide +kernel
theorem dL_law_1180 : decode cL_law 1180 = .ok (.aload_n 1, 1) := by decide +kernel
theorem dL_law_1181 : decode cL_law 1181 = .ok (.aload_n 0, 1) := by decide +kernel
theorem dL_law_1182 : decode cL_law 1182 = .ok (.iload_n 3, 1) := by decide +kernel
theorem dL_law_1183 : decode cL_law 1183 = .ok (.iconst 1, 1) := by decide +kernel
theorem dL_law_1184 : decode cL_law 1184 = .ok (.iadd, 1) := by decide +kernel
theorem dL_law_1185 : decode cL_law 1185 = .ok (.iaload, 1) := by decide +kernel
theorem dL_law_1186 : decode cL_law 1186 = .ok (.aload_n 0, 1) := by decide +kernel
theorem dL_law_1187 : decode cL_law 1187 = .ok (.iload_n 3, 1) := by decide +kernel
theorem dL_law_1188 : decode cL_law 1188 = .ok (.iconst 2, 1) := by decide +kernel
theorem dL_law_1189 : decode cL_law 1189 = .ok (.iadd, 1) := by decide +kernel
theorem dL_law_1190 : decode cL_law 1190 = .ok (.iaload, 1) := by decide +kernel
theorem dL_law_1191 : decode cL_law 1191 = .ok (.invokevirtual 161, 3) := by decide +kernel
theorem dL_law_1194 : decode cL_law 1194 = .ok (.aload_n 2, 1) := by decide +kernel
theorem dL_law_1195 : decode cL_law 1195 = .ok (.aload_n 0, 1) := by decide +kernel
theorem dL_law_1196 : decode cL_law 1196 = .ok (.iload_n 3, 1) := by decide +kernel
theorem dL_law_1197 : decode cL_law 1197 = .ok (.iconst 1, 1) := by decide +kernel
theorem dL_law_1198 : decode cL_law 1198 = .ok (.iadd, 1) := by decide +kernel
theorem dL_law_1199 : decode cL_law 1199 = .ok (.iaload, 1) := by decide +kernel
theorem dL_law_1200 : decode cL_law 1200 = .ok (.aload_n 0, 1) := by decide +kernel
theorem dL_law_1201 : decode cL_law 1201 = .ok (.iload_n 3, 1) := by decide +kernel
theorem dL_law_1202 : decode cL_law 1202 = .ok (.iconst 2, 1) := by decide +kernel
theorem dL_law_1203 : decode cL_law 1203 = .ok (.iadd, 1) := by decide +kernel
theorem dL_law_1204 : decode cL_law 1204 = .ok (.iaload, 1) := by decide +kernel
theorem dL_law_1205 : decode cL_law 1205 = .ok (.invokevirtual 164, 3) := by decide +kernel
theorem dL_law_1208 : decode cL_law 1208 = .ok (.if_icmp .eq 397, 3) := by decide +kernel
theorem dL_law_1211 : decode cL_law 1211 = .ok (.iconst 0, 1) := by decide +kernel
theorem dL_law_1212 : decode cL_law 1212 = .ok (.ireturn, 1) := by decide +kernel
theorem dL_law_1213 : decode cL_law 1213 = .ok (.aload_n 1, 1) := by decide +kernel
theorem dL_law_1214 : decode cL_law 1214 = .ok (.invokevirtual 165, 3) := by decide +kernel
theorem dL_law_1217 : decode cL_law 1217 = .ok (.aload_n 2, 1) := by decide +kernel
theorem dL_law_1218 : decode cL_law 1218 = .ok (.invokevirtual 168, 3) := by decide +kernel
theorem dL_law_1221 : decode cL_law 1221 = .ok (.if_icmp .eq 384, 3) := by decide +kernel
theorem dL_law_1224 : decode cL_law 1224 = .ok (.iconst 0, 1) := by decide +kernel
theorem dL_law_1225 : decode cL_law 1225 = .ok (.ireturn, 1) := by decide +kernel
theorem dL_law_1226 : decode cL_law 1226 = .ok (.aload_n 1, 1) := by decide +kernel
theorem dL_law_1227 : decode cL_law 1227 = .ok (.invokevirtual 169, 3) := by decide +kernel
theorem dL_law_1230 : decode cL_law 1230 = .ok (.aload_n 2, 1) := by decide +kernel
theorem dL_law_1231 : decode cL_law 1231 = .ok (.invokevirtual 172, 3) := by decide +kernel
theorem dL_law_1234 : decode cL_law 1234 = .ok (.if_icmp .eq 371, 3) := by decide +kernel
theorem dL_law_1237 : decode cL_law 1237 = .ok (.iconst 0, 1) := by decide +kernel
theorem dL_law_1238 : decode cL_law 1238 = .ok (.ireturn, 1) := by decide +kernel
theorem dL_law_1239 : decode cL_law 1239 = .ok (.aload_n 1, 1) := by decide +kernel
theorem dL_law_1240 : decode cL_law 1240 = .ok (.aload_n 0, 1) := by decide +kernel
theorem dL_law_1241 : decode cL_law 1241 = .ok (.iload_n 3, 1) := by decide +kernel
theorem dL_law_1242 : decode cL_law 1242 = .ok (.iconst 1, 1) := by decide +kernel
theorem dL_law_1243 : decode cL_law 1243 = .ok (.iadd, 1) := by decide +kernel
theorem dL_law_1244 : decode cL_law 1244 = .ok (.iaload, 1) := by decide +kernel
theorem dL_law_1245 : decode cL_law 1245 = .ok (.aload_n 0, 1) := by decide +kernel
theorem dL_law_1246 : decode cL_law 1246 = .ok (.iload_n 3, 1) := by decide +kernel
theorem dL_law_1247 : decode cL_law 1247 = .ok (.iconst 2, 1) := by decide +kernel
theorem dL_law_1248 : decode cL_law 1248 = .ok (.iadd, 1) := by decide +kernel
theorem dL_law_1249 : decode cL_law 1249 = .ok (.iaload, 1) := by decide +kernel
theorem dL_law_1250 : decode cL_law 1250 = .ok (.invokevirtual 173, 3) := by decide +kernel
theorem dL_law_1253 : decode cL_law 1253 = .ok (.aload_n 2, 1) := by decide +kernel
theorem dL_law_1254 : decode cL_law 1254 = .ok (.aload_n 0, 1) := by decide +kernel
theorem dL_law_1255 : decode cL_law 1255 = .ok (.iload_n 3, 1) := by decide +kernel
theorem dL_law_1256 : decode cL_law 1256 = .ok (.iconst 1, 1) := by decide +kernel
theorem dL_law_1257 : decode cL_law 1257 = .ok (.iadd, 1) := by decide +kernel
theorem dL_law_1258 : decode cL_law 1258 = .ok (.iaload, 1) := by decide +kernel
theorem dL_law_1259 : decode cL_law 1259 = .ok (.aload_n 0, 1) := by decide +kernel
theorem dL_law_1260 : decode cL_law 1260 = .ok (.iload_n 3, 1) := by decide +kernel
theorem dL_law_1261 : decode cL_law 1261 = .ok (.iconst 2, 1) := by decide +kernel
theorem dL_law_1262 : decode cL_law 1262 = .ok (.iadd, 1) := by decide +kernel
theorem dL_law_1263 : decode cL_law 1263 = .ok (.iaload, 1) := by decide +kernel
theorem dL_law_1264 : decode cL_law 1264 = .ok (.invokevirtual 176, 3) := by decide +kernel
theorem dL_law_1267 : decode cL_law 1267 = .ok (.if_icmp .eq 338, 3) := by decide +kernel
theorem dL_law_1270 : decode cL_law 1270 = .ok (.iconst 0, 1) := by decide +kernel
theorem dL_law_1271 : decode cL_law 1271 = .ok (.ireturn, 1) := by decide +kernel
theorem dL_law_1272 : decode cL_law 1272 = .ok (.aload_n 1, 1) := by decide +kernel
theorem dL_law_1273 : decode cL_law 1273 = .ok (.aload_n 0, 1) := by decide +kernel
theorem dL_law_1274 : decode cL_law 1274 = .ok (.iload_n 3, 1) := by decide +kernel
theorem dL_law_1275 : decode cL_law 1275 = .ok (.iconst 1, 1) := by decide +kernel
theorem dL_law_1276 : decode cL_law 1276 = .ok (.iadd, 1) := by decide +kernel
theorem dL_law_1277 : decode cL_law 1277 = .ok (.iaload, 1) := by decide +kernel
theorem dL_law_1278 : decode cL_law 1278 = .ok (.aload_n 0, 1) := by decide +kernel
theorem dL_law_1279 : decode cL_law 1279 = .ok (.iload_n 3, 1) := by decide +kernel
theorem dL_law_1280 : decode cL_law 1280 = .ok (.iconst 2, 1) := by decide +kernel
theorem dL_law_1281 : decode cL_law 1281 = .ok (.iadd, 1) := by decide +kernel
theorem dL_law_1282 : decode cL_law 1282 = .ok (.iaload, 1) := by decide +kernel
theorem dL_law_1283 : decode cL_law 1283 = .ok (.invokevirtual 177, 3) := by decide +kernel
theorem dL_law_1286 : decode cL_law 1286 = .ok (.aload_n 2, 1) := by decide +kernel
theorem dL_law_1287 : decode cL_law 1287 = .ok (.aload_n 0, 1) := by decide +kernel
theorem dL_law_1288 : decode cL_law 1288 = .ok (.iload_n 3, 1) := by decide +kernel
theorem dL_law_1289 : decode cL_law 1289 = .ok (.iconst 1, 1) := by decide +kernel
theorem dL_law_1290 : decode cL_law 1290 = .ok (.iadd, 1) := by decide +kernel
theorem dL_law_1291 : decode cL_law 1291 = .ok (.iaload, 1) := by decide +kernel
theorem dL_law_1292 : decode cL_law 1292 = .ok (.aload_n 0, 1) := by decide +kernel
theorem dL_law_1293 : decode cL_law 1293 = .ok (.iload_n 3, 1) := by decide +kernel
theorem dL_law_1294 : decode cL_law 1294 = .ok (.iconst 2, 1) := by decide +kernel
theorem dL_law_1295 : decode cL_law 1295 = .ok (.iadd, 1) := by decide +kernel
theorem dL_law_1296 : decode cL_law 1296 = .ok (.iaload, 1) := by decide +kernel
theorem dL_law_1297 : decode cL_law 1297 = .ok (.invokevirtual 180, 3) := by decide +kernel
theorem dL_law_1300 : decode cL_law 1300 = .ok (.if_icmp .eq 305, 3) := by decide +kernel
theorem dL_law_1303 : decode cL_law 1303 = .ok (.iconst 0, 1) := by decide +kernel
theorem dL_law_1304 : decode cL_law 1304 = .ok (.ireturn, 1) := by decide +kernel
theorem dL_law_1305 : decode cL_law 1305 = .ok (.aload_n 1, 1) := by decide +kernel
theorem dL_law_1306 : decode cL_law 1306 = .ok (.aload_n 0, 1) := by decide +kernel
theorem dL_law_1307 : decode cL_law 1307 = .ok (.iload_n 3, 1) := by decide +kernel
theorem dL_law_1308 : decode cL_law 1308 = .ok (.iconst 1, 1) := by decide +kernel
theorem dL_law_1309 : decode cL_law 1309 = .ok (.iadd, 1) := by decide +kernel
theorem dL_law_1310 : decode cL_law 1310 = .ok (.iaload, 1) := by decide +kernel
theorem dL_law_1311 : decode cL_law 1311 = .ok (.aload_n 0, 1) := by decide +kernel
theorem dL_law_1312 : decode cL_law 1312 = .ok (.iload_n 3, 1) := by decide +kernel
theorem dL_law_1313 : decode cL_law 1313 = .ok (.iconst 2, 1) := by decide +kernel
theorem dL_law_1314 : decode cL_law 1314 = .ok (.iadd, 1) := by decide +kernel
theorem dL_law_1315 : decode cL_law 1315 = .ok (.iaload, 1) := by decide +kernel
theorem dL_law_1316 : decode cL_law 1316 = .ok (.aload_n 0, 1) := by decide +kernel
theorem dL_law_1317 : decode cL_law 1317 = .ok (.iload_n 3, 1) := by decide +kernel
theorem dL_law_1318 : decode cL_law 1318 = .ok (.iconst 3, 1) := by decide +kernel
theorem dL_law_1319 : decode cL_law 1319 = .ok (.iadd, 1) := by decide +kernel
theorem dL_law_1320 : decode cL_law 1320 = .ok (.iaload, 1) := by decide +kernel
theorem dL_law_1321 : decode cL_law 1321 = .ok (.invokevirtual 181, 3) := by decide +kernel
theorem dL_law_1324 : decode cL_law 1324 = .ok (.aload_n 2, 1) := by decide +kernel
theorem dL_law_1325 : decode cL_law 1325 = .ok (.aload_n 0, 1) := by decide +kernel
theorem dL_law_1326 : decode cL_law 1326 = .ok (.iload_n 3, 1) := by decide +kernel
theorem dL_law_1327 : decode cL_law 1327 = .ok (.iconst 1, 1) := by decide +kernel
theorem dL_law_1328 : decode cL_law 1328 = .ok (.iadd, 1) := by decide +kernel
theorem dL_law_1329 : decode cL_law 1329 = .ok (.iaload, 1) := by decide +kernel
theorem dL_law_1330 : decode cL_law 1330 = .ok (.aload_n 0, 1) := by decide +kernel
theorem dL_law_1331 : decode cL_law 1331 = .ok (.iload_n 3, 1) := by decide +kernel
theorem dL_law_1332 : decode cL_law 1332 = .ok (.iconst 2, 1) := by decide +kernel
theorem dL_law_1333 : decode cL_law 1333 = .ok (.iadd, 1) := by decide +kernel
theorem dL_law_1334 : decode cL_law 1334 = .ok (.iaload, 1) := by decide +kernel
theorem dL_law_1335 : decode cL_law 1335 = .ok (.aload_n 0, 1) := by decide +kernel
theorem dL_law_1336 : decode cL_law 1336 = .ok (.iload_n 3, 1) := by decide +kernel
theorem dL_law_1337 : decode cL_law 1337 = .ok (.iconst 3, 1) := by decide +kernel
theorem dL_law_1338 : decode cL_law 1338 = .ok (.iadd, 1) := by decide +kernel
theorem dL_law_1339 : decode cL_law 1339 = .ok (.iaload, 1) := by decide +kernel
theorem dL_law_1340 : decode cL_law 1340 = .ok (.invokevirtual 184, 3) := by decide +kernel
theorem dL_law_1343 : decode cL_law 1343 = .ok (.if_icmp .eq 262, 3) := by decide +kernel
theorem dL_law_1346 : decode cL_law 1346 = .ok (.iconst 0, 1) := by decide +kernel
theorem dL_law_1347 : decode cL_law 1347 = .ok (.ireturn, 1) := by decide +kernel
theorem dL_law_1348 : decode cL_law 1348 = .ok (.aload_n 1, 1) := by decide +kernel
theorem dL_law_1349 : decode cL_law 1349 = .ok (.aload_n 0, 1) := by decide +kernel
theorem dL_law_1350 : decode cL_law 1350 = .ok (.iload_n 3, 1) := by decide +kernel
theorem dL_law_1351 : decode cL_law 1351 = .ok (.iconst 1, 1) := by decide +kernel
theorem dL_law_1352 : decode cL_law 1352 = .ok (.iadd, 1) := by decide +kernel
theorem dL_law_1353 : decode cL_law 1353 = .ok (.iaload, 1) := by decide +kernel
theorem dL_law_1354 : decode cL_law 1354 = .ok (.aload_n 0, 1) := by decide +kernel
theorem dL_law_1355 : decode cL_law 1355 = .ok (.iload_n 3, 1) := by decide +kernel
theorem dL_law_1356 : decode cL_law 1356 = .ok (.iconst 2, 1) := by decide +kernel
theorem dL_law_1357 : decode cL_law 1357 = .ok (.iadd, 1) := by decide +kernel
theorem dL_law_1358 : decode cL_law 1358 = .ok (.iaload, 1) := by decide +kernel
theorem dL_law_1359 : decode cL_law 1359 = .ok (.aload_n 0, 1) := by decide +kernel
theorem dL_law_1360 : decode cL_law 1360 = .ok (.iload_n 3, 1) := by decide +kernel
theorem dL_law_1361 : decode cL_law 1361 = .ok (.iconst 3, 1) := by decide +kernel
theorem dL_law_1362 : decode cL_law 1362 = .ok (.iadd, 1) := by decide +kernel
theorem dL_law_1363 : decode cL_law 1363 = .ok (.iaload, 1) := by decide +kernel
theorem dL_law_1364 : decode cL_law 1364 = .ok (.invokevirtual 185, 3) := by decide +kernel
theorem dL_law_1367 : decode cL_law 1367 = .ok (.aload_n 2, 1) := by decide +kernel
theorem dL_law_1368 : decode cL_law 1368 = .ok (.aload_n 0, 1) := by decide +kernel
theorem dL_law_1369 : decode cL_law 1369 = .ok (.iload_n 3, 1) := by decide +kernel
theorem dL_law_1370 : decode cL_law 1370 = .ok (.iconst 1, 1) := by decide +kernel
theorem dL_law_1371 : decode cL_law 1371 = .ok (.iadd, 1) := by decide +kernel
theorem dL_law_1372 : decode cL_law 1372 = .ok (.iaload, 1) := by decide +kernel
theorem dL_law_1373 : decode cL_law 1373 = .ok (.aload_n 0, 1) := by decide +kernel
theorem dL_law_1374 : decode cL_law 1374 = .ok (.iload_n 3, 1) := by decide +kernel
theorem dL_law_1375 : decode cL_law 1375 = .ok (.iconst 2, 1) := by decide +kernel
theorem dL_law_1376 : decode cL_law 1376 = .ok (.iadd, 1) := by decide +kernel
theorem dL_law_1377 : decode cL_law 1377 = .ok (.iaload, 1) := by decide +kernel
theorem dL_law_1378 : decode cL_law 1378 = .ok (.aload_n 0, 1) := by decide +kernel
theorem dL_law_1379 : decode cL_law 1379 = .ok (.iload_n 3, 1) := by decide +kernel
theorem dL_law_1380 : decode cL_law 1380 = .ok (.iconst 3, 1) := by decide +kernel
theorem dL_law_1381 : decode cL_law 1381 = .ok (.iadd, 1) := by decide +kernel
theorem dL_law_1382 : decode cL_law 1382 = .ok (.iaload, 1) := by decide +kernel
theorem dL_law_1383 : decode cL_law 1383 = .ok (.invokevirtual 188, 3) := by decide +kernel
theorem dL_law_1386 : decode cL_law 1386 = .ok (.if_icmp .eq 219, 3) := by decide +kernel
theorem dL_law_1389 : decode cL_law 1389 = .ok (.iconst 0, 1) := by decide +kernel
theorem dL_law_1390 : decode cL_law 1390 = .ok (.ireturn, 1) := by decide +kernel
theorem dL_law_1391 : decode cL_law 1391 = .ok (.aload_n 1, 1) := by decide +kernel
theorem dL_law_1392 : decode cL_law 1392 = .ok (.aload_n 0, 1) := by decide +kernel
theorem dL_law_1393 : decode cL_law 1393 = .ok (.iload_n 3, 1) := by decide +kernel
theorem dL_law_1394 : decode cL_law 1394 = .ok (.iconst 1, 1) := by decide +kernel
theorem dL_law_1395 : decode cL_law 1395 = .ok (.iadd, 1) := by decide +kernel
theorem dL_law_1396 : decode cL_law 1396 = .ok (.iaload, 1) := by decide +kernel
theorem dL_law_1397 : decode cL_law 1397 = .ok (.aload_n 0, 1) := by decide +kernel
theorem dL_law_1398 : decode cL_law 1398 = .ok (.iload_n 3, 1) := by decide +kernel
theorem dL_law_1399 : decode cL_law 1399 = .ok (.iconst 2, 1) := by decide +kernel
theorem dL_law_1400 : decode cL_law 1400 = .ok (.iadd, 1) := by decide +kernel
theorem dL_law_1401 : decode cL_law 1401 = .ok (.iaload, 1) := by decide +kernel
theorem dL_law_1402 : decode cL_law 1402 = .ok (.aload_n 0, 1) := by decide +kernel
theorem dL_law_1403 : decode cL_law 1403 = .ok (.iload_n 3, 1) := by decide +kernel
theorem dL_law_1404 : decode cL_law 1404 = .ok (.iconst 3, 1) := by decide +kernel
theorem dL_law_1405 : decode cL_law 1405 = .ok (.iadd, 1) := by decide +kernel
theorem dL_law_1406 : decode cL_law 1406 = .ok (.iaload, 1) := by decide +kernel
theorem dL_law_1407 : decode cL_law 1407 = .ok (.aload_n 0, 1) := by decide +kernel
theorem dL_law_1408 : decode cL_law 1408 = .ok (.iload_n 3, 1) := by decide +kernel
theorem dL_law_1409 : decode cL_law 1409 = .ok (.iconst 4, 1) := by decide +kernel
theorem dL_law_1410 : decode cL_law 1410 = .ok (.iadd, 1) := by decide +kernel
theorem dL_law_1411 : decode cL_law 1411 = .ok (.iaload, 1) := by decide +kernel
theorem dL_law_1412 : decode cL_law 1412 = .ok (.aload_n 0, 1) := by decide +kernel
theorem dL_law_1413 : decode cL_law 1413 = .ok (.iload_n 3, 1) := by decide +kernel
theorem dL_law_1414 : decode cL_law 1414 = .ok (.iconst 5, 1) := by decide +kernel
theorem dL_law_1415 : decode cL_law 1415 = .ok (.iadd, 1) := by decide +kernel
theorem dL_law_1416 : decode cL_law 1416 = .ok (.iaload, 1) := by decide +kernel
theorem dL_law_1417 : decode cL_law 1417 = .ok (.invokevirtual 189, 3) := by decide +kernel
theorem dL_law_1420 : decode cL_law 1420 = .ok (.aload_n 2, 1) := by decide +kernel
theorem dL_law_1421 : decode cL_law 1421 = .ok (.aload_n 0, 1) := by decide +kernel
theorem dL_law_1422 : decode cL_law 1422 = .ok (.iload_n 3, 1) := by decide +kernel
theorem dL_law_1423 : decode cL_law 1423 = .ok (.iconst 1, 1) := by decide +kernel
theorem dL_law_1424 : decode cL_law 1424 = .ok (.iadd, 1) := by decide +kernel
theorem dL_law_1425 : decode cL_law 1425 = .ok (.iaload, 1) := by decide +kernel
theorem dL_law_1426 : decode cL_law 1426 = .ok (.aload_n 0, 1) := by decide +kernel
theorem dL_law_1427 : decode cL_law 1427 = .ok (.iload_n 3, 1) := by decide +kernel
theorem dL_law_1428 : decode cL_law 1428 = .ok (.iconst 2, 1) := by decide +kernel
theorem dL_law_1429 : decode cL_law 1429 = .ok (.iadd, 1) := by decide +kernel
theorem dL_law_1430 : decode cL_law 1430 = .ok (.iaload, 1) := by decide +kernel
theorem dL_law_1431 : decode cL_law 1431 = .ok (.aload_n 0, 1) := by decide +kernel
theorem dL_law_1432 : decode cL_law 1432 = .ok (.iload_n 3, 1) := by decide +kernel
theorem dL_law_1433 : decode cL_law 1433 = .ok (.iconst 3, 1) := by decide +kernel
theorem dL_law_1434 : decode cL_law 1434 = .ok (.iadd, 1) := by decide +kernel
theorem dL_law_1435 : decode cL_law 1435 = .ok (.iaload, 1) := by decide +kernel
theorem dL_law_1436 : decode cL_law 1436 = .ok (.aload_n 0, 1) := by decide +kernel
theorem dL_law_1437 : decode cL_law 1437 = .ok (.iload_n 3, 1) := by decide +kernel
theorem dL_law_1438 : decode cL_law 1438 = .ok (.iconst 4, 1) := by decide +kernel
theorem dL_law_1439 : decode cL_law 1439 = .ok (.iadd, 1) := by decide +kernel
theorem dL_law_1440 : decode cL_law 1440 = .ok (.iaload, 1) := by decide +kernel
theorem dL_law_1441 : decode cL_law 1441 = .ok (.aload_n 0, 1) := by decide +kernel
theorem dL_law_1442 : decode cL_law 1442 = .ok (.iload_n 3, 1) := by decide +kernel
theorem dL_law_1443 : decode cL_law 1443 = .ok (.iconst 5, 1) := by decide +kernel
theorem dL_law_1444 : decode cL_law 1444 = .ok (.iadd, 1) := by decide +kernel
theorem dL_law_1445 : decode cL_law 1445 = .ok (.iaload, 1) := by decide +kernel
theorem dL_law_1446 : decode cL_law 1446 = .ok (.invokevirtual 193, 3) := by decide +kernel
theorem dL_law_1449 : decode cL_law 1449 = .ok (.if_icmp .eq 156, 3) := by decide +kernel
theorem dL_law_1452 : decode cL_law 1452 = .ok (.iconst 0, 1) := by decide +kernel
theorem dL_law_1453 : decode cL_law 1453 = .ok (.ireturn, 1) := by decide +kernel
theorem dL_law_1454 : decode cL_law 1454 = .ok (.aload_n 1, 1) := by decide +kernel
theorem dL_law_1455 : decode cL_law 1455 = .ok (.aload_n 0, 1) := by decide +kernel
theorem dL_law_1456 : decode cL_law 1456 = .ok (.iload_n 3, 1) := by decide +kernel
theorem dL_law_1457 : decode cL_law 1457 = .ok (.iconst 1, 1) := by decide +kernel
theorem dL_law_1458 : decode cL_law 1458 = .ok (.iadd, 1) := by decide +kernel
theorem dL_law_1459 : decode cL_law 1459 = .ok (.iaload, 1) := by decide +kernel
theorem dL_law_1460 : decode cL_law 1460 = .ok (.aload_n 0, 1) := by decide +kernel
theorem dL_law_1461 : decode cL_law 1461 = .ok (.iload_n 3, 1) := by decide +kernel
theorem dL_law_1462 : decode cL_law 1462 = .ok (.iconst 2, 1) := by decide +kernel
theorem dL_law_1463 : decode cL_law 1463 = .ok (.iadd, 1) := by decide +kernel
theorem dL_law_1464 : decode cL_law 1464 = .ok (.iaload, 1) := by decide +kernel
theorem dL_law_1465 : decode cL_law 1465 = .ok (.invokevirtual 194, 3) := by decide +kernel
theorem dL_law_1468 : decode cL_law 1468 = .ok (.aload_n 2, 1) := by decide +kernel
theorem dL_law_1469 : decode cL_law 1469 = .ok (.aload_n 0, 1) := by decide +kernel
theorem dL_law_1470 : decode cL_law 1470 = .ok (.iload_n 3, 1) := by decide +kernel
theorem dL_law_1471 : decode cL_law 1471 = .ok (.iconst 1, 1) := by decide +kernel
theorem dL_law_1472 : decode cL_law 1472 = .ok (.iadd, 1) := by decide +kernel
theorem dL_law_1473 : decode cL_law 1473 = .ok (.iaload, 1) := by decide +kernel
theorem dL_law_1474 : decode cL_law 1474 = .ok (.aload_n 0, 1) := by decide +kernel
theorem dL_law_1475 : decode cL_law 1475 = .ok (.iload_n 3, 1) := by decide +kernel
theorem dL_law_1476 : decode cL_law 1476 = .ok (.iconst 2, 1) := by decide +kernel
theorem dL_law_1477 : decode cL_law 1477 = .ok (.iadd, 1) := by decide +kernel
theorem dL_law_1478 : decode cL_law 1478 = .ok (.iaload, 1) := by decide +kernel
theorem dL_law_1479 : decode cL_law 1479 = .ok (.invokevirtual 197, 3) := by decide +kernel
theorem dL_law_1482 : decode cL_law 1482 = .ok (.if_icmp .eq 123, 3) := by decide +kernel
theorem dL_law_1485 : decode cL_law 1485 = .ok (.iconst 0, 1) := by decide +kernel
theorem dL_law_1486 : decode cL_law 1486 = .ok (.ireturn, 1) := by decide +kernel
theorem dL_law_1487 : decode cL_law 1487 = .ok (.aload_n 1, 1) := by decide +kernel
theorem dL_law_1488 : decode cL_law 1488 = .ok (.aload_n 0, 1) := by decide +kernel
theorem dL_law_1489 : decode cL_law 1489 = .ok (.iload_n 3, 1) := by decide +kernel
theorem dL_law_1490 : decode cL_law 1490 = .ok (.iconst 1, 1) := by decide +kernel
theorem dL_law_1491 : decode cL_law 1491 = .ok (.iadd, 1) := by decide +kernel
theorem dL_law_1492 : decode cL_law 1492 = .ok (.iaload, 1) := by decide +kernel
theorem dL_law_1493 : decode cL_law 1493 = .ok (.aload_n 0, 1) := by decide +kernel
theorem dL_law_1494 : decode cL_law 1494 = .ok (.iload_n 3, 1) := by decide +kernel
theorem dL_law_1495 : decode cL_law 1495 = .ok (.iconst 2, 1) := by decide +kernel
theorem dL_law_1496 : decode cL_law 1496 = .ok (.iadd, 1) := by decide +kernel
theorem dL_law_1497 : decode cL_law 1497 = .ok (.iaload, 1) := by decide +kernel
theorem dL_law_1498 : decode cL_law 1498 = .ok (.invokevirtual 198, 3) := by decide +kernel
theorem dL_law_1501 : decode cL_law 1501 = .ok (.aload_n 2, 1) := by decide +kernel
theorem dL_law_1502 : decode cL_law 1502 = .ok (.aload_n 0, 1) := by decide +kernel
theorem dL_law_1503 : decode cL_law 1503 = .ok (.iload_n 3, 1) := by decide +kernel
theorem dL_law_1504 : decode cL_law 1504 = .ok (.iconst 1, 1) := by decide +kernel
theorem dL_law_1505 : decode cL_law 1505 = .ok (.iadd, 1) := by decide +kernel
theorem dL_law_1506 : decode cL_law 1506 = .ok (.iaload, 1) := by decide +kernel
theorem dL_law_1507 : decode cL_law 1507 = .ok (.aload_n 0, 1) := by decide +kernel
theorem dL_law_1508 : decode cL_law 1508 = .ok (.iload_n 3, 1) := by decide +kernel
theorem dL_law_1509 : decode cL_law 1509 = .ok (.iconst 2, 1) := by decide +kernel
theorem dL_law_1510 : decode cL_law 1510 = .ok (.iadd, 1) := by decide +kernel
theorem dL_law_1511 : decode cL_law 1511 = .ok (.iaload, 1) := by decide +kernel
theorem dL_law_1512 : decode cL_law 1512 = .ok (.invokevirtual 201, 3) := by decide +kernel
theorem dL_law_1515 : decode cL_law 1515 = .ok (.if_icmp .eq 90, 3) := by decide +kernel
theorem dL_law_1518 : decode cL_law 1518 = .ok (.iconst 0, 1) := by decide +kernel
theorem dL_law_1519 : decode cL_law 1519 = .ok (.ireturn, 1) := by decide +kernel
theorem dL_law_1520 : decode cL_law 1520 = .ok (.aload_n 1, 1) := by decide +kernel
theorem dL_law_1521 : decode cL_law 1521 = .ok (.invokevirtual 202, 3) := by decide +kernel
theorem dL_law_1524 : decode cL_law 1524 = .ok (.aload_n 2, 1) := by decide +kernel
theorem dL_law_1525 : decode cL_law 1525 = .ok (.invokevirtual 205, 3) := by decide +kernel
theorem dL_law_1528 : decode cL_law 1528 = .ok (.if_icmp .eq 77, 3) := by decide +kernel
theorem dL_law_1531 : decode cL_law 1531 = .ok (.iconst 0, 1) := by decide +kernel
theorem dL_law_1532 : decode cL_law 1532 = .ok (.ireturn, 1) := by decide +kernel
theorem dL_law_1533 : decode cL_law 1533 = .ok (.aload_n 1, 1) := by decide +kernel
theorem dL_law_1534 : decode cL_law 1534 = .ok (.invokevirtual 206, 3) := by decide +kernel
theorem dL_law_1537 : decode cL_law 1537 = .ok (.aload_n 2, 1) := by decide +kernel
theorem dL_law_1538 : decode cL_law 1538 = .ok (.invokevirtual 209, 3) := by decide +kernel
theorem dL_law_1541 : decode cL_law 1541 = .ok (.if_icmp .eq 64, 3) := by decide +kernel
theorem dL_law_1544 : decode cL_law 1544 = .ok (.iconst 0, 1) := by decide +kernel
theorem dL_law_1545 : decode cL_law 1545 = .ok (.ireturn, 1) := by decide +kernel
theorem dL_law_1546 : decode cL_law 1546 = .ok (.aload_n 1, 1) := by decide +kernel
theorem dL_law_1547 : decode cL_law 1547 = .ok (.invokevirtual 210, 3) := by decide +kernel
theorem dL_law_1550 : decode cL_law 1550 = .ok (.aload_n 2, 1) := by decide +kernel
theorem dL_law_1551 : decode cL_law 1551 = .ok (.invokevirtual 213, 3) := by decide +kernel
theorem dL_law_1554 : decode cL_law 1554 = .ok (.if_icmp .eq 51, 3) := by decide +kernel
theorem dL_law_1557 : decode cL_law 1557 = .ok (.iconst 0, 1) := by decide +kernel
theorem dL_law_1558 : decode cL_law 1558 = .ok (.ireturn, 1) := by decide +kernel
theorem dL_law_1559 : decode cL_law 1559 = .ok (.aload_n 1, 1) := by decide +kernel
theorem dL_law_1560 : decode cL_law 1560 = .ok (.aload_n 0, 1) := by decide +kernel
theorem dL_law_1561 : decode cL_law 1561 = .ok (.iload_n 3, 1) := by decide +kernel
theorem dL_law_1562 : decode cL_law 1562 = .ok (.iconst 1, 1) := by decide +kernel
theorem dL_law_1563 : decode cL_law 1563 = .ok (.iadd, 1) := by decide +kernel
theorem dL_law_1564 : decode cL_law 1564 = .ok (.iaload, 1) := by decide +kernel
theorem dL_law_1565 : decode cL_law 1565 = .ok (.invokevirtual 214, 3) := by decide +kernel
theorem dL_law_1568 : decode cL_law 1568 = .ok (.aload_n 2, 1) := by decide +kernel
theorem dL_law_1569 : decode cL_law 1569 = .ok (.aload_n 0, 1) := by decide +kernel
theorem dL_law_1570 : decode cL_law 1570 = .ok (.iload_n 3, 1) := by decide +kernel
theorem dL_law_1571 : decode cL_law 1571 = .ok (.iconst 1, 1) := by decide +kernel
theorem dL_law_1572 : decode cL_law 1572 = .ok (.iadd, 1) := by decide +kernel
theorem dL_law_1573 : decode cL_law 1573 = .ok (.iaload, 1) := by decide +kernel
theorem dL_law_1574 : decode cL_law 1574 = .ok (.invokevirtual 217, 3) := by decide +kernel
theorem dL_law_1577 : decode cL_law 1577 = .ok (.if_icmp .eq 28, 3) := by decide +kernel
theorem dL_law_1580 : decode cL_law 1580 = .ok (.iconst 0, 1) := by decide +kernel
theorem dL_law_1581 : decode cL_law 1581 = .ok (.ireturn, 1) := by decide +kernel
theorem dL_law_1582 : decode cL_law 1582 = .ok (.aload_n 1, 1) := by decide +kernel
theorem dL_law_1583 : decode cL_law 1583 = .ok (.aload_n 0, 1) := by decide +kernel
theorem dL_law_1584 : decode cL_law 1584 = .ok (.iload_n 3, 1) := by decide +kernel
theorem dL_law_1585 : decode cL_law 1585 = .ok (.iconst 1, 1) := by decide +kernel
theorem dL_law_1586 : decode cL_law 1586 = .ok (.iadd, 1) := by decide +kernel
theorem dL_law_1587 : decode cL_law 1587 = .ok (.iaload, 1) := by decide +kernel
theorem dL_law_1588 : decode cL_law 1588 = .ok (.invokevirtual 218, 3) := by decide +kernel
theorem dL_law_1591 : decode cL_law 1591 = .ok (.aload_n 2, 1) := by decide +kernel
theorem dL_law_1592 : decode cL_law 1592 = .ok (.aload_n 0, 1) := by decide +kernel
theorem dL_law_1593 : decode cL_law 1593 = .ok (.iload_n 3, 1) := by decide +kernel
theorem dL_law_1594 : decode cL_law 1594 = .ok (.iconst 1, 1) := by decide +kernel
theorem dL_law_1595 : decode cL_law 1595 = .ok (.iadd, 1) := by decide +kernel
theorem dL_law_1596 : decode cL_law 1596 = .ok (.iaload, 1) := by decide +kernel
theorem dL_law_1597 : decode cL_law 1597 = .ok (.invokevirtual 221, 3) := by decide +kernel
theorem dL_law_1600 : decode cL_law 1600 = .ok (.if_icmp .eq 5, 3) := by decide +kernel
theorem dL_law_1603 : decode cL_law 1603 = .ok (.iconst 0, 1) := by decide +kernel
theorem dL_law_1604 : decode cL_law 1604 = .ok (.ireturn, 1) := by decide +kernel
theorem dL_law_1605 : decode cL_law 1605 = .ok (.iinc 3 6, 3) := by decide +kernel
theorem dL_law_1608 : decode cL_law 1608 = .ok (.goto (-1590), 3) := by decide +kernel
theorem dL_law_1611 : decode cL_law 1611 = .ok (.iconst 1, 1) := by decide +kernel
theorem dL_law_1612 : decode cL_law 1612 = .ok (.ireturn, 1) := by decide +kernel
end
section
theorem dX0_init_0 : decode cX0_init 0 = .ok (.aload_n 0, 1) := by decide +kernel
theorem dX0_init_1 : decode cX0_init 1 = .ok (.invokespecial 3, 3) := by decide +kernel
theorem dX0_init_4 : decode cX0_init 4 = .ok (.aload_n 0, 1) := by decide +kernel
theorem dX0_init_5 : decode cX0_init 5 = .ok (.sipush 1024, 3) := by decide +kernel
theorem dX0_init_8 : decode cX0_init 8 = .ok (.newarray .int, 2) := by decide +kernel
theorem dX0_init_10 : decode cX0_init 10 = .ok (.putfield 9, 3) := by decide +kernel
theorem dX0_init_13 : decode cX0_init 13 = .ok (.return_, 1) := by decide +kernel
theorem dX0_leftSide_0 : decode cX0_leftSide 0 = .ok (.aload_n 0, 1) := by decide +kernel
theorem dX0_leftSide_1 : decode cX0_leftSide 1 = .ok (.aload_n 1, 1) := by decide +kernel
theorem dX0_leftSide_2 : decode cX0_leftSide 2 = .ok (.invokevirtual 15, 3) := by decide +kernel
theorem dX0_leftSide_5 : decode cX0_leftSide 5 = .ok (.iload_n 2, 1) := by decide +kernel
theorem dX0_leftSide_6 : decode cX0_leftSide 6 = .ok (.iload_n 2, 1) := by decide +kernel
theorem dX0_leftSide_7 : decode cX0_leftSide 7 = .ok (.ineg, 1) := by decide +kernel
theorem dX0_leftSide_8 : decode cX0_leftSide 8 = .ok (.iand, 1) := by decide +kernel
theorem dX0_leftSide_9 : decode cX0_leftSide 9 = .ok (.istore_n 3, 1) := by decide +kernel
theorem dX0_leftSide_10 : decode cX0_leftSide 10 = .ok (.iload_n 2, 1) := by decide +kernel
theorem dX0_leftSide_11 : decode cX0_leftSide 11 = .ok (.istore 4, 2) := by decide +kernel
theorem dX0_leftSide_13 : decode cX0_leftSide 13 = .ok (.iload_n 2, 1) := by decide +kernel
theorem dX0_leftSide_14 : decode cX0_leftSide 14 = .ok (.istore 5, 2) := by decide +kernel
theorem dX0_leftSide_16 : decode cX0_leftSide 16 = .ok (.iload 5, 2) := by decide +kernel
theorem dX0_leftSide_18 : decode cX0_leftSide 18 = .ok (.iload_n 3, 1) := by decide +kernel
theorem dX0_leftSide_19 : decode cX0_leftSide 19 = .ok (.if_icmp .lt 58, 3) := by decide +kernel
theorem dX0_leftSide_22 : decode cX0_leftSide 22 = .ok (.iload 5, 2) := by decide +kernel
theorem dX0_leftSide_24 : decode cX0_leftSide 24 = .ok (.iload_n 2, 1) := by decide +kernel
theorem dX0_leftSide_25 : decode cX0_leftSide 25 = .ok (.iconst (-1), 1) := by decide +kernel
theorem dX0_leftSide_26 : decode cX0_leftSide 26 = .ok (.ixor, 1) := by decide +kernel
theorem dX0_leftSide_27 : decode cX0_leftSide 27 = .ok (.iand, 1) := by decide +kernel
theorem dX0_leftSide_28 : decode cX0_leftSide 28 = .ok (.ifCond .ne 14, 3) := by decide +kernel
theorem dX0_leftSide_31 : decode cX0_leftSide 31 = .ok (.iload 5, 2) := by decide +kernel
theorem dX0_leftSide_33 : decode cX0_leftSide 33 = .ok (.iload_n 3, 1) := by decide +kernel
theorem dX0_leftSide_34 : decode cX0_leftSide 34 = .ok (.iand, 1) := by decide +kernel
theorem dX0_leftSide_35 : decode cX0_leftSide 35 = .ok (.ifCond .eq 7, 3) := by decide +kernel
theorem dX0_leftSide_38 : decode cX0_leftSide 38 = .ok (.iconst 1, 1) := by decide +kernel
theorem dX0_leftSide_39 : decode cX0_leftSide 39 = .ok (.goto 4, 3) := by decide +kernel
theorem dX0_leftSide_42 : decode cX0_leftSide 42 = .ok (.iconst 0, 1) := by decide +kernel
theorem dX0_leftSide_43 : decode cX0_leftSide 43 = .ok (.istore 6, 2) := by decide +kernel
theorem dX0_leftSide_45 : decode cX0_leftSide 45 = .ok (.iload 6, 2) := by decide +kernel
theorem dX0_leftSide_47 : decode cX0_leftSide 47 = .ok (.ifCond .eq 24, 3) := by decide +kernel
theorem dX0_leftSide_50 : decode cX0_leftSide 50 = .ok (.aload_n 0, 1) := by decide +kernel
theorem dX0_leftSide_51 : decode cX0_leftSide 51 = .ok (.iload_n 2, 1) := by decide +kernel
theorem dX0_leftSide_52 : decode cX0_leftSide 52 = .ok (.iload 5, 2) := by decide +kernel
theorem dX0_leftSide_54 : decode cX0_leftSide 54 = .ok (.invokevirtual 19, 3) := by decide +kernel
theorem dX0_leftSide_57 : decode cX0_leftSide 57 = .ok (.aload_n 0, 1) := by decide +kernel
theorem dX0_leftSide_58 : decode cX0_leftSide 58 = .ok (.iload_n 2, 1) := by decide +kernel
theorem dX0_leftSide_59 : decode cX0_leftSide 59 = .ok (.iload 4, 2) := by decide +kernel
theorem dX0_leftSide_61 : decode cX0_leftSide 61 = .ok (.invokevirtual 19, 3) := by decide +kernel
theorem dX0_leftSide_64 : decode cX0_leftSide 64 = .ok (.if_icmp .gt 7, 3) := by decide +kernel
theorem dX0_leftSide_67 : decode cX0_leftSide 67 = .ok (.iload 5, 2) := by decide +kernel
theorem dX0_leftSide_69 : decode cX0_leftSide 69 = .ok (.istore 4, 2) := by decide +kernel
theorem dX0_leftSide_71 : decode cX0_leftSide 71 = .ok (.iinc 5 (-1), 3) := by decide +kernel
theorem dX0_leftSide_74 : decode cX0_leftSide 74 = .ok (.goto (-58), 3) := by decide +kernel
theorem dX0_leftSide_77 : decode cX0_leftSide 77 = .ok (.iload 4, 2) := by decide +kernel
theorem dX0_leftSide_79 : decode cX0_leftSide 79 = .ok (.ireturn, 1) := by decide +kernel
theorem dX0_weighAllSets_0 : decode cX0_weighAllSets 0 = .ok (.aload_n 0, 1) := by decide +kernel
theorem dX0_weighAllSets_1 : decode cX0_weighAllSets 1 = .ok (.getfield 9, 3) := by decide +kernel
theorem dX0_weighAllSets_4 : decode cX0_weighAllSets 4 = .ok (.iconst 0, 1) := by decide +kernel
theorem dX0_weighAllSets_5 : decode cX0_weighAllSets 5 = .ok (.iconst 0, 1) := by decide +kernel
theorem dX0_weighAllSets_6 : decode cX0_weighAllSets 6 = .ok (.iastore, 1) := by decide +kernel
theorem dX0_weighAllSets_7 : decode cX0_weighAllSets 7 = .ok (.iconst 0, 1) := by decide +kernel
theorem dX0_weighAllSets_8 : decode cX0_weighAllSets 8 = .ok (.istore_n 2, 1) := by decide +kernel
theorem dX0_weighAllSets_9 : decode cX0_weighAllSets 9 = .ok (.iload_n 2, 1) := by decide +kernel
theorem dX0_weighAllSets_10 : decode cX0_weighAllSets 10 = .ok (.aload_n 1, 1) := by decide +kernel
theorem dX0_weighAllSets_11 : decode cX0_weighAllSets 11 = .ok (.getfield 23, 3) := by decide +kernel
theorem dX0_weighAllSets_14 : decode cX0_weighAllSets 14 = .ok (.if_icmp .ge 54, 3) := by decide +kernel
theorem dX0_weighAllSets_17 : decode cX0_weighAllSets 17 = .ok (.iconst 1, 1) := by decide +kernel
theorem dX0_weighAllSets_18 : decode cX0_weighAllSets 18 = .ok (.iload_n 2, 1) := by decide +kernel
theorem dX0_weighAllSets_19 : decode cX0_weighAllSets 19 = .ok (.ishl, 1) := by decide +kernel
theorem dX0_weighAllSets_20 : decode cX0_weighAllSets 20 = .ok (.istore_n 3, 1) := by decide +kernel
theorem dX0_weighAllSets_21 : decode cX0_weighAllSets 21 = .ok (.iconst 0, 1) := by decide +kernel
theorem dX0_weighAllSets_22 : decode cX0_weighAllSets 22 = .ok (.istore 4, 2) := by decide +kernel
theorem dX0_weighAllSets_24 : decode cX0_weighAllSets 24 = .ok (.iload 4, 2) := by decide +kernel
theorem dX0_weighAllSets_26 : decode cX0_weighAllSets 26 = .ok (.iload_n 3, 1) := by decide +kernel
theorem dX0_weighAllSets_27 : decode cX0_weighAllSets 27 = .ok (.if_icmp .ge 35, 3) := by decide +kernel
theorem dX0_weighAllSets_30 : decode cX0_weighAllSets 30 = .ok (.aload_n 0, 1) := by decide +kernel
theorem dX0_weighAllSets_31 : decode cX0_weighAllSets 31 = .ok (.getfield 9, 3) := by decide +kernel
theorem dX0_weighAllSets_34 : decode cX0_weighAllSets 34 = .ok (.iload_n 3, 1) := by decide +kernel
theorem dX0_weighAllSets_35 : decode cX0_weighAllSets 35 = .ok (.iload 4, 2) := by decide +kernel
theorem dX0_weighAllSets_37 : decode cX0_weighAllSets 37 = .ok (.ior, 1) := by decide +kernel
theorem dX0_weighAllSets_38 : decode cX0_weighAllSets 38 = .ok (.aload_n 0, 1) := by decide +kernel
theorem dX0_weighAllSets_39 : decode cX0_weighAllSets 39 = .ok (.getfield 9, 3) := by decide +kernel
theorem dX0_weighAllSets_42 : decode cX0_weighAllSets 42 = .ok (.iload 4, 2) := by decide +kernel
theorem dX0_weighAllSets_44 : decode cX0_weighAllSets 44 = .ok (.iaload, 1) := by decide +kernel
theorem dX0_weighAllSets_45 : decode cX0_weighAllSets 45 = .ok (.aload_n 1, 1) := by decide +kernel
theorem dX0_weighAllSets_46 : decode cX0_weighAllSets 46 = .ok (.getfield 29, 3) := by decide +kernel
theorem dX0_weighAllSets_49 : decode cX0_weighAllSets 49 = .ok (.iload_n 2, 1) := by decide +kernel
theorem dX0_weighAllSets_50 : decode cX0_weighAllSets 50 = .ok (.aaload, 1) := by decide +kernel
theorem dX0_weighAllSets_51 : decode cX0_weighAllSets 51 = .ok (.getfield 33, 3) := by decide +kernel
theorem dX0_weighAllSets_54 : decode cX0_weighAllSets 54 = .ok (.iadd, 1) := by decide +kernel
theorem dX0_weighAllSets_55 : decode cX0_weighAllSets 55 = .ok (.iastore, 1) := by decide +kernel
theorem dX0_weighAllSets_56 : decode cX0_weighAllSets 56 = .ok (.iinc 4 1, 3) := by decide +kernel
theorem dX0_weighAllSets_59 : decode cX0_weighAllSets 59 = .ok (.goto (-35), 3) := by decide +kernel
theorem dX0_weighAllSets_62 : decode cX0_weighAllSets 62 = .ok (.iinc 2 1, 3) := by decide +kernel
theorem dX0_weighAllSets_65 : decode cX0_weighAllSets 65 = .ok (.goto (-56), 3) := by decide +kernel
theorem dX0_weighAllSets_68 : decode cX0_weighAllSets 68 = .ok (.return_, 1) := by decide +kernel
theorem dX0_difference_0 : decode cX0_difference 0 = .ok (.aload_n 0, 1) := by decide +kernel
theorem dX0_difference_1 : decode cX0_difference 1 = .ok (.getfield 9, 3) := by decide +kernel
theorem dX0_difference_4 : decode cX0_difference 4 = .ok (.iload_n 1, 1) := by decide +kernel
theorem dX0_difference_5 : decode cX0_difference 5 = .ok (.iaload, 1) := by decide +kernel
theorem dX0_difference_6 : decode cX0_difference 6 = .ok (.iconst 2, 1) := by decide +kernel
theorem dX0_difference_7 : decode cX0_difference 7 = .ok (.aload_n 0, 1) := by decide +kernel
theorem dX0_difference_8 : decode cX0_difference 8 = .ok (.getfield 9, 3) := by decide +kernel
theorem dX0_difference_11 : decode cX0_difference 11 = .ok (.iload_n 2, 1) := by decide +kernel
theorem dX0_difference_12 : decode cX0_difference 12 = .ok (.iaload, 1) := by decide +kernel
theorem dX0_difference_13 : decode cX0_difference 13 = .ok (.imul, 1) := by decide +kernel
theorem dX0_difference_14 : decode cX0_difference 14 = .ok (.isub, 1) := by decide +kernel
theorem dX0_difference_15 : decode cX0_difference 15 = .ok (.invokestatic 38, 3) := by decide +kernel
theorem dX0_difference_18 : decode cX0_difference 18 = .ok (.ireturn, 1) := by decide +kernel
theorem dX0_fewestDrums_0 : decode cX0_fewestDrums 0 = .ok (.aload_n 0, 1) := by decide +kernel
theorem dX0_fewestDrums_1 : decode cX0_fewestDrums 1 = .ok (.getfield 9, 3) := by decide +kernel
theorem dX0_fewestDrums_4 : decode cX0_fewestDrums 4 = .ok (.iconst 0, 1) := by decide +kernel
theorem dX0_fewestDrums_5 : decode cX0_fewestDrums 5 = .ok (.sipush 1000, 3) := by decide +kernel
theorem dX0_fewestDrums_8 : decode cX0_fewestDrums 8 = .ok (.iastore, 1) := by decide +kernel
theorem dX0_fewestDrums_9 : decode cX0_fewestDrums 9 = .ok (.iconst 1, 1) := by decide +kernel
theorem dX0_fewestDrums_10 : decode cX0_fewestDrums 10 = .ok (.istore 4, 2) := by decide +kernel
theorem dX0_fewestDrums_12 : decode cX0_fewestDrums 12 = .ok (.iload 4, 2) := by decide +kernel
theorem dX0_fewestDrums_14 : decode cX0_fewestDrums 14 = .ok (.iload_n 2, 1) := by decide +kernel
theorem dX0_fewestDrums_15 : decode cX0_fewestDrums 15 = .ok (.if_icmp .gt 41, 3) := by decide +kernel
theorem dX0_fewestDrums_18 : decode cX0_fewestDrums 18 = .ok (.iload 4, 2) := by decide +kernel
theorem dX0_fewestDrums_20 : decode cX0_fewestDrums 20 = .ok (.sipush 1024, 3) := by decide +kernel
theorem dX0_fewestDrums_23 : decode cX0_fewestDrums 23 = .ok (.if_icmp .ge 33, 3) := by decide +kernel
theorem dX0_fewestDrums_26 : decode cX0_fewestDrums 26 = .ok (.iload 4, 2) := by decide +kernel
theorem dX0_fewestDrums_28 : decode cX0_fewestDrums 28 = .ok (.iload_n 2, 1) := by decide +kernel
theorem dX0_fewestDrums_29 : decode cX0_fewestDrums 29 = .ok (.iconst (-1), 1) := by decide +kernel
theorem dX0_fewestDrums_30 : decode cX0_fewestDrums 30 = .ok (.ixor, 1) := by decide +kernel
theorem dX0_fewestDrums_31 : decode cX0_fewestDrums 31 = .ok (.iand, 1) := by decide +kernel
theorem dX0_fewestDrums_32 : decode cX0_fewestDrums 32 = .ok (.ifCond .ne 18, 3) := by decide +kernel
theorem dX0_fewestDrums_35 : decode cX0_fewestDrums 35 = .ok (.aload_n 0, 1) := by decide +kernel
theorem dX0_fewestDrums_36 : decode cX0_fewestDrums 36 = .ok (.getfield 9, 3) := by decide +kernel
theorem dX0_fewestDrums_39 : decode cX0_fewestDrums 39 = .ok (.iload 4, 2) := by decide +kernel
theorem dX0_fewestDrums_41 : decode cX0_fewestDrums 41 = .ok (.aload_n 0, 1) := by decide +kernel
theorem dX0_fewestDrums_42 : decode cX0_fewestDrums 42 = .ok (.aload_n 1, 1) := by decide +kernel
theorem dX0_fewestDrums_43 : decode cX0_fewestDrums 43 = .ok (.iload 4, 2) := by decide +kernel
theorem dX0_fewestDrums_45 : decode cX0_fewestDrums 45 = .ok (.iload_n 3, 1) := by decide +kernel
theorem dX0_fewestDrums_46 : decode cX0_fewestDrums 46 = .ok (.invokevirtual 44, 3) := by decide +kernel
theorem dX0_fewestDrums_49 : decode cX0_fewestDrums 49 = .ok (.iastore, 1) := by decide +kernel
theorem dX0_fewestDrums_50 : decode cX0_fewestDrums 50 = .ok (.iinc 4 1, 3) := by decide +kernel
theorem dX0_fewestDrums_53 : decode cX0_fewestDrums 53 = .ok (.goto (-41), 3) := by decide +kernel
theorem dX0_fewestDrums_56 : decode cX0_fewestDrums 56 = .ok (.aload_n 0, 1) := by decide +kernel
theorem dX0_fewestDrums_57 : decode cX0_fewestDrums 57 = .ok (.getfield 9, 3) := by decide +kernel
theorem dX0_fewestDrums_60 : decode cX0_fewestDrums 60 = .ok (.iload_n 2, 1) := by decide +kernel
theorem dX0_fewestDrums_61 : decode cX0_fewestDrums 61 = .ok (.iaload, 1) := by decide +kernel
theorem dX0_fewestDrums_62 : decode cX0_fewestDrums 62 = .ok (.sipush 1000, 3) := by decide +kernel
theorem dX0_fewestDrums_65 : decode cX0_fewestDrums 65 = .ok (.idiv, 1) := by decide +kernel
theorem dX0_fewestDrums_66 : decode cX0_fewestDrums 66 = .ok (.ireturn, 1) := by decide +kernel
theorem dX0_fewestFor_0 : decode cX0_fewestFor 0 = .ok (.ldc 50, 2) := by decide +kernel
theorem dX0_fewestFor_2 : decode cX0_fewestFor 2 = .ok (.istore 4, 2) := by decide +kernel
theorem dX0_fewestFor_4 : decode cX0_fewestFor 4 = .ok (.iconst 0, 1) := by decide +kernel
theorem dX0_fewestFor_5 : decode cX0_fewestFor 5 = .ok (.istore 5, 2) := by decide +kernel
theorem dX0_fewestFor_7 : decode cX0_fewestFor 7 = .ok (.iload 5, 2) := by decide +kernel
theorem dX0_fewestFor_9 : decode cX0_fewestFor 9 = .ok (.aload_n 1, 1) := by decide +kernel
theorem dX0_fewestFor_10 : decode cX0_fewestFor 10 = .ok (.getfield 23, 3) := by decide +kernel
theorem dX0_fewestFor_13 : decode cX0_fewestFor 13 = .ok (.if_icmp .ge 102, 3) := by decide +kernel
theorem dX0_fewestFor_16 : decode cX0_fewestFor 16 = .ok (.iload_n 2, 1) := by decide +kernel
theorem dX0_fewestFor_17 : decode cX0_fewestFor 17 = .ok (.iload 5, 2) := by decide +kernel
theorem dX0_fewestFor_19 : decode cX0_fewestFor 19 = .ok (.invokestatic 51, 3) := by decide +kernel
theorem dX0_fewestFor_22 : decode cX0_fewestFor 22 = .ok (.ifCond .eq 87, 3) := by decide +kernel
theorem dX0_fewestFor_25 : decode cX0_fewestFor 25 = .ok (.aload_n 0, 1) := by decide +kernel
theorem dX0_fewestFor_26 : decode cX0_fewestFor 26 = .ok (.getfield 9, 3) := by decide +kernel
theorem dX0_fewestFor_29 : decode cX0_fewestFor 29 = .ok (.iload_n 2, 1) := by decide +kernel
theorem dX0_fewestFor_30 : decode cX0_fewestFor 30 = .ok (.iconst 1, 1) := by decide +kernel
theorem dX0_fewestFor_31 : decode cX0_fewestFor 31 = .ok (.iload 5, 2) := by decide +kernel
theorem dX0_fewestFor_33 : decode cX0_fewestFor 33 = .ok (.ishl, 1) := by decide +kernel
theorem dX0_fewestFor_34 : decode cX0_fewestFor 34 = .ok (.ixor, 1) := by decide +kernel
theorem dX0_fewestFor_35 : decode cX0_fewestFor 35 = .ok (.iaload, 1) := by decide +kernel
theorem dX0_fewestFor_36 : decode cX0_fewestFor 36 = .ok (.istore 6, 2) := by decide +kernel
theorem dX0_fewestFor_38 : decode cX0_fewestFor 38 = .ok (.aload_n 1, 1) := by decide +kernel
theorem dX0_fewestFor_39 : decode cX0_fewestFor 39 = .ok (.getfield 29, 3) := by decide +kernel
theorem dX0_fewestFor_42 : decode cX0_fewestFor 42 = .ok (.iload 5, 2) := by decide +kernel
theorem dX0_fewestFor_44 : decode cX0_fewestFor 44 = .ok (.aaload, 1) := by decide +kernel
theorem dX0_fewestFor_45 : decode cX0_fewestFor 45 = .ok (.getfield 33, 3) := by decide +kernel
theorem dX0_fewestFor_48 : decode cX0_fewestFor 48 = .ok (.istore 7, 2) := by decide +kernel
theorem dX0_fewestFor_50 : decode cX0_fewestFor 50 = .ok (.iload 6, 2) := by decide +kernel
theorem dX0_fewestFor_52 : decode cX0_fewestFor 52 = .ok (.sipush 1000, 3) := by decide +kernel
theorem dX0_fewestFor_55 : decode cX0_fewestFor 55 = .ok (.irem, 1) := by decide +kernel
theorem dX0_fewestFor_56 : decode cX0_fewestFor 56 = .ok (.iload 7, 2) := by decide +kernel
theorem dX0_fewestFor_58 : decode cX0_fewestFor 58 = .ok (.iadd, 1) := by decide +kernel
theorem dX0_fewestFor_59 : decode cX0_fewestFor 59 = .ok (.iload_n 3, 1) := by decide +kernel
theorem dX0_fewestFor_60 : decode cX0_fewestFor 60 = .ok (.if_icmp .gt 7, 3) := by decide +kernel
theorem dX0_fewestFor_63 : decode cX0_fewestFor 63 = .ok (.iconst 1, 1) := by decide +kernel
theorem dX0_fewestFor_64 : decode cX0_fewestFor 64 = .ok (.goto 4, 3) := by decide +kernel
theorem dX0_fewestFor_67 : decode cX0_fewestFor 67 = .ok (.iconst 0, 1) := by decide +kernel
theorem dX0_fewestFor_68 : decode cX0_fewestFor 68 = .ok (.istore 8, 2) := by decide +kernel
theorem dX0_fewestFor_70 : decode cX0_fewestFor 70 = .ok (.iload 8, 2) := by decide +kernel
theorem dX0_fewestFor_72 : decode cX0_fewestFor 72 = .ok (.ifCond .eq 11, 3) := by decide +kernel
theorem dX0_fewestFor_75 : decode cX0_fewestFor 75 = .ok (.iload 6, 2) := by decide +kernel
theorem dX0_fewestFor_77 : decode cX0_fewestFor 77 = .ok (.iload 7, 2) := by decide +kernel
theorem dX0_fewestFor_79 : decode cX0_fewestFor 79 = .ok (.iadd, 1) := by decide +kernel
theorem dX0_fewestFor_80 : decode cX0_fewestFor 80 = .ok (.goto 18, 3) := by decide +kernel
theorem dX0_fewestFor_83 : decode cX0_fewestFor 83 = .ok (.iload 6, 2) := by decide +kernel
theorem dX0_fewestFor_85 : decode cX0_fewestFor 85 = .ok (.sipush 1000, 3) := by decide +kernel
theorem dX0_fewestFor_88 : decode cX0_fewestFor 88 = .ok (.idiv, 1) := by decide +kernel
theorem dX0_fewestFor_89 : decode cX0_fewestFor 89 = .ok (.iconst 1, 1) := by decide +kernel
theorem dX0_fewestFor_90 : decode cX0_fewestFor 90 = .ok (.iadd, 1) := by decide +kernel
theorem dX0_fewestFor_91 : decode cX0_fewestFor 91 = .ok (.sipush 1000, 3) := by decide +kernel
theorem dX0_fewestFor_94 : decode cX0_fewestFor 94 = .ok (.imul, 1) := by decide +kernel
theorem dX0_fewestFor_95 : decode cX0_fewestFor 95 = .ok (.iload 7, 2) := by decide +kernel
theorem dX0_fewestFor_97 : decode cX0_fewestFor 97 = .ok (.iadd, 1) := by decide +kernel
theorem dX0_fewestFor_98 : decode cX0_fewestFor 98 = .ok (.istore 9, 2) := by decide +kernel
theorem dX0_fewestFor_100 : decode cX0_fewestFor 100 = .ok (.iload 4, 2) := by decide +kernel
theorem dX0_fewestFor_102 : decode cX0_fewestFor 102 = .ok (.iload 9, 2) := by decide +kernel
theorem dX0_fewestFor_104 : decode cX0_fewestFor 104 = .ok (.invokestatic 55, 3) := by decide +kernel
theorem dX0_fewestFor_107 : decode cX0_fewestFor 107 = .ok (.istore 4, 2) := by decide +kernel
theorem dX0_fewestFor_109 : decode cX0_fewestFor 109 = .ok (.iinc 5 1, 3) := by decide +kernel
theorem dX0_fewestFor_112 : decode cX0_fewestFor 112 = .ok (.goto (-105), 3) := by decide +kernel
theorem dX0_fewestFor_115 : decode cX0_fewestFor 115 = .ok (.iload 4, 2) := by decide +kernel
theorem dX0_fewestFor_117 : decode cX0_fewestFor 117 = .ok (.ireturn, 1) := by decide +kernel
end
section
theorem dX1_init_0 : decode cX1_init 0 = .ok (.aload_n 0, 1) := by decide +kernel
theorem dX1_init_1 : decode cX1_init 1 = .ok (.invokespecial 3, 3) := by decide +kernel
theorem dX1_init_4 : decode cX1_init 4 = .ok (.aload_n 0, 1) := by decide +kernel
theorem dX1_init_5 : decode cX1_init 5 = .ok (.bipush 120, 2) := by decide +kernel
theorem dX1_init_7 : decode cX1_init 7 = .ok (.newarray .int, 2) := by decide +kernel
theorem dX1_init_9 : decode cX1_init 9 = .ok (.putfield 9, 3) := by decide +kernel
theorem dX1_init_12 : decode cX1_init 12 = .ok (.aload_n 0, 1) := by decide +kernel
theorem dX1_init_13 : decode cX1_init 13 = .ok (.iconst 0, 1) := by decide +kernel
theorem dX1_init_14 : decode cX1_init 14 = .ok (.putfield 15, 3) := by decide +kernel
theorem dX1_init_17 : decode cX1_init 17 = .ok (.aload_n 0, 1) := by decide +kernel
theorem dX1_init_18 : decode cX1_init 18 = .ok (.bipush 121, 2) := by decide +kernel
theorem dX1_init_20 : decode cX1_init 20 = .ok (.newarray .int, 2) := by decide +kernel
theorem dX1_init_22 : decode cX1_init 22 = .ok (.putfield 19, 3) := by decide +kernel
theorem dX1_init_25 : decode cX1_init 25 = .ok (.aload_n 0, 1) := by decide +kernel
theorem dX1_init_26 : decode cX1_init 26 = .ok (.bipush 121, 2) := by decide +kernel
theorem dX1_init_28 : decode cX1_init 28 = .ok (.newarray .int, 2) := by decide +kernel
theorem dX1_init_30 : decode cX1_init 30 = .ok (.putfield 22, 3) := by decide +kernel
theorem dX1_init_33 : decode cX1_init 33 = .ok (.aload_n 0, 1) := by decide +kernel
theorem dX1_init_34 : decode cX1_init 34 = .ok (.bipush 121, 2) := by decide +kernel
theorem dX1_init_36 : decode cX1_init 36 = .ok (.newarray .int, 2) := by decide +kernel
theorem dX1_init_38 : decode cX1_init 38 = .ok (.putfield 25, 3) := by decide +kernel
theorem dX1_init_41 : decode cX1_init 41 = .ok (.aload_n 0, 1) := by decide +kernel
theorem dX1_init_42 : decode cX1_init 42 = .ok (.bipush 121, 2) := by decide +kernel
theorem dX1_init_44 : decode cX1_init 44 = .ok (.newarray .int, 2) := by decide +kernel
theorem dX1_init_46 : decode cX1_init 46 = .ok (.putfield 28, 3) := by decide +kernel
theorem dX1_init_49 : decode cX1_init 49 = .ok (.aload_n 0, 1) := by decide +kernel
theorem dX1_init_50 : decode cX1_init 50 = .ok (.iconst 0, 1) := by decide +kernel
theorem dX1_init_51 : decode cX1_init 51 = .ok (.putfield 31, 3) := by decide +kernel
theorem dX1_init_54 : decode cX1_init 54 = .ok (.aload_n 0, 1) := by decide +kernel
theorem dX1_init_55 : decode cX1_init 55 = .ok (.iconst 0, 1) := by decide +kernel
theorem dX1_init_56 : decode cX1_init 56 = .ok (.putfield 34, 3) := by decide +kernel
theorem dX1_init_59 : decode cX1_init 59 = .ok (.aload_n 0, 1) := by decide +kernel
theorem dX1_init_60 : decode cX1_init 60 = .ok (.iconst 0, 1) := by decide +kernel
theorem dX1_init_61 : decode cX1_init 61 = .ok (.putfield 37, 3) := by decide +kernel
theorem dX1_init_64 : decode cX1_init 64 = .ok (.aload_n 0, 1) := by decide +kernel
theorem dX1_init_65 : decode cX1_init 65 = .ok (.iconst 0, 1) := by decide +kernel
theorem dX1_init_66 : decode cX1_init 66 = .ok (.putfield 40, 3) := by decide +kernel
theorem dX1_init_69 : decode cX1_init 69 = .ok (.aload_n 0, 1) := by decide +kernel
theorem dX1_init_70 : decode cX1_init 70 = .ok (.iconst 0, 1) := by decide +kernel
theorem dX1_init_71 : decode cX1_init 71 = .ok (.putfield 43, 3) := by decide +kernel
theorem dX1_init_74 : decode cX1_init 74 = .ok (.return_, 1) := by decide +kernel
theorem dX1_addByte_0 : decode cX1_addByte 0 = .ok (.aload_n 0, 1) := by decide +kernel
theorem dX1_addByte_1 : decode cX1_addByte 1 = .ok (.getfield 15, 3) := by decide +kernel
theorem dX1_addByte_4 : decode cX1_addByte 4 = .ok (.bipush 120, 2) := by decide +kernel
theorem dX1_addByte_6 : decode cX1_addByte 6 = .ok (.if_icmp .ge 23, 3) := by decide +kernel
theorem dX1_addByte_9 : decode cX1_addByte 9 = .ok (.aload_n 0, 1) := by decide +kernel
theorem dX1_addByte_10 : decode cX1_addByte 10 = .ok (.getfield 9, 3) := by decide +kernel
theorem dX1_addByte_13 : decode cX1_addByte 13 = .ok (.aload_n 0, 1) := by decide +kernel
theorem dX1_addByte_14 : decode cX1_addByte 14 = .ok (.getfield 15, 3) := by decide +kernel
theorem dX1_addByte_17 : decode cX1_addByte 17 = .ok (.iload_n 1, 1) := by decide +kernel
theorem dX1_addByte_18 : decode cX1_addByte 18 = .ok (.iastore, 1) := by decide +kernel
theorem dX1_addByte_19 : decode cX1_addByte 19 = .ok (.aload_n 0, 1) := by decide +kernel
theorem dX1_addByte_20 : decode cX1_addByte 20 = .ok (.dup, 1) := by decide +kernel
theorem dX1_addByte_21 : decode cX1_addByte 21 = .ok (.getfield 15, 3) := by decide +kernel
theorem dX1_addByte_24 : decode cX1_addByte 24 = .ok (.iconst 1, 1) := by decide +kernel
theorem dX1_addByte_25 : decode cX1_addByte 25 = .ok (.iadd, 1) := by decide +kernel
theorem dX1_addByte_26 : decode cX1_addByte 26 = .ok (.putfield 15, 3) := by decide +kernel
theorem dX1_addByte_29 : decode cX1_addByte 29 = .ok (.return_, 1) := by decide +kernel
theorem dX1_readText_0 : decode cX1_readText 0 = .ok (.aload_n 0, 1) := by decide +kernel
theorem dX1_readText_1 : decode cX1_readText 1 = .ok (.invokevirtual 46, 3) := by decide +kernel
theorem dX1_readText_4 : decode cX1_readText 4 = .ok (.aload_n 0, 1) := by decide +kernel
theorem dX1_readText_5 : decode cX1_readText 5 = .ok (.iconst 0, 1) := by decide +kernel
theorem dX1_readText_6 : decode cX1_readText 6 = .ok (.putfield 34, 3) := by decide +kernel
theorem dX1_readText_9 : decode cX1_readText 9 = .ok (.iconst 1, 1) := by decide +kernel
theorem dX1_readText_10 : decode cX1_readText 10 = .ok (.istore_n 2, 1) := by decide +kernel
theorem dX1_readText_11 : decode cX1_readText 11 = .ok (.iload_n 2, 1) := by decide +kernel
theorem dX1_readText_12 : decode cX1_readText 12 = .ok (.bipush 120, 2) := by decide +kernel
theorem dX1_readText_14 : decode cX1_readText 14 = .ok (.if_icmp .gt 64, 3) := by decide +kernel
theorem dX1_readText_17 : decode cX1_readText 17 = .ok (.aload_n 0, 1) := by decide +kernel
theorem dX1_readText_18 : decode cX1_readText 18 = .ok (.aload_n 1, 1) := by decide +kernel
theorem dX1_readText_19 : decode cX1_readText 19 = .ok (.invokevirtual 49, 3) := by decide +kernel
theorem dX1_readText_22 : decode cX1_readText 22 = .ok (.ifCond .ne 15, 3) := by decide +kernel
theorem dX1_readText_25 : decode cX1_readText 25 = .ok (.iconst (-1), 1) := by decide +kernel
theorem dX1_readText_26 : decode cX1_readText 26 = .ok (.aload_n 0, 1) := by decide +kernel
theorem dX1_readText_27 : decode cX1_readText 27 = .ok (.getfield 19, 3) := by decide +kernel
theorem dX1_readText_30 : decode cX1_readText 30 = .ok (.aload_n 0, 1) := by decide +kernel
theorem dX1_readText_31 : decode cX1_readText 31 = .ok (.getfield 34, 3) := by decide +kernel
theorem dX1_readText_34 : decode cX1_readText 34 = .ok (.iaload, 1) := by decide +kernel
theorem dX1_readText_35 : decode cX1_readText 35 = .ok (.isub, 1) := by decide +kernel
theorem dX1_readText_36 : decode cX1_readText 36 = .ok (.ireturn, 1) := by decide +kernel
theorem dX1_readText_37 : decode cX1_readText 37 = .ok (.aload_n 0, 1) := by decide +kernel
theorem dX1_readText_38 : decode cX1_readText 38 = .ok (.getfield 25, 3) := by decide +kernel
theorem dX1_readText_41 : decode cX1_readText 41 = .ok (.aload_n 0, 1) := by decide +kernel
theorem dX1_readText_42 : decode cX1_readText 42 = .ok (.getfield 34, 3) := by decide +kernel
theorem dX1_readText_45 : decode cX1_readText 45 = .ok (.iaload, 1) := by decide +kernel
theorem dX1_readText_46 : decode cX1_readText 46 = .ok (.ifCond .ne 5, 3) := by decide +kernel
theorem dX1_readText_49 : decode cX1_readText 49 = .ok (.iload_n 2, 1) := by decide +kernel
theorem dX1_readText_50 : decode cX1_readText 50 = .ok (.ireturn, 1) := by decide +kernel
theorem dX1_readText_51 : decode cX1_readText 51 = .ok (.aload_n 0, 1) := by decide +kernel
theorem dX1_readText_52 : decode cX1_readText 52 = .ok (.bipush 59, 2) := by decide +kernel
theorem dX1_readText_54 : decode cX1_readText 54 = .ok (.invokevirtual 53, 3) := by decide +kernel
theorem dX1_readText_57 : decode cX1_readText 57 = .ok (.ifCond .ne 15, 3) := by decide +kernel
theorem dX1_readText_60 : decode cX1_readText 60 = .ok (.iconst (-1), 1) := by decide +kernel
theorem dX1_readText_61 : decode cX1_readText 61 = .ok (.aload_n 0, 1) := by decide +kernel
theorem dX1_readText_62 : decode cX1_readText 62 = .ok (.getfield 19, 3) := by decide +kernel
theorem dX1_readText_65 : decode cX1_readText 65 = .ok (.aload_n 0, 1) := by decide +kernel
theorem dX1_readText_66 : decode cX1_readText 66 = .ok (.getfield 34, 3) := by decide +kernel
theorem dX1_readText_69 : decode cX1_readText 69 = .ok (.iaload, 1) := by decide +kernel
theorem dX1_readText_70 : decode cX1_readText 70 = .ok (.isub, 1) := by decide +kernel
theorem dX1_readText_71 : decode cX1_readText 71 = .ok (.ireturn, 1) := by decide +kernel
theorem dX1_readText_72 : decode cX1_readText 72 = .ok (.iinc 2 1, 3) := by decide +kernel
theorem dX1_readText_75 : decode cX1_readText 75 = .ok (.goto (-64), 3) := by decide +kernel
theorem dX1_readText_78 : decode cX1_readText 78 = .ok (.iconst (-1), 1) := by decide +kernel
theorem dX1_readText_79 : decode cX1_readText 79 = .ok (.aload_n 0, 1) := by decide +kernel
theorem dX1_readText_80 : decode cX1_readText 80 = .ok (.getfield 19, 3) := by decide +kernel
theorem dX1_readText_83 : decode cX1_readText 83 = .ok (.aload_n 0, 1) := by decide +kernel
theorem dX1_readText_84 : decode cX1_readText 84 = .ok (.getfield 34, 3) := by decide +kernel
theorem dX1_readText_87 : decode cX1_readText 87 = .ok (.iaload, 1) := by decide +kernel
theorem dX1_readText_88 : decode cX1_readText 88 = .ok (.isub, 1) := by decide +kernel
theorem dX1_readText_89 : decode cX1_readText 89 = .ok (.ireturn, 1) := by decide +kernel
theorem dX1_splitTape_0 : decode cX1_splitTape 0 = .ok (.aload_n 0, 1) := by decide +kernel
theorem dX1_splitTape_1 : decode cX1_splitTape 1 = .ok (.iconst 0, 1) := by decide +kernel
theorem dX1_splitTape_2 : decode cX1_splitTape 2 = .ok (.putfield 31, 3) := by decide +kernel
theorem dX1_splitTape_5 : decode cX1_splitTape 5 = .ok (.iconst 5, 1) := by decide +kernel
theorem dX1_splitTape_6 : decode cX1_splitTape 6 = .ok (.istore_n 1, 1) := by decide +kernel
theorem dX1_splitTape_7 : decode cX1_splitTape 7 = .ok (.iconst 0, 1) := by decide +kernel
theorem dX1_splitTape_8 : decode cX1_splitTape 8 = .ok (.istore_n 2, 1) := by decide +kernel
theorem dX1_splitTape_9 : decode cX1_splitTape 9 = .ok (.iload_n 2, 1) := by decide +kernel
theorem dX1_splitTape_10 : decode cX1_splitTape 10 = .ok (.aload_n 0, 1) := by decide +kernel
theorem dX1_splitTape_11 : decode cX1_splitTape 11 = .ok (.getfield 15, 3) := by decide +kernel
theorem dX1_splitTape_14 : decode cX1_splitTape 14 = .ok (.if_icmp .ge 82, 3) := by decide +kernel
theorem dX1_splitTape_17 : decode cX1_splitTape 17 = .ok (.aload_n 0, 1) := by decide +kernel
theorem dX1_splitTape_18 : decode cX1_splitTape 18 = .ok (.getfield 9, 3) := by decide +kernel
theorem dX1_splitTape_21 : decode cX1_splitTape 21 = .ok (.iload_n 2, 1) := by decide +kernel
theorem dX1_splitTape_22 : decode cX1_splitTape 22 = .ok (.iaload, 1) := by decide +kernel
theorem dX1_splitTape_23 : decode cX1_splitTape 23 = .ok (.invokestatic 57, 3) := by decide +kernel
theorem dX1_splitTape_26 : decode cX1_splitTape 26 = .ok (.istore_n 3, 1) := by decide +kernel
theorem dX1_splitTape_27 : decode cX1_splitTape 27 = .ok (.iload_n 3, 1) := by decide +kernel
theorem dX1_splitTape_28 : decode cX1_splitTape 28 = .ok (.iload_n 1, 1) := by decide +kernel
theorem dX1_splitTape_29 : decode cX1_splitTape 29 = .ok (.if_icmp .ne 17, 3) := by decide +kernel
theorem dX1_splitTape_32 : decode cX1_splitTape 32 = .ok (.iload_n 3, 1) := by decide +kernel
theorem dX1_splitTape_33 : decode cX1_splitTape 33 = .ok (.iconst 1, 1) := by decide +kernel
theorem dX1_splitTape_34 : decode cX1_splitTape 34 = .ok (.if_icmp .eq 8, 3) := by decide +kernel
theorem dX1_splitTape_37 : decode cX1_splitTape 37 = .ok (.iload_n 3, 1) := by decide +kernel
theorem dX1_splitTape_38 : decode cX1_splitTape 38 = .ok (.iconst 2, 1) := by decide +kernel
theorem dX1_splitTape_39 : decode cX1_splitTape 39 = .ok (.if_icmp .ne 7, 3) := by decide +kernel
theorem dX1_splitTape_42 : decode cX1_splitTape 42 = .ok (.iconst 1, 1) := by decide +kernel
theorem dX1_splitTape_43 : decode cX1_splitTape 43 = .ok (.goto 4, 3) := by decide +kernel
theorem dX1_splitTape_46 : decode cX1_splitTape 46 = .ok (.iconst 0, 1) := by decide +kernel
theorem dX1_splitTape_47 : decode cX1_splitTape 47 = .ok (.istore 4, 2) := by decide +kernel
theorem dX1_splitTape_49 : decode cX1_splitTape 49 = .ok (.iload_n 3, 1) := by decide +kernel
theorem dX1_splitTape_50 : decode cX1_splitTape 50 = .ok (.iconst 5, 1) := by decide +kernel
theorem dX1_splitTape_51 : decode cX1_splitTape 51 = .ok (.if_icmp .eq 14, 3) := by decide +kernel
theorem dX1_splitTape_54 : decode cX1_splitTape 54 = .ok (.iload 4, 2) := by decide +kernel
theorem dX1_splitTape_56 : decode cX1_splitTape 56 = .ok (.ifCond .ne 9, 3) := by decide +kernel
theorem dX1_splitTape_59 : decode cX1_splitTape 59 = .ok (.aload_n 0, 1) := by decide +kernel
theorem dX1_splitTape_60 : decode cX1_splitTape 60 = .ok (.iload_n 2, 1) := by decide +kernel
theorem dX1_splitTape_61 : decode cX1_splitTape 61 = .ok (.iload_n 3, 1) := by decide +kernel
theorem dX1_splitTape_62 : decode cX1_splitTape 62 = .ok (.invokevirtual 61, 3) := by decide +kernel
theorem dX1_splitTape_65 : decode cX1_splitTape 65 = .ok (.iload_n 3, 1) := by decide +kernel
theorem dX1_splitTape_66 : decode cX1_splitTape 66 = .ok (.iconst 5, 1) := by decide +kernel
theorem dX1_splitTape_67 : decode cX1_splitTape 67 = .ok (.if_icmp .eq 21, 3) := by decide +kernel
theorem dX1_splitTape_70 : decode cX1_splitTape 70 = .ok (.aload_n 0, 1) := by decide +kernel
theorem dX1_splitTape_71 : decode cX1_splitTape 71 = .ok (.getfield 31, 3) := by decide +kernel
theorem dX1_splitTape_74 : decode cX1_splitTape 74 = .ok (.ifCond .le 14, 3) := by decide +kernel
theorem dX1_splitTape_77 : decode cX1_splitTape 77 = .ok (.aload_n 0, 1) := by decide +kernel
theorem dX1_splitTape_78 : decode cX1_splitTape 78 = .ok (.aload_n 0, 1) := by decide +kernel
theorem dX1_splitTape_79 : decode cX1_splitTape 79 = .ok (.getfield 31, 3) := by decide +kernel
theorem dX1_splitTape_82 : decode cX1_splitTape 82 = .ok (.iconst 1, 1) := by decide +kernel
theorem dX1_splitTape_83 : decode cX1_splitTape 83 = .ok (.isub, 1) := by decide +kernel
theorem dX1_splitTape_84 : decode cX1_splitTape 84 = .ok (.iload_n 2, 1) := by decide +kernel
theorem dX1_splitTape_85 : decode cX1_splitTape 85 = .ok (.invokevirtual 65, 3) := by decide +kernel
theorem dX1_splitTape_88 : decode cX1_splitTape 88 = .ok (.iload_n 3, 1) := by decide +kernel
theorem dX1_splitTape_89 : decode cX1_splitTape 89 = .ok (.istore_n 1, 1) := by decide +kernel
theorem dX1_splitTape_90 : decode cX1_splitTape 90 = .ok (.iinc 2 1, 3) := by decide +kernel
theorem dX1_splitTape_93 : decode cX1_splitTape 93 = .ok (.goto (-84), 3) := by decide +kernel
theorem dX1_splitTape_96 : decode cX1_splitTape 96 = .ok (.aload_n 0, 1) := by decide +kernel
theorem dX1_splitTape_97 : decode cX1_splitTape 97 = .ok (.aload_n 0, 1) := by decide +kernel
theorem dX1_splitTape_98 : decode cX1_splitTape 98 = .ok (.getfield 15, 3) := by decide +kernel
theorem dX1_splitTape_101 : decode cX1_splitTape 101 = .ok (.iconst 0, 1) := by decide +kernel
theorem dX1_splitTape_102 : decode cX1_splitTape 102 = .ok (.invokevirtual 61, 3) := by decide +kernel
theorem dX1_splitTape_105 : decode cX1_splitTape 105 = .ok (.return_, 1) := by decide +kernel
theorem dX1_beginToken_0 : decode cX1_beginToken 0 = .ok (.aload_n 0, 1) := by decide +kernel
theorem dX1_beginToken_1 : decode cX1_beginToken 1 = .ok (.getfield 31, 3) := by decide +kernel
theorem dX1_beginToken_4 : decode cX1_beginToken 4 = .ok (.bipush 120, 2) := by decide +kernel
theorem dX1_beginToken_6 : decode cX1_beginToken 6 = .ok (.if_icmp .gt 53, 3) := by decide +kernel
theorem dX1_beginToken_9 : decode cX1_beginToken 9 = .ok (.aload_n 0, 1) := by decide +kernel
theorem dX1_beginToken_10 : decode cX1_beginToken 10 = .ok (.getfield 19, 3) := by decide +kernel
theorem dX1_beginToken_13 : decode cX1_beginToken 13 = .ok (.aload_n 0, 1) := by decide +kernel
theorem dX1_beginToken_14 : decode cX1_beginToken 14 = .ok (.getfield 31, 3) := by decide +kernel
theorem dX1_beginToken_17 : decode cX1_beginToken 17 = .ok (.iload_n 1, 1) := by decide +kernel
theorem dX1_beginToken_18 : decode cX1_beginToken 18 = .ok (.iastore, 1) := by decide +kernel
theorem dX1_beginToken_19 : decode cX1_beginToken 19 = .ok (.aload_n 0, 1) := by decide +kernel
theorem dX1_beginToken_20 : decode cX1_beginToken 20 = .ok (.getfield 22, 3) := by decide +kernel
theorem dX1_beginToken_23 : decode cX1_beginToken 23 = .ok (.aload_n 0, 1) := by decide +kernel
theorem dX1_beginToken_24 : decode cX1_beginToken 24 = .ok (.getfield 31, 3) := by decide +kernel
theorem dX1_beginToken_27 : decode cX1_beginToken 27 = .ok (.iload_n 1, 1) := by decide +kernel
theorem dX1_beginToken_28 : decode cX1_beginToken 28 = .ok (.iastore, 1) := by decide +kernel
theorem dX1_beginToken_29 : decode cX1_beginToken 29 = .ok (.aload_n 0, 1) := by decide +kernel
theorem dX1_beginToken_30 : decode cX1_beginToken 30 = .ok (.getfield 25, 3) := by decide +kernel
theorem dX1_beginToken_33 : decode cX1_beginToken 33 = .ok (.aload_n 0, 1) := by decide +kernel
theorem dX1_beginToken_34 : decode cX1_beginToken 34 = .ok (.getfield 31, 3) := by decide +kernel
theorem dX1_beginToken_37 : decode cX1_beginToken 37 = .ok (.iload_n 2, 1) := by decide +kernel
theorem dX1_beginToken_38 : decode cX1_beginToken 38 = .ok (.iastore, 1) := by decide +kernel
theorem dX1_beginToken_39 : decode cX1_beginToken 39 = .ok (.aload_n 0, 1) := by decide +kernel
theorem dX1_beginToken_40 : decode cX1_beginToken 40 = .ok (.getfield 28, 3) := by decide +kernel
theorem dX1_beginToken_43 : decode cX1_beginToken 43 = .ok (.aload_n 0, 1) := by decide +kernel
theorem dX1_beginToken_44 : decode cX1_beginToken 44 = .ok (.getfield 31, 3) := by decide +kernel
theorem dX1_beginToken_47 : decode cX1_beginToken 47 = .ok (.iconst 0, 1) := by decide +kernel
theorem dX1_beginToken_48 : decode cX1_beginToken 48 = .ok (.iastore, 1) := by decide +kernel
theorem dX1_beginToken_49 : decode cX1_beginToken 49 = .ok (.aload_n 0, 1) := by decide +kernel
theorem dX1_beginToken_50 : decode cX1_beginToken 50 = .ok (.dup, 1) := by decide +kernel
theorem dX1_beginToken_51 : decode cX1_beginToken 51 = .ok (.getfield 31, 3) := by decide +kernel
theorem dX1_beginToken_54 : decode cX1_beginToken 54 = .ok (.iconst 1, 1) := by decide +kernel
theorem dX1_beginToken_55 : decode cX1_beginToken 55 = .ok (.iadd, 1) := by decide +kernel
theorem dX1_beginToken_56 : decode cX1_beginToken 56 = .ok (.putfield 31, 3) := by decide +kernel
theorem dX1_beginToken_59 : decode cX1_beginToken 59 = .ok (.return_, 1) := by decide +kernel
theorem dX1_growToken_0 : decode cX1_growToken 0 = .ok (.aload_n 0, 1) := by decide +kernel
theorem dX1_growToken_1 : decode cX1_growToken 1 = .ok (.getfield 22, 3) := by decide +kernel
theorem dX1_growToken_4 : decode cX1_growToken 4 = .ok (.iload_n 1, 1) := by decide +kernel
theorem dX1_growToken_5 : decode cX1_growToken 5 = .ok (.iload_n 2, 1) := by decide +kernel
theorem dX1_growToken_6 : decode cX1_growToken 6 = .ok (.iconst 1, 1) := by decide +kernel
theorem dX1_growToken_7 : decode cX1_growToken 7 = .ok (.iadd, 1) := by decide +kernel
theorem dX1_growToken_8 : decode cX1_growToken 8 = .ok (.iastore, 1) := by decide +kernel
theorem dX1_growToken_9 : decode cX1_growToken 9 = .ok (.aload_n 0, 1) := by decide +kernel
theorem dX1_growToken_10 : decode cX1_growToken 10 = .ok (.getfield 25, 3) := by decide +kernel
theorem dX1_growToken_13 : decode cX1_growToken 13 = .ok (.iload_n 1, 1) := by decide +kernel
theorem dX1_growToken_14 : decode cX1_growToken 14 = .ok (.iaload, 1) := by decide +kernel
theorem dX1_growToken_15 : decode cX1_growToken 15 = .ok (.iconst 2, 1) := by decide +kernel
theorem dX1_growToken_16 : decode cX1_growToken 16 = .ok (.if_icmp .ne 34, 3) := by decide +kernel
theorem dX1_growToken_19 : decode cX1_growToken 19 = .ok (.aload_n 0, 1) := by decide +kernel
theorem dX1_growToken_20 : decode cX1_growToken 20 = .ok (.getfield 28, 3) := by decide +kernel
theorem dX1_growToken_23 : decode cX1_growToken 23 = .ok (.iload_n 1, 1) := by decide +kernel
theorem dX1_growToken_24 : decode cX1_growToken 24 = .ok (.sipush 1000, 3) := by decide +kernel
theorem dX1_growToken_27 : decode cX1_growToken 27 = .ok (.aload_n 0, 1) := by decide +kernel
theorem dX1_growToken_28 : decode cX1_growToken 28 = .ok (.getfield 28, 3) := by decide +kernel
theorem dX1_growToken_31 : decode cX1_growToken 31 = .ok (.iload_n 1, 1) := by decide +kernel
theorem dX1_growToken_32 : decode cX1_growToken 32 = .ok (.iaload, 1) := by decide +kernel
theorem dX1_growToken_33 : decode cX1_growToken 33 = .ok (.bipush 10, 2) := by decide +kernel
theorem dX1_growToken_35 : decode cX1_growToken 35 = .ok (.imul, 1) := by decide +kernel
theorem dX1_growToken_36 : decode cX1_growToken 36 = .ok (.aload_n 0, 1) := by decide +kernel
theorem dX1_growToken_37 : decode cX1_growToken 37 = .ok (.getfield 9, 3) := by decide +kernel
theorem dX1_growToken_40 : decode cX1_growToken 40 = .ok (.iload_n 2, 1) := by decide +kernel
theorem dX1_growToken_41 : decode cX1_growToken 41 = .ok (.iaload, 1) := by decide +kernel
theorem dX1_growToken_42 : decode cX1_growToken 42 = .ok (.iadd, 1) := by decide +kernel
theorem dX1_growToken_43 : decode cX1_growToken 43 = .ok (.bipush 48, 2) := by decide +kernel
theorem dX1_growToken_45 : decode cX1_growToken 45 = .ok (.isub, 1) := by decide +kernel
theorem dX1_growToken_46 : decode cX1_growToken 46 = .ok (.invokestatic 68, 3) := by decide +kernel
theorem dX1_growToken_49 : decode cX1_growToken 49 = .ok (.iastore, 1) := by decide +kernel
theorem dX1_growToken_50 : decode cX1_growToken 50 = .ok (.return_, 1) := by decide +kernel
theorem dX1_typeOf_0 : decode cX1_typeOf 0 = .ok (.iload_n 0, 1) := by decide +kernel
theorem dX1_typeOf_1 : decode cX1_typeOf 1 = .ok (.bipush 97, 2) := by decide +kernel
theorem dX1_typeOf_3 : decode cX1_typeOf 3 = .ok (.bipush 122, 2) := by decide +kernel
theorem dX1_typeOf_5 : decode cX1_typeOf 5 = .ok (.invokestatic 74, 3) := by decide +kernel
theorem dX1_typeOf_8 : decode cX1_typeOf 8 = .ok (.ifCond .eq 5, 3) := by decide +kernel
theorem dX1_typeOf_11 : decode cX1_typeOf 11 = .ok (.iconst 1, 1) := by decide +kernel
theorem dX1_typeOf_12 : decode cX1_typeOf 12 = .ok (.ireturn, 1) := by decide +kernel
theorem dX1_typeOf_13 : decode cX1_typeOf 13 = .ok (.iload_n 0, 1) := by decide +kernel
theorem dX1_typeOf_14 : decode cX1_typeOf 14 = .ok (.bipush 48, 2) := by decide +kernel
theorem dX1_typeOf_16 : decode cX1_typeOf 16 = .ok (.bipush 57, 2) := by decide +kernel
theorem dX1_typeOf_18 : decode cX1_typeOf 18 = .ok (.invokestatic 74, 3) := by decide +kernel
theorem dX1_typeOf_21 : decode cX1_typeOf 21 = .ok (.ifCond .eq 5, 3) := by decide +kernel
theorem dX1_typeOf_24 : decode cX1_typeOf 24 = .ok (.iconst 2, 1) := by decide +kernel
theorem dX1_typeOf_25 : decode cX1_typeOf 25 = .ok (.ireturn, 1) := by decide +kernel
theorem dX1_typeOf_26 : decode cX1_typeOf 26 = .ok (.iload_n 0, 1) := by decide +kernel
theorem dX1_typeOf_27 : decode cX1_typeOf 27 = .ok (.bipush 32, 2) := by decide +kernel
theorem dX1_typeOf_29 : decode cX1_typeOf 29 = .ok (.if_icmp .ne 5, 3) := by decide +kernel
theorem dX1_typeOf_32 : decode cX1_typeOf 32 = .ok (.iconst 5, 1) := by decide +kernel
theorem dX1_typeOf_33 : decode cX1_typeOf 33 = .ok (.ireturn, 1) := by decide +kernel
theorem dX1_typeOf_34 : decode cX1_typeOf 34 = .ok (.iload_n 0, 1) := by decide +kernel
theorem dX1_typeOf_35 : decode cX1_typeOf 35 = .ok (.bipush 59, 2) := by decide +kernel
theorem dX1_typeOf_37 : decode cX1_typeOf 37 = .ok (.if_icmp .eq 9, 3) := by decide +kernel
theorem dX1_typeOf_40 : decode cX1_typeOf 40 = .ok (.iload_n 0, 1) := by decide +kernel
theorem dX1_typeOf_41 : decode cX1_typeOf 41 = .ok (.bipush 45, 2) := by decide +kernel
theorem dX1_typeOf_43 : decode cX1_typeOf 43 = .ok (.if_icmp .ne 7, 3) := by decide +kernel
theorem dX1_typeOf_46 : decode cX1_typeOf 46 = .ok (.iconst 3, 1) := by decide +kernel
theorem dX1_typeOf_47 : decode cX1_typeOf 47 = .ok (.goto 4, 3) := by decide +kernel
theorem dX1_typeOf_50 : decode cX1_typeOf 50 = .ok (.iconst 4, 1) := by decide +kernel
theorem dX1_typeOf_51 : decode cX1_typeOf 51 = .ok (.ireturn, 1) := by decide +kernel
theorem dX1_readItem_0 : decode cX1_readItem 0 = .ok (.iconst 0, 1) := by decide +kernel
theorem dX1_readItem_1 : decode cX1_readItem 1 = .ok (.istore_n 2, 1) := by decide +kernel
theorem dX1_readItem_2 : decode cX1_readItem 2 = .ok (.iload_n 2, 1) := by decide +kernel
theorem dX1_readItem_3 : decode cX1_readItem 3 = .ok (.iconst 5, 1) := by decide +kernel
theorem dX1_readItem_4 : decode cX1_readItem 4 = .ok (.if_icmp .ge 27, 3) := by decide +kernel
theorem dX1_readItem_7 : decode cX1_readItem 7 = .ok (.aload_n 0, 1) := by decide +kernel
theorem dX1_readItem_8 : decode cX1_readItem 8 = .ok (.iload_n 2, 1) := by decide +kernel
theorem dX1_readItem_9 : decode cX1_readItem 9 = .ok (.invokestatic 78, 3) := by decide +kernel
theorem dX1_readItem_12 : decode cX1_readItem 12 = .ok (.invokevirtual 82, 3) := by decide +kernel
theorem dX1_readItem_15 : decode cX1_readItem 15 = .ok (.ifCond .eq 10, 3) := by decide +kernel
theorem dX1_readItem_18 : decode cX1_readItem 18 = .ok (.aload_n 0, 1) := by decide +kernel
theorem dX1_readItem_19 : decode cX1_readItem 19 = .ok (.aload_n 1, 1) := by decide +kernel
theorem dX1_readItem_20 : decode cX1_readItem 20 = .ok (.iload_n 2, 1) := by decide +kernel
theorem dX1_readItem_21 : decode cX1_readItem 21 = .ok (.invokevirtual 86, 3) := by decide +kernel
theorem dX1_readItem_24 : decode cX1_readItem 24 = .ok (.ireturn, 1) := by decide +kernel
theorem dX1_readItem_25 : decode cX1_readItem 25 = .ok (.iinc 2 1, 3) := by decide +kernel
theorem dX1_readItem_28 : decode cX1_readItem 28 = .ok (.goto (-26), 3) := by decide +kernel
theorem dX1_readItem_31 : decode cX1_readItem 31 = .ok (.iconst 0, 1) := by decide +kernel
theorem dX1_readItem_32 : decode cX1_readItem 32 = .ok (.istore_n 2, 1) := by decide +kernel
theorem dX1_readItem_33 : decode cX1_readItem 33 = .ok (.iload_n 2, 1) := by decide +kernel
theorem dX1_readItem_34 : decode cX1_readItem 34 = .ok (.bipush 7, 2) := by decide +kernel
theorem dX1_readItem_36 : decode cX1_readItem 36 = .ok (.if_icmp .ge 42, 3) := by decide +kernel
theorem dX1_readItem_39 : decode cX1_readItem 39 = .ok (.aload_n 0, 1) := by decide +kernel
theorem dX1_readItem_40 : decode cX1_readItem 40 = .ok (.iload_n 2, 1) := by decide +kernel
theorem dX1_readItem_41 : decode cX1_readItem 41 = .ok (.invokestatic 90, 3) := by decide +kernel
theorem dX1_readItem_44 : decode cX1_readItem 44 = .ok (.invokevirtual 93, 3) := by decide +kernel
theorem dX1_readItem_47 : decode cX1_readItem 47 = .ok (.ifCond .eq 25, 3) := by decide +kernel
theorem dX1_readItem_50 : decode cX1_readItem 50 = .ok (.aload_n 1, 1) := by decide +kernel
theorem dX1_readItem_51 : decode cX1_readItem 51 = .ok (.invokevirtual 96, 3) := by decide +kernel
theorem dX1_readItem_54 : decode cX1_readItem 54 = .ok (.ifCond .ne 16, 3) := by decide +kernel
theorem dX1_readItem_57 : decode cX1_readItem 57 = .ok (.aload_n 0, 1) := by decide +kernel
theorem dX1_readItem_58 : decode cX1_readItem 58 = .ok (.aload_n 1, 1) := by decide +kernel
theorem dX1_readItem_59 : decode cX1_readItem 59 = .ok (.iload_n 2, 1) := by decide +kernel
theorem dX1_readItem_60 : decode cX1_readItem 60 = .ok (.invokevirtual 102, 3) := by decide +kernel
theorem dX1_readItem_63 : decode cX1_readItem 63 = .ok (.ifCond .eq 7, 3) := by decide +kernel
theorem dX1_readItem_66 : decode cX1_readItem 66 = .ok (.iconst 1, 1) := by decide +kernel
theorem dX1_readItem_67 : decode cX1_readItem 67 = .ok (.goto 4, 3) := by decide +kernel
theorem dX1_readItem_70 : decode cX1_readItem 70 = .ok (.iconst 0, 1) := by decide +kernel
theorem dX1_readItem_71 : decode cX1_readItem 71 = .ok (.ireturn, 1) := by decide +kernel
theorem dX1_readItem_72 : decode cX1_readItem 72 = .ok (.iinc 2 1, 3) := by decide +kernel
theorem dX1_readItem_75 : decode cX1_readItem 75 = .ok (.goto (-42), 3) := by decide +kernel
theorem dX1_readItem_78 : decode cX1_readItem 78 = .ok (.aload_n 0, 1) := by decide +kernel
theorem dX1_readItem_79 : decode cX1_readItem 79 = .ok (.ldc 105, 2) := by decide +kernel
theorem dX1_readItem_81 : decode cX1_readItem 81 = .ok (.invokevirtual 82, 3) := by decide +kernel
theorem dX1_readItem_84 : decode cX1_readItem 84 = .ok (.ifCond .eq 9, 3) := by decide +kernel
theorem dX1_readItem_87 : decode cX1_readItem 87 = .ok (.aload_n 0, 1) := by decide +kernel
theorem dX1_readItem_88 : decode cX1_readItem 88 = .ok (.aload_n 1, 1) := by decide +kernel
theorem dX1_readItem_89 : decode cX1_readItem 89 = .ok (.invokevirtual 107, 3) := by decide +kernel
theorem dX1_readItem_92 : decode cX1_readItem 92 = .ok (.ireturn, 1) := by decide +kernel
theorem dX1_readItem_93 : decode cX1_readItem 93 = .ok (.aload_n 0, 1) := by decide +kernel
theorem dX1_readItem_94 : decode cX1_readItem 94 = .ok (.ldc 110, 2) := by decide +kernel
theorem dX1_readItem_96 : decode cX1_readItem 96 = .ok (.invokevirtual 82, 3) := by decide +kernel
theorem dX1_readItem_99 : decode cX1_readItem 99 = .ok (.ifCond .eq 15, 3) := by decide +kernel
theorem dX1_readItem_102 : decode cX1_readItem 102 = .ok (.aload_n 0, 1) := by decide +kernel
theorem dX1_readItem_103 : decode cX1_readItem 103 = .ok (.aload_n 1, 1) := by decide +kernel
theorem dX1_readItem_104 : decode cX1_readItem 104 = .ok (.invokevirtual 112, 3) := by decide +kernel
theorem dX1_readItem_107 : decode cX1_readItem 107 = .ok (.ifCond .eq 7, 3) := by decide +kernel
theorem dX1_readItem_110 : decode cX1_readItem 110 = .ok (.iconst 1, 1) := by decide +kernel
theorem dX1_readItem_111 : decode cX1_readItem 111 = .ok (.goto 4, 3) := by decide +kernel
theorem dX1_readItem_114 : decode cX1_readItem 114 = .ok (.iconst 0, 1) := by decide +kernel
theorem dX1_readItem_115 : decode cX1_readItem 115 = .ok (.ireturn, 1) := by decide +kernel
theorem dX1_readGround_0 : decode cX1_readGround 0 = .ok (.aload_n 0, 1) := by decide +kernel
theorem dX1_readGround_1 : decode cX1_readGround 1 = .ok (.invokevirtual 115, 3) := by decide +kernel
theorem dX1_readGround_4 : decode cX1_readGround 4 = .ok (.ifCond .ne 5, 3) := by decide +kernel
theorem dX1_readGround_7 : decode cX1_readGround 7 = .ok (.iconst 0, 1) := by decide +kernel
theorem dX1_readGround_8 : decode cX1_readGround 8 = .ok (.ireturn, 1) := by decide +kernel
theorem dX1_readGround_9 : decode cX1_readGround 9 = .ok (.aload_n 0, 1) := by decide +kernel
theorem dX1_readGround_10 : decode cX1_readGround 10 = .ok (.getfield 40, 3) := by decide +kernel
theorem dX1_readGround_13 : decode cX1_readGround 13 = .ok (.istore_n 3, 1) := by decide +kernel
theorem dX1_readGround_14 : decode cX1_readGround 14 = .ok (.iload_n 3, 1) := by decide +kernel
theorem dX1_readGround_15 : decode cX1_readGround 15 = .ok (.aload_n 0, 1) := by decide +kernel
theorem dX1_readGround_16 : decode cX1_readGround 16 = .ok (.getfield 43, 3) := by decide +kernel
theorem dX1_readGround_19 : decode cX1_readGround 19 = .ok (.if_icmp .gt 16, 3) := by decide +kernel
theorem dX1_readGround_22 : decode cX1_readGround 22 = .ok (.aload_n 1, 1) := by decide +kernel
theorem dX1_readGround_23 : decode cX1_readGround 23 = .ok (.getfield 118, 3) := by decide +kernel
theorem dX1_readGround_26 : decode cX1_readGround 26 = .ok (.iload_n 3, 1) := by decide +kernel
theorem dX1_readGround_27 : decode cX1_readGround 27 = .ok (.iload_n 2, 1) := by decide +kernel
theorem dX1_readGround_28 : decode cX1_readGround 28 = .ok (.iastore, 1) := by decide +kernel
theorem dX1_readGround_29 : decode cX1_readGround 29 = .ok (.iinc 3 1, 3) := by decide +kernel
theorem dX1_readGround_32 : decode cX1_readGround 32 = .ok (.goto (-18), 3) := by decide +kernel
theorem dX1_readGround_35 : decode cX1_readGround 35 = .ok (.iconst 1, 1) := by decide +kernel
theorem dX1_readGround_36 : decode cX1_readGround 36 = .ok (.ireturn, 1) := by decide +kernel
theorem dX1_readFall_0 : decode cX1_readFall 0 = .ok (.aload_n 0, 1) := by decide +kernel
theorem dX1_readFall_1 : decode cX1_readFall 1 = .ok (.invokevirtual 115, 3) := by decide +kernel
theorem dX1_readFall_4 : decode cX1_readFall 4 = .ok (.ifCond .eq 12, 3) := by decide +kernel
theorem dX1_readFall_7 : decode cX1_readFall 7 = .ok (.aload_n 0, 1) := by decide +kernel
theorem dX1_readFall_8 : decode cX1_readFall 8 = .ok (.ldc 121, 2) := by decide +kernel
theorem dX1_readFall_10 : decode cX1_readFall 10 = .ok (.invokevirtual 82, 3) := by decide +kernel
theorem dX1_readFall_13 : decode cX1_readFall 13 = .ok (.ifCond .ne 5, 3) := by decide +kernel
theorem dX1_readFall_16 : decode cX1_readFall 16 = .ok (.iconst 0, 1) := by decide +kernel
theorem dX1_readFall_17 : decode cX1_readFall 17 = .ok (.ireturn, 1) := by decide +kernel
theorem dX1_readFall_18 : decode cX1_readFall 18 = .ok (.aload_n 0, 1) := by decide +kernel
theorem dX1_readFall_19 : decode cX1_readFall 19 = .ok (.bipush 45, 2) := by decide +kernel
theorem dX1_readFall_21 : decode cX1_readFall 21 = .ok (.invokevirtual 53, 3) := by decide +kernel
theorem dX1_readFall_24 : decode cX1_readFall 24 = .ok (.istore_n 2, 1) := by decide +kernel
theorem dX1_readFall_25 : decode cX1_readFall 25 = .ok (.aload_n 0, 1) := by decide +kernel
theorem dX1_readFall_26 : decode cX1_readFall 26 = .ok (.iconst 0, 1) := by decide +kernel
theorem dX1_readFall_27 : decode cX1_readFall 27 = .ok (.bipush 9, 2) := by decide +kernel
theorem dX1_readFall_29 : decode cX1_readFall 29 = .ok (.invokevirtual 123, 3) := by decide +kernel
theorem dX1_readFall_32 : decode cX1_readFall 32 = .ok (.ifCond .ne 5, 3) := by decide +kernel
theorem dX1_readFall_35 : decode cX1_readFall 35 = .ok (.iconst 0, 1) := by decide +kernel
theorem dX1_readFall_36 : decode cX1_readFall 36 = .ok (.ireturn, 1) := by decide +kernel
theorem dX1_readFall_37 : decode cX1_readFall 37 = .ok (.aload_n 0, 1) := by decide +kernel
theorem dX1_readFall_38 : decode cX1_readFall 38 = .ok (.getfield 40, 3) := by decide +kernel
theorem dX1_readFall_41 : decode cX1_readFall 41 = .ok (.istore_n 3, 1) := by decide +kernel
theorem dX1_readFall_42 : decode cX1_readFall 42 = .ok (.iload_n 3, 1) := by decide +kernel
theorem dX1_readFall_43 : decode cX1_readFall 43 = .ok (.aload_n 0, 1) := by decide +kernel
theorem dX1_readFall_44 : decode cX1_readFall 44 = .ok (.getfield 43, 3) := by decide +kernel
theorem dX1_readFall_47 : decode cX1_readFall 47 = .ok (.if_icmp .gt 31, 3) := by decide +kernel
theorem dX1_readFall_50 : decode cX1_readFall 50 = .ok (.aload_n 1, 1) := by decide +kernel
theorem dX1_readFall_51 : decode cX1_readFall 51 = .ok (.getfield 127, 3) := by decide +kernel
theorem dX1_readFall_54 : decode cX1_readFall 54 = .ok (.iload_n 3, 1) := by decide +kernel
theorem dX1_readFall_55 : decode cX1_readFall 55 = .ok (.iload_n 2, 1) := by decide +kernel
theorem dX1_readFall_56 : decode cX1_readFall 56 = .ok (.ifCond .eq 11, 3) := by decide +kernel
theorem dX1_readFall_59 : decode cX1_readFall 59 = .ok (.aload_n 0, 1) := by decide +kernel
theorem dX1_readFall_60 : decode cX1_readFall 60 = .ok (.getfield 37, 3) := by decide +kernel
theorem dX1_readFall_63 : decode cX1_readFall 63 = .ok (.ineg, 1) := by decide +kernel
theorem dX1_readFall_64 : decode cX1_readFall 64 = .ok (.goto 7, 3) := by decide +kernel
theorem dX1_readFall_67 : decode cX1_readFall 67 = .ok (.aload_n 0, 1) := by decide +kernel
theorem dX1_readFall_68 : decode cX1_readFall 68 = .ok (.getfield 37, 3) := by decide +kernel
theorem dX1_readFall_71 : decode cX1_readFall 71 = .ok (.iastore, 1) := by decide +kernel
theorem dX1_readFall_72 : decode cX1_readFall 72 = .ok (.iinc 3 1, 3) := by decide +kernel
theorem dX1_readFall_75 : decode cX1_readFall 75 = .ok (.goto (-33), 3) := by decide +kernel
theorem dX1_readFall_78 : decode cX1_readFall 78 = .ok (.iconst 1, 1) := by decide +kernel
theorem dX1_readFall_79 : decode cX1_readFall 79 = .ok (.ireturn, 1) := by decide +kernel
theorem dX1_readShut_0 : decode cX1_readShut 0 = .ok (.aload_n 0, 1) := by decide +kernel
theorem dX1_readShut_1 : decode cX1_readShut 1 = .ok (.iconst 0, 1) := by decide +kernel
theorem dX1_readShut_2 : decode cX1_readShut 2 = .ok (.bipush 59, 2) := by decide +kernel
theorem dX1_readShut_4 : decode cX1_readShut 4 = .ok (.invokevirtual 123, 3) := by decide +kernel
theorem dX1_readShut_7 : decode cX1_readShut 7 = .ok (.ifCond .ne 5, 3) := by decide +kernel
theorem dX1_readShut_10 : decode cX1_readShut 10 = .ok (.iconst 0, 1) := by decide +kernel
theorem dX1_readShut_11 : decode cX1_readShut 11 = .ok (.ireturn, 1) := by decide +kernel
theorem dX1_readShut_12 : decode cX1_readShut 12 = .ok (.aload_n 0, 1) := by decide +kernel
theorem dX1_readShut_13 : decode cX1_readShut 13 = .ok (.aload_n 0, 1) := by decide +kernel
theorem dX1_readShut_14 : decode cX1_readShut 14 = .ok (.getfield 37, 3) := by decide +kernel
theorem dX1_readShut_17 : decode cX1_readShut 17 = .ok (.putfield 40, 3) := by decide +kernel
theorem dX1_readShut_20 : decode cX1_readShut 20 = .ok (.aload_n 0, 1) := by decide +kernel
theorem dX1_readShut_21 : decode cX1_readShut 21 = .ok (.ldc 130, 2) := by decide +kernel
theorem dX1_readShut_23 : decode cX1_readShut 23 = .ok (.invokevirtual 82, 3) := by decide +kernel
theorem dX1_readShut_26 : decode cX1_readShut 26 = .ok (.ifCond .eq 13, 3) := by decide +kernel
theorem dX1_readShut_29 : decode cX1_readShut 29 = .ok (.aload_n 0, 1) := by decide +kernel
theorem dX1_readShut_30 : decode cX1_readShut 30 = .ok (.iconst 0, 1) := by decide +kernel
theorem dX1_readShut_31 : decode cX1_readShut 31 = .ok (.bipush 59, 2) := by decide +kernel
theorem dX1_readShut_33 : decode cX1_readShut 33 = .ok (.invokevirtual 123, 3) := by decide +kernel
theorem dX1_readShut_36 : decode cX1_readShut 36 = .ok (.ifCond .ne 5, 3) := by decide +kernel
theorem dX1_readShut_39 : decode cX1_readShut 39 = .ok (.iconst 0, 1) := by decide +kernel
theorem dX1_readShut_40 : decode cX1_readShut 40 = .ok (.ireturn, 1) := by decide +kernel
theorem dX1_readShut_41 : decode cX1_readShut 41 = .ok (.aload_n 1, 1) := by decide +kernel
theorem dX1_readShut_42 : decode cX1_readShut 42 = .ok (.aload_n 0, 1) := by decide +kernel
theorem dX1_readShut_43 : decode cX1_readShut 43 = .ok (.getfield 40, 3) := by decide +kernel
theorem dX1_readShut_46 : decode cX1_readShut 46 = .ok (.putfield 131, 3) := by decide +kernel
theorem dX1_readShut_49 : decode cX1_readShut 49 = .ok (.aload_n 1, 1) := by decide +kernel
theorem dX1_readShut_50 : decode cX1_readShut 50 = .ok (.aload_n 0, 1) := by decide +kernel
theorem dX1_readShut_51 : decode cX1_readShut 51 = .ok (.getfield 37, 3) := by decide +kernel
theorem dX1_readShut_54 : decode cX1_readShut 54 = .ok (.putfield 134, 3) := by decide +kernel
theorem dX1_readShut_57 : decode cX1_readShut 57 = .ok (.iconst 1, 1) := by decide +kernel
theorem dX1_readShut_58 : decode cX1_readShut 58 = .ok (.ireturn, 1) := by decide +kernel
theorem dX1_readThing_0 : decode cX1_readThing 0 = .ok (.aload_n 0, 1) := by decide +kernel
theorem dX1_readThing_1 : decode cX1_readThing 1 = .ok (.invokevirtual 137, 3) := by decide +kernel
theorem dX1_readThing_4 : decode cX1_readThing 4 = .ok (.aload_n 1, 1) := by decide +kernel
theorem dX1_readThing_5 : decode cX1_readThing 5 = .ok (.iload_n 2, 1) := by decide +kernel
theorem dX1_readThing_6 : decode cX1_readThing 6 = .ok (.bipush 10, 2) := by decide +kernel
theorem dX1_readThing_8 : decode cX1_readThing 8 = .ok (.invokevirtual 140, 3) := by decide +kernel
theorem dX1_readThing_11 : decode cX1_readThing 11 = .ok (.aload_n 1, 1) := by decide +kernel
theorem dX1_readThing_12 : decode cX1_readThing 12 = .ok (.getfield 143, 3) := by decide +kernel
theorem dX1_readThing_15 : decode cX1_readThing 15 = .ok (.aload_n 1, 1) := by decide +kernel
theorem dX1_readThing_16 : decode cX1_readThing 16 = .ok (.getfield 147, 3) := by decide +kernel
theorem dX1_readThing_19 : decode cX1_readThing 19 = .ok (.iconst 1, 1) := by decide +kernel
theorem dX1_readThing_20 : decode cX1_readThing 20 = .ok (.isub, 1) := by decide +kernel
theorem dX1_readThing_21 : decode cX1_readThing 21 = .ok (.aaload, 1) := by decide +kernel
theorem dX1_readThing_22 : decode cX1_readThing 22 = .ok (.astore_n 3, 1) := by decide +kernel
theorem dX1_readThing_23 : decode cX1_readThing 23 = .ok (.aload_n 0, 1) := by decide +kernel
theorem dX1_readThing_24 : decode cX1_readThing 24 = .ok (.ldc 148, 2) := by decide +kernel
theorem dX1_readThing_26 : decode cX1_readThing 26 = .ok (.invokevirtual 82, 3) := by decide +kernel
theorem dX1_readThing_29 : decode cX1_readThing 29 = .ok (.ifCond .eq 23, 3) := by decide +kernel
theorem dX1_readThing_32 : decode cX1_readThing 32 = .ok (.aload_n 0, 1) := by decide +kernel
theorem dX1_readThing_33 : decode cX1_readThing 33 = .ok (.iconst 1, 1) := by decide +kernel
theorem dX1_readThing_34 : decode cX1_readThing 34 = .ok (.bipush 99, 2) := by decide +kernel
theorem dX1_readThing_36 : decode cX1_readThing 36 = .ok (.invokevirtual 123, 3) := by decide +kernel
theorem dX1_readThing_39 : decode cX1_readThing 39 = .ok (.ifCond .ne 5, 3) := by decide +kernel
theorem dX1_readThing_42 : decode cX1_readThing 42 = .ok (.iconst 0, 1) := by decide +kernel
theorem dX1_readThing_43 : decode cX1_readThing 43 = .ok (.ireturn, 1) := by decide +kernel
theorem dX1_readThing_44 : decode cX1_readThing 44 = .ok (.aload_n 3, 1) := by decide +kernel
theorem dX1_readThing_45 : decode cX1_readThing 45 = .ok (.aload_n 0, 1) := by decide +kernel
theorem dX1_readThing_46 : decode cX1_readThing 46 = .ok (.getfield 37, 3) := by decide +kernel
theorem dX1_readThing_49 : decode cX1_readThing 49 = .ok (.putfield 150, 3) := by decide +kernel
theorem dX1_readThing_52 : decode cX1_readThing 52 = .ok (.aload_n 0, 1) := by decide +kernel
theorem dX1_readThing_53 : decode cX1_readThing 53 = .ok (.ldc 154, 2) := by decide +kernel
theorem dX1_readThing_55 : decode cX1_readThing 55 = .ok (.invokevirtual 82, 3) := by decide +kernel
theorem dX1_readThing_58 : decode cX1_readThing 58 = .ok (.ifCond .eq 23, 3) := by decide +kernel
theorem dX1_readThing_61 : decode cX1_readThing 61 = .ok (.aload_n 0, 1) := by decide +kernel
theorem dX1_readThing_62 : decode cX1_readThing 62 = .ok (.iconst 1, 1) := by decide +kernel
theorem dX1_readThing_63 : decode cX1_readThing 63 = .ok (.bipush 9, 2) := by decide +kernel
theorem dX1_readThing_65 : decode cX1_readThing 65 = .ok (.invokevirtual 123, 3) := by decide +kernel
theorem dX1_readThing_68 : decode cX1_readThing 68 = .ok (.ifCond .ne 5, 3) := by decide +kernel
theorem dX1_readThing_71 : decode cX1_readThing 71 = .ok (.iconst 0, 1) := by decide +kernel
theorem dX1_readThing_72 : decode cX1_readThing 72 = .ok (.ireturn, 1) := by decide +kernel
theorem dX1_readThing_73 : decode cX1_readThing 73 = .ok (.aload_n 3, 1) := by decide +kernel
theorem dX1_readThing_74 : decode cX1_readThing 74 = .ok (.aload_n 0, 1) := by decide +kernel
theorem dX1_readThing_75 : decode cX1_readThing 75 = .ok (.getfield 37, 3) := by decide +kernel
theorem dX1_readThing_78 : decode cX1_readThing 78 = .ok (.putfield 156, 3) := by decide +kernel
theorem dX1_readThing_81 : decode cX1_readThing 81 = .ok (.aload_n 0, 1) := by decide +kernel
theorem dX1_readThing_82 : decode cX1_readThing 82 = .ok (.ldc 158, 2) := by decide +kernel
theorem dX1_readThing_84 : decode cX1_readThing 84 = .ok (.invokevirtual 82, 3) := by decide +kernel
theorem dX1_readThing_87 : decode cX1_readThing 87 = .ok (.ifCond .eq 23, 3) := by decide +kernel
theorem dX1_readThing_90 : decode cX1_readThing 90 = .ok (.aload_n 0, 1) := by decide +kernel
theorem dX1_readThing_91 : decode cX1_readThing 91 = .ok (.iconst 0, 1) := by decide +kernel
theorem dX1_readThing_92 : decode cX1_readThing 92 = .ok (.bipush 9, 2) := by decide +kernel
theorem dX1_readThing_94 : decode cX1_readThing 94 = .ok (.invokevirtual 123, 3) := by decide +kernel
theorem dX1_readThing_97 : decode cX1_readThing 97 = .ok (.ifCond .ne 5, 3) := by decide +kernel
theorem dX1_readThing_100 : decode cX1_readThing 100 = .ok (.iconst 0, 1) := by decide +kernel
theorem dX1_readThing_101 : decode cX1_readThing 101 = .ok (.ireturn, 1) := by decide +kernel
theorem dX1_readThing_102 : decode cX1_readThing 102 = .ok (.aload_n 3, 1) := by decide +kernel
theorem dX1_readThing_103 : decode cX1_readThing 103 = .ok (.aload_n 0, 1) := by decide +kernel
theorem dX1_readThing_104 : decode cX1_readThing 104 = .ok (.getfield 37, 3) := by decide +kernel
theorem dX1_readThing_107 : decode cX1_readThing 107 = .ok (.putfield 160, 3) := by decide +kernel
theorem dX1_readThing_110 : decode cX1_readThing 110 = .ok (.iconst 1, 1) := by decide +kernel
theorem dX1_readThing_111 : decode cX1_readThing 111 = .ok (.ireturn, 1) := by decide +kernel
theorem dX1_takeCells_0 : decode cX1_takeCells 0 = .ok (.aload_n 0, 1) := by decide +kernel
theorem dX1_takeCells_1 : decode cX1_takeCells 1 = .ok (.iconst 0, 1) := by decide +kernel
theorem dX1_takeCells_2 : decode cX1_takeCells 2 = .ok (.bipush 30, 2) := by decide +kernel
theorem dX1_takeCells_4 : decode cX1_takeCells 4 = .ok (.invokevirtual 123, 3) := by decide +kernel
theorem dX1_takeCells_7 : decode cX1_takeCells 7 = .ok (.ifCond .ne 5, 3) := by decide +kernel
theorem dX1_takeCells_10 : decode cX1_takeCells 10 = .ok (.iconst 0, 1) := by decide +kernel
theorem dX1_takeCells_11 : decode cX1_takeCells 11 = .ok (.ireturn, 1) := by decide +kernel
theorem dX1_takeCells_12 : decode cX1_takeCells 12 = .ok (.aload_n 0, 1) := by decide +kernel
theorem dX1_takeCells_13 : decode cX1_takeCells 13 = .ok (.aload_n 0, 1) := by decide +kernel
theorem dX1_takeCells_14 : decode cX1_takeCells 14 = .ok (.getfield 37, 3) := by decide +kernel
theorem dX1_takeCells_17 : decode cX1_takeCells 17 = .ok (.putfield 40, 3) := by decide +kernel
theorem dX1_takeCells_20 : decode cX1_takeCells 20 = .ok (.aload_n 0, 1) := by decide +kernel
theorem dX1_takeCells_21 : decode cX1_takeCells 21 = .ok (.aload_n 0, 1) := by decide +kernel
theorem dX1_takeCells_22 : decode cX1_takeCells 22 = .ok (.getfield 37, 3) := by decide +kernel
theorem dX1_takeCells_25 : decode cX1_takeCells 25 = .ok (.putfield 43, 3) := by decide +kernel
theorem dX1_takeCells_28 : decode cX1_takeCells 28 = .ok (.aload_n 0, 1) := by decide +kernel
theorem dX1_takeCells_29 : decode cX1_takeCells 29 = .ok (.ldc 130, 2) := by decide +kernel
theorem dX1_takeCells_31 : decode cX1_takeCells 31 = .ok (.invokevirtual 82, 3) := by decide +kernel
theorem dX1_takeCells_34 : decode cX1_takeCells 34 = .ok (.ifCond .ne 5, 3) := by decide +kernel
theorem dX1_takeCells_37 : decode cX1_takeCells 37 = .ok (.iconst 1, 1) := by decide +kernel
theorem dX1_takeCells_38 : decode cX1_takeCells 38 = .ok (.ireturn, 1) := by decide +kernel
theorem dX1_takeCells_39 : decode cX1_takeCells 39 = .ok (.aload_n 0, 1) := by decide +kernel
theorem dX1_takeCells_40 : decode cX1_takeCells 40 = .ok (.aload_n 0, 1) := by decide +kernel
theorem dX1_takeCells_41 : decode cX1_takeCells 41 = .ok (.getfield 40, 3) := by decide +kernel
theorem dX1_takeCells_44 : decode cX1_takeCells 44 = .ok (.bipush 30, 2) := by decide +kernel
theorem dX1_takeCells_46 : decode cX1_takeCells 46 = .ok (.invokevirtual 123, 3) := by decide +kernel
theorem dX1_takeCells_49 : decode cX1_takeCells 49 = .ok (.ifCond .ne 5, 3) := by decide +kernel
theorem dX1_takeCells_52 : decode cX1_takeCells 52 = .ok (.iconst 0, 1) := by decide +kernel
theorem dX1_takeCells_53 : decode cX1_takeCells 53 = .ok (.ireturn, 1) := by decide +kernel
theorem dX1_takeCells_54 : decode cX1_takeCells 54 = .ok (.aload_n 0, 1) := by decide +kernel
theorem dX1_takeCells_55 : decode cX1_takeCells 55 = .ok (.aload_n 0, 1) := by decide +kernel
theorem dX1_takeCells_56 : decode cX1_takeCells 56 = .ok (.getfield 37, 3) := by decide +kernel
theorem dX1_takeCells_59 : decode cX1_takeCells 59 = .ok (.putfield 43, 3) := by decide +kernel
theorem dX1_takeCells_62 : decode cX1_takeCells 62 = .ok (.iconst 1, 1) := by decide +kernel
theorem dX1_takeCells_63 : decode cX1_takeCells 63 = .ok (.ireturn, 1) := by decide +kernel
theorem dX1_takeWord_0 : decode cX1_takeWord 0 = .ok (.aload_n 0, 1) := by decide +kernel
theorem dX1_takeWord_1 : decode cX1_takeWord 1 = .ok (.aload_n 1, 1) := by decide +kernel
theorem dX1_takeWord_2 : decode cX1_takeWord 2 = .ok (.invokevirtual 93, 3) := by decide +kernel
theorem dX1_takeWord_5 : decode cX1_takeWord 5 = .ok (.istore_n 2, 1) := by decide +kernel
theorem dX1_takeWord_6 : decode cX1_takeWord 6 = .ok (.iload_n 2, 1) := by decide +kernel
theorem dX1_takeWord_7 : decode cX1_takeWord 7 = .ok (.ifCond .eq 7, 3) := by decide +kernel
theorem dX1_takeWord_10 : decode cX1_takeWord 10 = .ok (.aload_n 0, 1) := by decide +kernel
theorem dX1_takeWord_11 : decode cX1_takeWord 11 = .ok (.invokevirtual 137, 3) := by decide +kernel
theorem dX1_takeWord_14 : decode cX1_takeWord 14 = .ok (.iload_n 2, 1) := by decide +kernel
theorem dX1_takeWord_15 : decode cX1_takeWord 15 = .ok (.ireturn, 1) := by decide +kernel
theorem dX1_isWord_0 : decode cX1_isWord 0 = .ok (.aload_n 0, 1) := by decide +kernel
theorem dX1_isWord_1 : decode cX1_isWord 1 = .ok (.getfield 25, 3) := by decide +kernel
theorem dX1_isWord_4 : decode cX1_isWord 4 = .ok (.aload_n 0, 1) := by decide +kernel
theorem dX1_isWord_5 : decode cX1_isWord 5 = .ok (.getfield 34, 3) := by decide +kernel
theorem dX1_isWord_8 : decode cX1_isWord 8 = .ok (.iaload, 1) := by decide +kernel
theorem dX1_isWord_9 : decode cX1_isWord 9 = .ok (.iconst 1, 1) := by decide +kernel
theorem dX1_isWord_10 : decode cX1_isWord 10 = .ok (.if_icmp .ne 29, 3) := by decide +kernel
theorem dX1_isWord_13 : decode cX1_isWord 13 = .ok (.aload_n 0, 1) := by decide +kernel
theorem dX1_isWord_14 : decode cX1_isWord 14 = .ok (.getfield 22, 3) := by decide +kernel
theorem dX1_isWord_17 : decode cX1_isWord 17 = .ok (.aload_n 0, 1) := by decide +kernel
theorem dX1_isWord_18 : decode cX1_isWord 18 = .ok (.getfield 34, 3) := by decide +kernel
theorem dX1_isWord_21 : decode cX1_isWord 21 = .ok (.iaload, 1) := by decide +kernel
theorem dX1_isWord_22 : decode cX1_isWord 22 = .ok (.aload_n 0, 1) := by decide +kernel
theorem dX1_isWord_23 : decode cX1_isWord 23 = .ok (.getfield 19, 3) := by decide +kernel
theorem dX1_isWord_26 : decode cX1_isWord 26 = .ok (.aload_n 0, 1) := by decide +kernel
theorem dX1_isWord_27 : decode cX1_isWord 27 = .ok (.getfield 34, 3) := by decide +kernel
theorem dX1_isWord_30 : decode cX1_isWord 30 = .ok (.iaload, 1) := by decide +kernel
theorem dX1_isWord_31 : decode cX1_isWord 31 = .ok (.isub, 1) := by decide +kernel
theorem dX1_isWord_32 : decode cX1_isWord 32 = .ok (.aload_n 1, 1) := by decide +kernel
theorem dX1_isWord_33 : decode cX1_isWord 33 = .ok (.invokevirtual 162, 3) := by decide +kernel
theorem dX1_isWord_36 : decode cX1_isWord 36 = .ok (.if_icmp .eq 5, 3) := by decide +kernel
theorem dX1_isWord_39 : decode cX1_isWord 39 = .ok (.iconst 0, 1) := by decide +kernel
theorem dX1_isWord_40 : decode cX1_isWord 40 = .ok (.ireturn, 1) := by decide +kernel
theorem dX1_isWord_41 : decode cX1_isWord 41 = .ok (.iconst 0, 1) := by decide +kernel
theorem dX1_isWord_42 : decode cX1_isWord 42 = .ok (.istore_n 2, 1) := by decide +kernel
theorem dX1_isWord_43 : decode cX1_isWord 43 = .ok (.iload_n 2, 1) := by decide +kernel
theorem dX1_isWord_44 : decode cX1_isWord 44 = .ok (.aload_n 1, 1) := by decide +kernel
theorem dX1_isWord_45 : decode cX1_isWord 45 = .ok (.invokevirtual 162, 3) := by decide +kernel
theorem dX1_isWord_48 : decode cX1_isWord 48 = .ok (.if_icmp .ge 35, 3) := by decide +kernel
theorem dX1_isWord_51 : decode cX1_isWord 51 = .ok (.aload_n 0, 1) := by decide +kernel
theorem dX1_isWord_52 : decode cX1_isWord 52 = .ok (.getfield 9, 3) := by decide +kernel
theorem dX1_isWord_55 : decode cX1_isWord 55 = .ok (.aload_n 0, 1) := by decide +kernel
theorem dX1_isWord_56 : decode cX1_isWord 56 = .ok (.getfield 19, 3) := by decide +kernel
theorem dX1_isWord_59 : decode cX1_isWord 59 = .ok (.aload_n 0, 1) := by decide +kernel
theorem dX1_isWord_60 : decode cX1_isWord 60 = .ok (.getfield 34, 3) := by decide +kernel
theorem dX1_isWord_63 : decode cX1_isWord 63 = .ok (.iaload, 1) := by decide +kernel
theorem dX1_isWord_64 : decode cX1_isWord 64 = .ok (.iload_n 2, 1) := by decide +kernel
theorem dX1_isWord_65 : decode cX1_isWord 65 = .ok (.iadd, 1) := by decide +kernel
theorem dX1_isWord_66 : decode cX1_isWord 66 = .ok (.iaload, 1) := by decide +kernel
theorem dX1_isWord_67 : decode cX1_isWord 67 = .ok (.aload_n 1, 1) := by decide +kernel
theorem dX1_isWord_68 : decode cX1_isWord 68 = .ok (.iload_n 2, 1) := by decide +kernel
theorem dX1_isWord_69 : decode cX1_isWord 69 = .ok (.invokevirtual 168, 3) := by decide +kernel
theorem dX1_isWord_72 : decode cX1_isWord 72 = .ok (.if_icmp .eq 5, 3) := by decide +kernel
theorem dX1_isWord_75 : decode cX1_isWord 75 = .ok (.iconst 0, 1) := by decide +kernel
theorem dX1_isWord_76 : decode cX1_isWord 76 = .ok (.ireturn, 1) := by decide +kernel
theorem dX1_isWord_77 : decode cX1_isWord 77 = .ok (.iinc 2 1, 3) := by decide +kernel
theorem dX1_isWord_80 : decode cX1_isWord 80 = .ok (.goto (-37), 3) := by decide +kernel
theorem dX1_isWord_83 : decode cX1_isWord 83 = .ok (.iconst 1, 1) := by decide +kernel
theorem dX1_isWord_84 : decode cX1_isWord 84 = .ok (.ireturn, 1) := by decide +kernel
theorem dX1_takeNumber_0 : decode cX1_takeNumber 0 = .ok (.aload_n 0, 1) := by decide +kernel
theorem dX1_takeNumber_1 : decode cX1_takeNumber 1 = .ok (.getfield 25, 3) := by decide +kernel
theorem dX1_takeNumber_4 : decode cX1_takeNumber 4 = .ok (.aload_n 0, 1) := by decide +kernel
theorem dX1_takeNumber_5 : decode cX1_takeNumber 5 = .ok (.getfield 34, 3) := by decide +kernel
theorem dX1_takeNumber_8 : decode cX1_takeNumber 8 = .ok (.iaload, 1) := by decide +kernel
theorem dX1_takeNumber_9 : decode cX1_takeNumber 9 = .ok (.iconst 2, 1) := by decide +kernel
theorem dX1_takeNumber_10 : decode cX1_takeNumber 10 = .ok (.if_icmp .ne 20, 3) := by decide +kernel
theorem dX1_takeNumber_13 : decode cX1_takeNumber 13 = .ok (.aload_n 0, 1) := by decide +kernel
theorem dX1_takeNumber_14 : decode cX1_takeNumber 14 = .ok (.getfield 28, 3) := by decide +kernel
theorem dX1_takeNumber_17 : decode cX1_takeNumber 17 = .ok (.aload_n 0, 1) := by decide +kernel
theorem dX1_takeNumber_18 : decode cX1_takeNumber 18 = .ok (.getfield 34, 3) := by decide +kernel
theorem dX1_takeNumber_21 : decode cX1_takeNumber 21 = .ok (.iaload, 1) := by decide +kernel
theorem dX1_takeNumber_22 : decode cX1_takeNumber 22 = .ok (.iload_n 1, 1) := by decide +kernel
theorem dX1_takeNumber_23 : decode cX1_takeNumber 23 = .ok (.iload_n 2, 1) := by decide +kernel
theorem dX1_takeNumber_24 : decode cX1_takeNumber 24 = .ok (.invokestatic 74, 3) := by decide +kernel
theorem dX1_takeNumber_27 : decode cX1_takeNumber 27 = .ok (.ifCond .ne 5, 3) := by decide +kernel
theorem dX1_takeNumber_30 : decode cX1_takeNumber 30 = .ok (.iconst 0, 1) := by decide +kernel
theorem dX1_takeNumber_31 : decode cX1_takeNumber 31 = .ok (.ireturn, 1) := by decide +kernel
theorem dX1_takeNumber_32 : decode cX1_takeNumber 32 = .ok (.aload_n 0, 1) := by decide +kernel
theorem dX1_takeNumber_33 : decode cX1_takeNumber 33 = .ok (.aload_n 0, 1) := by decide +kernel
theorem dX1_takeNumber_34 : decode cX1_takeNumber 34 = .ok (.getfield 28, 3) := by decide +kernel
theorem dX1_takeNumber_37 : decode cX1_takeNumber 37 = .ok (.aload_n 0, 1) := by decide +kernel
theorem dX1_takeNumber_38 : decode cX1_takeNumber 38 = .ok (.getfield 34, 3) := by decide +kernel
theorem dX1_takeNumber_41 : decode cX1_takeNumber 41 = .ok (.iaload, 1) := by decide +kernel
theorem dX1_takeNumber_42 : decode cX1_takeNumber 42 = .ok (.putfield 37, 3) := by decide +kernel
theorem dX1_takeNumber_45 : decode cX1_takeNumber 45 = .ok (.aload_n 0, 1) := by decide +kernel
theorem dX1_takeNumber_46 : decode cX1_takeNumber 46 = .ok (.invokevirtual 137, 3) := by decide +kernel
theorem dX1_takeNumber_49 : decode cX1_takeNumber 49 = .ok (.iconst 1, 1) := by decide +kernel
theorem dX1_takeNumber_50 : decode cX1_takeNumber 50 = .ok (.ireturn, 1) := by decide +kernel
theorem dX1_takeSign_0 : decode cX1_takeSign 0 = .ok (.aload_n 0, 1) := by decide +kernel
theorem dX1_takeSign_1 : decode cX1_takeSign 1 = .ok (.getfield 25, 3) := by decide +kernel
theorem dX1_takeSign_4 : decode cX1_takeSign 4 = .ok (.aload_n 0, 1) := by decide +kernel
theorem dX1_takeSign_5 : decode cX1_takeSign 5 = .ok (.getfield 34, 3) := by decide +kernel
theorem dX1_takeSign_8 : decode cX1_takeSign 8 = .ok (.iaload, 1) := by decide +kernel
theorem dX1_takeSign_9 : decode cX1_takeSign 9 = .ok (.iconst 3, 1) := by decide +kernel
theorem dX1_takeSign_10 : decode cX1_takeSign 10 = .ok (.if_icmp .ne 25, 3) := by decide +kernel
theorem dX1_takeSign_13 : decode cX1_takeSign 13 = .ok (.aload_n 0, 1) := by decide +kernel
theorem dX1_takeSign_14 : decode cX1_takeSign 14 = .ok (.getfield 9, 3) := by decide +kernel
theorem dX1_takeSign_17 : decode cX1_takeSign 17 = .ok (.aload_n 0, 1) := by decide +kernel
theorem dX1_takeSign_18 : decode cX1_takeSign 18 = .ok (.getfield 19, 3) := by decide +kernel
theorem dX1_takeSign_21 : decode cX1_takeSign 21 = .ok (.aload_n 0, 1) := by decide +kernel
theorem dX1_takeSign_22 : decode cX1_takeSign 22 = .ok (.getfield 34, 3) := by decide +kernel
theorem dX1_takeSign_25 : decode cX1_takeSign 25 = .ok (.iaload, 1) := by decide +kernel
theorem dX1_takeSign_26 : decode cX1_takeSign 26 = .ok (.iaload, 1) := by decide +kernel
theorem dX1_takeSign_27 : decode cX1_takeSign 27 = .ok (.iload_n 1, 1) := by decide +kernel
theorem dX1_takeSign_28 : decode cX1_takeSign 28 = .ok (.if_icmp .ne 7, 3) := by decide +kernel
theorem dX1_takeSign_31 : decode cX1_takeSign 31 = .ok (.iconst 1, 1) := by decide +kernel
theorem dX1_takeSign_32 : decode cX1_takeSign 32 = .ok (.goto 4, 3) := by decide +kernel
theorem dX1_takeSign_35 : decode cX1_takeSign 35 = .ok (.iconst 0, 1) := by decide +kernel
theorem dX1_takeSign_36 : decode cX1_takeSign 36 = .ok (.istore_n 2, 1) := by decide +kernel
theorem dX1_takeSign_37 : decode cX1_takeSign 37 = .ok (.iload_n 2, 1) := by decide +kernel
theorem dX1_takeSign_38 : decode cX1_takeSign 38 = .ok (.ifCond .eq 7, 3) := by decide +kernel
theorem dX1_takeSign_41 : decode cX1_takeSign 41 = .ok (.aload_n 0, 1) := by decide +kernel
theorem dX1_takeSign_42 : decode cX1_takeSign 42 = .ok (.invokevirtual 137, 3) := by decide +kernel
theorem dX1_takeSign_45 : decode cX1_takeSign 45 = .ok (.iload_n 2, 1) := by decide +kernel
theorem dX1_takeSign_46 : decode cX1_takeSign 46 = .ok (.ireturn, 1) := by decide +kernel
theorem dX1_goOn_0 : decode cX1_goOn 0 = .ok (.aload_n 0, 1) := by decide +kernel
theorem dX1_goOn_1 : decode cX1_goOn 1 = .ok (.getfield 34, 3) := by decide +kernel
theorem dX1_goOn_4 : decode cX1_goOn 4 = .ok (.aload_n 0, 1) := by decide +kernel
theorem dX1_goOn_5 : decode cX1_goOn 5 = .ok (.getfield 31, 3) := by decide +kernel
theorem dX1_goOn_8 : decode cX1_goOn 8 = .ok (.iconst 1, 1) := by decide +kernel
theorem dX1_goOn_9 : decode cX1_goOn 9 = .ok (.isub, 1) := by decide +kernel
theorem dX1_goOn_10 : decode cX1_goOn 10 = .ok (.if_icmp .ge 13, 3) := by decide +kernel
theorem dX1_goOn_13 : decode cX1_goOn 13 = .ok (.aload_n 0, 1) := by decide +kernel
theorem dX1_goOn_14 : decode cX1_goOn 14 = .ok (.dup, 1) := by decide +kernel
theorem dX1_goOn_15 : decode cX1_goOn 15 = .ok (.getfield 34, 3) := by decide +kernel
theorem dX1_goOn_18 : decode cX1_goOn 18 = .ok (.iconst 1, 1) := by decide +kernel
theorem dX1_goOn_19 : decode cX1_goOn 19 = .ok (.iadd, 1) := by decide +kernel
theorem dX1_goOn_20 : decode cX1_goOn 20 = .ok (.putfield 34, 3) := by decide +kernel
theorem dX1_goOn_23 : decode cX1_goOn 23 = .ok (.return_, 1) := by decide +kernel
theorem dX1_nameOfGround_0 : decode cX1_nameOfGround 0 = .ok (.iload_n 0, 1) := by decide +kernel
theorem dX1_nameOfGround_1 : decode cX1_nameOfGround 1 = .ok (.tableswitch 43 0 3 #[31, 34, 37, 40], 31) := by decide +kernel
theorem dX1_nameOfGround_32 : decode cX1_nameOfGround 32 = .ok (.ldc 172, 2) := by decide +kernel
theorem dX1_nameOfGround_34 : decode cX1_nameOfGround 34 = .ok (.areturn, 1) := by decide +kernel
theorem dX1_nameOfGround_35 : decode cX1_nameOfGround 35 = .ok (.ldc 174, 2) := by decide +kernel
theorem dX1_nameOfGround_37 : decode cX1_nameOfGround 37 = .ok (.areturn, 1) := by decide +kernel
theorem dX1_nameOfGround_38 : decode cX1_nameOfGround 38 = .ok (.ldc 176, 2) := by decide +kernel
theorem dX1_nameOfGround_40 : decode cX1_nameOfGround 40 = .ok (.areturn, 1) := by decide +kernel
theorem dX1_nameOfGround_41 : decode cX1_nameOfGround 41 = .ok (.ldc 178, 2) := by decide +kernel
theorem dX1_nameOfGround_43 : decode cX1_nameOfGround 43 = .ok (.areturn, 1) := by decide +kernel
theorem dX1_nameOfGround_44 : decode cX1_nameOfGround 44 = .ok (.ldc 180, 2) := by decide +kernel
theorem dX1_nameOfGround_46 : decode cX1_nameOfGround 46 = .ok (.areturn, 1) := by decide +kernel
theorem dX1_nameOfKind_0 : decode cX1_nameOfKind 0 = .ok (.iload_n 0, 1) := by decide +kernel
theorem dX1_nameOfKind_1 : decode cX1_nameOfKind 1 = .ok (.tableswitch 57 0 5 #[39, 42, 45, 48, 51, 54], 39) := by decide +kernel
theorem dX1_nameOfKind_40 : decode cX1_nameOfKind 40 = .ok (.ldc 182, 2) := by decide +kernel
theorem dX1_nameOfKind_42 : decode cX1_nameOfKind 42 = .ok (.areturn, 1) := by decide +kernel
theorem dX1_nameOfKind_43 : decode cX1_nameOfKind 43 = .ok (.ldc 184, 2) := by decide +kernel
theorem dX1_nameOfKind_45 : decode cX1_nameOfKind 45 = .ok (.areturn, 1) := by decide +kernel
theorem dX1_nameOfKind_46 : decode cX1_nameOfKind 46 = .ok (.ldc 186, 2) := by decide +kernel
theorem dX1_nameOfKind_48 : decode cX1_nameOfKind 48 = .ok (.areturn, 1) := by decide +kernel
theorem dX1_nameOfKind_49 : decode cX1_nameOfKind 49 = .ok (.ldc 188, 2) := by decide +kernel
theorem dX1_nameOfKind_51 : decode cX1_nameOfKind 51 = .ok (.areturn, 1) := by decide +kernel
theorem dX1_nameOfKind_52 : decode cX1_nameOfKind 52 = .ok (.ldc 190, 2) := by decide +kernel
theorem dX1_nameOfKind_54 : decode cX1_nameOfKind 54 = .ok (.areturn, 1) := by decide +kernel
theorem dX1_nameOfKind_55 : decode cX1_nameOfKind 55 = .ok (.ldc 192, 2) := by decide +kernel
theorem dX1_nameOfKind_57 : decode cX1_nameOfKind 57 = .ok (.areturn, 1) := by decide +kernel
theorem dX1_nameOfKind_58 : decode cX1_nameOfKind 58 = .ok (.ldc 194, 2) := by decide +kernel
theorem dX1_nameOfKind_60 : decode cX1_nameOfKind 60 = .ok (.areturn, 1) := by decide +kernel
end
section
theorem dX2_init_0 : decode cX2_init 0 = .ok (.aload_n 0, 1) := by decide +kernel
theorem dX2_init_1 : decode cX2_init 1 = .ok (.invokespecial 3, 3) := by decide +kernel
theorem dX2_init_4 : decode cX2_init 4 = .ok (.aload_n 0, 1) := by decide +kernel
theorem dX2_init_5 : decode cX2_init 5 = .ok (.new 9, 3) := by decide +kernel
theorem dX2_init_8 : decode cX2_init 8 = .ok (.dup, 1) := by decide +kernel
theorem dX2_init_9 : decode cX2_init 9 = .ok (.invokespecial 11, 3) := by decide +kernel
theorem dX2_init_12 : decode cX2_init 12 = .ok (.putfield 12, 3) := by decide +kernel
theorem dX2_init_15 : decode cX2_init 15 = .ok (.aload_n 0, 1) := by decide +kernel
theorem dX2_init_16 : decode cX2_init 16 = .ok (.iconst 0, 1) := by decide +kernel
theorem dX2_init_17 : decode cX2_init 17 = .ok (.putfield 18, 3) := by decide +kernel
theorem dX2_init_20 : decode cX2_init 20 = .ok (.aload_n 0, 1) := by decide +kernel
theorem dX2_init_21 : decode cX2_init 21 = .ok (.iconst 0, 1) := by decide +kernel
theorem dX2_init_22 : decode cX2_init 22 = .ok (.putfield 22, 3) := by decide +kernel
theorem dX2_init_25 : decode cX2_init 25 = .ok (.aload_n 0, 1) := by decide +kernel
theorem dX2_init_26 : decode cX2_init 26 = .ok (.iconst 0, 1) := by decide +kernel
theorem dX2_init_27 : decode cX2_init 27 = .ok (.putfield 25, 3) := by decide +kernel
theorem dX2_init_30 : decode cX2_init 30 = .ok (.return_, 1) := by decide +kernel
theorem dX2_run_0 : decode cX2_run 0 = .ok (.aload_n 0, 1) := by decide +kernel
theorem dX2_run_1 : decode cX2_run 1 = .ok (.aload_n 1, 1) := by decide +kernel
theorem dX2_run_2 : decode cX2_run 2 = .ok (.aload_n 2, 1) := by decide +kernel
theorem dX2_run_3 : decode cX2_run 3 = .ok (.bipush 10, 2) := by decide +kernel
theorem dX2_run_5 : decode cX2_run 5 = .ok (.invokevirtual 28, 3) := by decide +kernel
theorem dX2_run_8 : decode cX2_run 8 = .ok (.return_, 1) := by decide +kernel
theorem dX2_runFrom_0 : decode cX2_runFrom 0 = .ok (.aload_n 0, 1) := by decide +kernel
theorem dX2_runFrom_1 : decode cX2_runFrom 1 = .ok (.getfield 12, 3) := by decide +kernel
theorem dX2_runFrom_4 : decode cX2_runFrom 4 = .ok (.aload_n 2, 1) := by decide +kernel
theorem dX2_runFrom_5 : decode cX2_runFrom 5 = .ok (.invokevirtual 32, 3) := by decide +kernel
theorem dX2_runFrom_8 : decode cX2_runFrom 8 = .ok (.aload_n 0, 1) := by decide +kernel
theorem dX2_runFrom_9 : decode cX2_runFrom 9 = .ok (.getfield 12, 3) := by decide +kernel
theorem dX2_runFrom_12 : decode cX2_runFrom 12 = .ok (.getfield 36, 3) := by decide +kernel
theorem dX2_runFrom_15 : decode cX2_runFrom 15 = .ok (.ifCond .ne 11, 3) := by decide +kernel
theorem dX2_runFrom_18 : decode cX2_runFrom 18 = .ok (.aload_n 0, 1) := by decide +kernel
theorem dX2_runFrom_19 : decode cX2_runFrom 19 = .ok (.getfield 12, 3) := by decide +kernel
theorem dX2_runFrom_22 : decode cX2_runFrom 22 = .ok (.iload_n 3, 1) := by decide +kernel
theorem dX2_runFrom_23 : decode cX2_runFrom 23 = .ok (.invokevirtual 39, 3) := by decide +kernel
theorem dX2_runFrom_26 : decode cX2_runFrom 26 = .ok (.aload_n 0, 1) := by decide +kernel
theorem dX2_runFrom_27 : decode cX2_runFrom 27 = .ok (.aload_n 0, 1) := by decide +kernel
theorem dX2_runFrom_28 : decode cX2_runFrom 28 = .ok (.getfield 12, 3) := by decide +kernel
theorem dX2_runFrom_31 : decode cX2_runFrom 31 = .ok (.getfield 43, 3) := by decide +kernel
theorem dX2_runFrom_34 : decode cX2_runFrom 34 = .ok (.putfield 22, 3) := by decide +kernel
theorem dX2_runFrom_37 : decode cX2_runFrom 37 = .ok (.aload_n 0, 1) := by decide +kernel
theorem dX2_runFrom_38 : decode cX2_runFrom 38 = .ok (.iconst 1, 1) := by decide +kernel
theorem dX2_runFrom_39 : decode cX2_runFrom 39 = .ok (.aload_n 0, 1) := by decide +kernel
theorem dX2_runFrom_40 : decode cX2_runFrom 40 = .ok (.getfield 12, 3) := by decide +kernel
theorem dX2_runFrom_43 : decode cX2_runFrom 43 = .ok (.getfield 46, 3) := by decide +kernel
theorem dX2_runFrom_46 : decode cX2_runFrom 46 = .ok (.ishl, 1) := by decide +kernel
theorem dX2_runFrom_47 : decode cX2_runFrom 47 = .ok (.putfield 25, 3) := by decide +kernel
theorem dX2_runFrom_50 : decode cX2_runFrom 50 = .ok (.aload_n 0, 1) := by decide +kernel
theorem dX2_runFrom_51 : decode cX2_runFrom 51 = .ok (.iconst 0, 1) := by decide +kernel
theorem dX2_runFrom_52 : decode cX2_runFrom 52 = .ok (.putfield 18, 3) := by decide +kernel
theorem dX2_runFrom_55 : decode cX2_runFrom 55 = .ok (.aload_n 0, 1) := by decide +kernel
theorem dX2_runFrom_56 : decode cX2_runFrom 56 = .ok (.getfield 18, 3) := by decide +kernel
theorem dX2_runFrom_59 : decode cX2_runFrom 59 = .ok (.sipush 200, 3) := by decide +kernel
theorem dX2_runFrom_62 : decode cX2_runFrom 62 = .ok (.if_icmp .ge 91, 3) := by decide +kernel
theorem dX2_runFrom_65 : decode cX2_runFrom 65 = .ok (.aload_n 0, 1) := by decide +kernel
theorem dX2_runFrom_66 : decode cX2_runFrom 66 = .ok (.getfield 12, 3) := by decide +kernel
theorem dX2_runFrom_69 : decode cX2_runFrom 69 = .ok (.getfield 36, 3) := by decide +kernel
theorem dX2_runFrom_72 : decode cX2_runFrom 72 = .ok (.iconst 1, 1) := by decide +kernel
theorem dX2_runFrom_73 : decode cX2_runFrom 73 = .ok (.if_icmp .ne 80, 3) := by decide +kernel
theorem dX2_runFrom_76 : decode cX2_runFrom 76 = .ok (.aload_n 1, 1) := by decide +kernel
theorem dX2_runFrom_77 : decode cX2_runFrom 77 = .ok (.aload_n 0, 1) := by decide +kernel
theorem dX2_runFrom_78 : decode cX2_runFrom 78 = .ok (.getfield 12, 3) := by decide +kernel
theorem dX2_runFrom_81 : decode cX2_runFrom 81 = .ok (.aload_n 1, 1) := by decide +kernel
theorem dX2_runFrom_82 : decode cX2_runFrom 82 = .ok (.getfield 49, 3) := by decide +kernel
theorem dX2_runFrom_85 : decode cX2_runFrom 85 = .ok (.aload_n 0, 1) := by decide +kernel
theorem dX2_runFrom_86 : decode cX2_runFrom 86 = .ok (.getfield 18, 3) := by decide +kernel
theorem dX2_runFrom_89 : decode cX2_runFrom 89 = .ok (.iadd, 1) := by decide +kernel
theorem dX2_runFrom_90 : decode cX2_runFrom 90 = .ok (.invokevirtual 54, 3) := by decide +kernel
theorem dX2_runFrom_93 : decode cX2_runFrom 93 = .ok (.aload_n 0, 1) := by decide +kernel
theorem dX2_runFrom_94 : decode cX2_runFrom 94 = .ok (.dup, 1) := by decide +kernel
theorem dX2_runFrom_95 : decode cX2_runFrom 95 = .ok (.getfield 18, 3) := by decide +kernel
theorem dX2_runFrom_98 : decode cX2_runFrom 98 = .ok (.iconst 1, 1) := by decide +kernel
theorem dX2_runFrom_99 : decode cX2_runFrom 99 = .ok (.iadd, 1) := by decide +kernel
theorem dX2_runFrom_100 : decode cX2_runFrom 100 = .ok (.putfield 18, 3) := by decide +kernel
theorem dX2_runFrom_103 : decode cX2_runFrom 103 = .ok (.aload_n 0, 1) := by decide +kernel
theorem dX2_runFrom_104 : decode cX2_runFrom 104 = .ok (.aload_n 0, 1) := by decide +kernel
theorem dX2_runFrom_105 : decode cX2_runFrom 105 = .ok (.getfield 22, 3) := by decide +kernel
theorem dX2_runFrom_108 : decode cX2_runFrom 108 = .ok (.aload_n 0, 1) := by decide +kernel
theorem dX2_runFrom_109 : decode cX2_runFrom 109 = .ok (.getfield 12, 3) := by decide +kernel
theorem dX2_runFrom_112 : decode cX2_runFrom 112 = .ok (.getfield 43, 3) := by decide +kernel
theorem dX2_runFrom_115 : decode cX2_runFrom 115 = .ok (.invokestatic 58, 3) := by decide +kernel
theorem dX2_runFrom_118 : decode cX2_runFrom 118 = .ok (.putfield 22, 3) := by decide +kernel
theorem dX2_runFrom_121 : decode cX2_runFrom 121 = .ok (.aload_n 0, 1) := by decide +kernel
theorem dX2_runFrom_122 : decode cX2_runFrom 122 = .ok (.getfield 12, 3) := by decide +kernel
theorem dX2_runFrom_125 : decode cX2_runFrom 125 = .ok (.getfield 36, 3) := by decide +kernel
theorem dX2_runFrom_128 : decode cX2_runFrom 128 = .ok (.iconst 2, 1) := by decide +kernel
theorem dX2_runFrom_129 : decode cX2_runFrom 129 = .ok (.if_icmp .eq (-74), 3) := by decide +kernel
theorem dX2_runFrom_132 : decode cX2_runFrom 132 = .ok (.aload_n 0, 1) := by decide +kernel
theorem dX2_runFrom_133 : decode cX2_runFrom 133 = .ok (.dup, 1) := by decide +kernel
theorem dX2_runFrom_134 : decode cX2_runFrom 134 = .ok (.getfield 25, 3) := by decide +kernel
theorem dX2_runFrom_137 : decode cX2_runFrom 137 = .ok (.iconst 1, 1) := by decide +kernel
theorem dX2_runFrom_138 : decode cX2_runFrom 138 = .ok (.aload_n 0, 1) := by decide +kernel
theorem dX2_runFrom_139 : decode cX2_runFrom 139 = .ok (.getfield 12, 3) := by decide +kernel
theorem dX2_runFrom_142 : decode cX2_runFrom 142 = .ok (.getfield 46, 3) := by decide +kernel
theorem dX2_runFrom_145 : decode cX2_runFrom 145 = .ok (.ishl, 1) := by decide +kernel
theorem dX2_runFrom_146 : decode cX2_runFrom 146 = .ok (.ior, 1) := by decide +kernel
theorem dX2_runFrom_147 : decode cX2_runFrom 147 = .ok (.putfield 25, 3) := by decide +kernel
theorem dX2_runFrom_150 : decode cX2_runFrom 150 = .ok (.goto (-95), 3) := by decide +kernel
theorem dX2_runFrom_153 : decode cX2_runFrom 153 = .ok (.return_, 1) := by decide +kernel
theorem dX2_goesStill_0 : decode cX2_goesStill 0 = .ok (.aload_n 0, 1) := by decide +kernel
theorem dX2_goesStill_1 : decode cX2_goesStill 1 = .ok (.getfield 12, 3) := by decide +kernel
theorem dX2_goesStill_4 : decode cX2_goesStill 4 = .ok (.getfield 36, 3) := by decide +kernel
theorem dX2_goesStill_7 : decode cX2_goesStill 7 = .ok (.iconst 1, 1) := by decide +kernel
theorem dX2_goesStill_8 : decode cX2_goesStill 8 = .ok (.if_icmp .ne 7, 3) := by decide +kernel
theorem dX2_goesStill_11 : decode cX2_goesStill 11 = .ok (.iconst 1, 1) := by decide +kernel
theorem dX2_goesStill_12 : decode cX2_goesStill 12 = .ok (.goto 4, 3) := by decide +kernel
theorem dX2_goesStill_15 : decode cX2_goesStill 15 = .ok (.iconst 0, 1) := by decide +kernel
theorem dX2_goesStill_16 : decode cX2_goesStill 16 = .ok (.ireturn, 1) := by decide +kernel
theorem dX2_endsOn_0 : decode cX2_endsOn 0 = .ok (.aload_n 0, 1) := by decide +kernel
theorem dX2_endsOn_1 : decode cX2_endsOn 1 = .ok (.getfield 12, 3) := by decide +kernel
theorem dX2_endsOn_4 : decode cX2_endsOn 4 = .ok (.getfield 36, 3) := by decide +kernel
theorem dX2_endsOn_7 : decode cX2_endsOn 7 = .ok (.ifCond .ne 18, 3) := by decide +kernel
theorem dX2_endsOn_10 : decode cX2_endsOn 10 = .ok (.aload_n 0, 1) := by decide +kernel
theorem dX2_endsOn_11 : decode cX2_endsOn 11 = .ok (.getfield 12, 3) := by decide +kernel
theorem dX2_endsOn_14 : decode cX2_endsOn 14 = .ok (.getfield 46, 3) := by decide +kernel
theorem dX2_endsOn_17 : decode cX2_endsOn 17 = .ok (.iload_n 1, 1) := by decide +kernel
theorem dX2_endsOn_18 : decode cX2_endsOn 18 = .ok (.if_icmp .ne 7, 3) := by decide +kernel
theorem dX2_endsOn_21 : decode cX2_endsOn 21 = .ok (.iconst 1, 1) := by decide +kernel
theorem dX2_endsOn_22 : decode cX2_endsOn 22 = .ok (.goto 4, 3) := by decide +kernel
theorem dX2_endsOn_25 : decode cX2_endsOn 25 = .ok (.iconst 0, 1) := by decide +kernel
theorem dX2_endsOn_26 : decode cX2_endsOn 26 = .ok (.ireturn, 1) := by decide +kernel
theorem dX2_place_0 : decode cX2_place 0 = .ok (.aload_n 0, 1) := by decide +kernel
theorem dX2_place_1 : decode cX2_place 1 = .ok (.getfield 12, 3) := by decide +kernel
theorem dX2_place_4 : decode cX2_place 4 = .ok (.getfield 36, 3) := by decide +kernel
theorem dX2_place_7 : decode cX2_place 7 = .ok (.iconst 2, 1) := by decide +kernel
theorem dX2_place_8 : decode cX2_place 8 = .ok (.if_icmp .ne 7, 3) := by decide +kernel
theorem dX2_place_11 : decode cX2_place 11 = .ok (.iconst (-1), 1) := by decide +kernel
theorem dX2_place_12 : decode cX2_place 12 = .ok (.goto 10, 3) := by decide +kernel
theorem dX2_place_15 : decode cX2_place 15 = .ok (.aload_n 0, 1) := by decide +kernel
theorem dX2_place_16 : decode cX2_place 16 = .ok (.getfield 12, 3) := by decide +kernel
theorem dX2_place_19 : decode cX2_place 19 = .ok (.getfield 46, 3) := by decide +kernel
theorem dX2_place_22 : decode cX2_place 22 = .ok (.ireturn, 1) := by decide +kernel
end
section
theorem dX3_init_0 : decode cX3_init 0 = .ok (.aload_n 0, 1) := by decide +kernel
theorem dX3_init_1 : decode cX3_init 1 = .ok (.invokespecial 3, 3) := by decide +kernel
theorem dX3_init_4 : decode cX3_init 4 = .ok (.aload_n 0, 1) := by decide +kernel
theorem dX3_init_5 : decode cX3_init 5 = .ok (.bipush 40, 2) := by decide +kernel
theorem dX3_init_7 : decode cX3_init 7 = .ok (.newarray .int, 2) := by decide +kernel
theorem dX3_init_9 : decode cX3_init 9 = .ok (.putfield 9, 3) := by decide +kernel
theorem dX3_init_12 : decode cX3_init 12 = .ok (.aload_n 0, 1) := by decide +kernel
theorem dX3_init_13 : decode cX3_init 13 = .ok (.iconst 0, 1) := by decide +kernel
theorem dX3_init_14 : decode cX3_init 14 = .ok (.putfield 15, 3) := by decide +kernel
theorem dX3_init_17 : decode cX3_init 17 = .ok (.aload_n 0, 1) := by decide +kernel
theorem dX3_init_18 : decode cX3_init 18 = .ok (.iconst 0, 1) := by decide +kernel
theorem dX3_init_19 : decode cX3_init 19 = .ok (.putfield 19, 3) := by decide +kernel
theorem dX3_init_22 : decode cX3_init 22 = .ok (.return_, 1) := by decide +kernel
theorem dX3_begin_0 : decode cX3_begin 0 = .ok (.aload_n 0, 1) := by decide +kernel
theorem dX3_begin_1 : decode cX3_begin 1 = .ok (.iload_n 1, 1) := by decide +kernel
theorem dX3_begin_2 : decode cX3_begin 2 = .ok (.putfield 15, 3) := by decide +kernel
theorem dX3_begin_5 : decode cX3_begin 5 = .ok (.aload_n 0, 1) := by decide +kernel
theorem dX3_begin_6 : decode cX3_begin 6 = .ok (.iload_n 1, 1) := by decide +kernel
theorem dX3_begin_7 : decode cX3_begin 7 = .ok (.ifCond .ne 7, 3) := by decide +kernel
theorem dX3_begin_10 : decode cX3_begin 10 = .ok (.iconst 0, 1) := by decide +kernel
theorem dX3_begin_11 : decode cX3_begin 11 = .ok (.goto 4, 3) := by decide +kernel
theorem dX3_begin_14 : decode cX3_begin 14 = .ok (.iload_n 2, 1) := by decide +kernel
theorem dX3_begin_15 : decode cX3_begin 15 = .ok (.putfield 19, 3) := by decide +kernel
theorem dX3_begin_18 : decode cX3_begin 18 = .ok (.iconst 0, 1) := by decide +kernel
theorem dX3_begin_19 : decode cX3_begin 19 = .ok (.istore_n 3, 1) := by decide +kernel
theorem dX3_begin_20 : decode cX3_begin 20 = .ok (.iload_n 3, 1) := by decide +kernel
theorem dX3_begin_21 : decode cX3_begin 21 = .ok (.bipush 40, 2) := by decide +kernel
theorem dX3_begin_23 : decode cX3_begin 23 = .ok (.if_icmp .ge 16, 3) := by decide +kernel
theorem dX3_begin_26 : decode cX3_begin 26 = .ok (.aload_n 0, 1) := by decide +kernel
theorem dX3_begin_27 : decode cX3_begin 27 = .ok (.getfield 9, 3) := by decide +kernel
theorem dX3_begin_30 : decode cX3_begin 30 = .ok (.iload_n 3, 1) := by decide +kernel
theorem dX3_begin_31 : decode cX3_begin 31 = .ok (.iconst 0, 1) := by decide +kernel
theorem dX3_begin_32 : decode cX3_begin 32 = .ok (.iastore, 1) := by decide +kernel
theorem dX3_begin_33 : decode cX3_begin 33 = .ok (.iinc 3 1, 3) := by decide +kernel
theorem dX3_begin_36 : decode cX3_begin 36 = .ok (.goto (-16), 3) := by decide +kernel
theorem dX3_begin_39 : decode cX3_begin 39 = .ok (.return_, 1) := by decide +kernel
theorem dX3_isMissing_0 : decode cX3_isMissing 0 = .ok (.aload_n 0, 1) := by decide +kernel
theorem dX3_isMissing_1 : decode cX3_isMissing 1 = .ok (.getfield 15, 3) := by decide +kernel
theorem dX3_isMissing_4 : decode cX3_isMissing 4 = .ok (.ifCond .ne 7, 3) := by decide +kernel
theorem dX3_isMissing_7 : decode cX3_isMissing 7 = .ok (.iconst 1, 1) := by decide +kernel
theorem dX3_isMissing_8 : decode cX3_isMissing 8 = .ok (.goto 4, 3) := by decide +kernel
theorem dX3_isMissing_11 : decode cX3_isMissing 11 = .ok (.iconst 0, 1) := by decide +kernel
theorem dX3_isMissing_12 : decode cX3_isMissing 12 = .ok (.ireturn, 1) := by decide +kernel
theorem dX3_hasPart_0 : decode cX3_hasPart 0 = .ok (.iload_n 1, 1) := by decide +kernel
theorem dX3_hasPart_1 : decode cX3_hasPart 1 = .ok (.ifCond .lt 29, 3) := by decide +kernel
theorem dX3_hasPart_4 : decode cX3_hasPart 4 = .ok (.iload_n 2, 1) := by decide +kernel
theorem dX3_hasPart_5 : decode cX3_hasPart 5 = .ok (.ifCond .lt 25, 3) := by decide +kernel
theorem dX3_hasPart_8 : decode cX3_hasPart 8 = .ok (.iload_n 2, 1) := by decide +kernel
theorem dX3_hasPart_9 : decode cX3_hasPart 9 = .ok (.aload_n 0, 1) := by decide +kernel
theorem dX3_hasPart_10 : decode cX3_hasPart 10 = .ok (.getfield 19, 3) := by decide +kernel
theorem dX3_hasPart_13 : decode cX3_hasPart 13 = .ok (.if_icmp .gt 17, 3) := by decide +kernel
theorem dX3_hasPart_16 : decode cX3_hasPart 16 = .ok (.iload_n 1, 1) := by decide +kernel
theorem dX3_hasPart_17 : decode cX3_hasPart 17 = .ok (.aload_n 0, 1) := by decide +kernel
theorem dX3_hasPart_18 : decode cX3_hasPart 18 = .ok (.getfield 19, 3) := by decide +kernel
theorem dX3_hasPart_21 : decode cX3_hasPart 21 = .ok (.iload_n 2, 1) := by decide +kernel
theorem dX3_hasPart_22 : decode cX3_hasPart 22 = .ok (.isub, 1) := by decide +kernel
theorem dX3_hasPart_23 : decode cX3_hasPart 23 = .ok (.if_icmp .gt 7, 3) := by decide +kernel
theorem dX3_hasPart_26 : decode cX3_hasPart 26 = .ok (.iconst 1, 1) := by decide +kernel
theorem dX3_hasPart_27 : decode cX3_hasPart 27 = .ok (.goto 4, 3) := by decide +kernel
theorem dX3_hasPart_30 : decode cX3_hasPart 30 = .ok (.iconst 0, 1) := by decide +kernel
theorem dX3_hasPart_31 : decode cX3_hasPart 31 = .ok (.ireturn, 1) := by decide +kernel
theorem dX3_cutToBits_0 : decode cX3_cutToBits 0 = .ok (.aload_n 0, 1) := by decide +kernel
theorem dX3_cutToBits_1 : decode cX3_cutToBits 1 = .ok (.getfield 15, 3) := by decide +kernel
theorem dX3_cutToBits_4 : decode cX3_cutToBits 4 = .ok (.lookupswitch 34 #[(8, 28), (16, 31)], 28) := by decide +kernel
theorem dX3_cutToBits_32 : decode cX3_cutToBits 32 = .ok (.iload_n 1, 1) := by decide +kernel
theorem dX3_cutToBits_33 : decode cX3_cutToBits 33 = .ok (.i2b, 1) := by decide +kernel
theorem dX3_cutToBits_34 : decode cX3_cutToBits 34 = .ok (.ireturn, 1) := by decide +kernel
theorem dX3_cutToBits_35 : decode cX3_cutToBits 35 = .ok (.iload_n 1, 1) := by decide +kernel
theorem dX3_cutToBits_36 : decode cX3_cutToBits 36 = .ok (.i2s, 1) := by decide +kernel
theorem dX3_cutToBits_37 : decode cX3_cutToBits 37 = .ok (.ireturn, 1) := by decide +kernel
theorem dX3_cutToBits_38 : decode cX3_cutToBits 38 = .ok (.iload_n 1, 1) := by decide +kernel
theorem dX3_cutToBits_39 : decode cX3_cutToBits 39 = .ok (.ireturn, 1) := by decide +kernel
end
section
theorem dX4_init_0 : decode cX4_init 0 = .ok (.aload_n 0, 1) := by decide +kernel
theorem dX4_init_1 : decode cX4_init 1 = .ok (.invokespecial 3, 3) := by decide +kernel
theorem dX4_init_4 : decode cX4_init 4 = .ok (.return_, 1) := by decide +kernel
theorem dX4_beginAs_0 : decode cX4_beginAs 0 = .ok (.aload_n 0, 1) := by decide +kernel
theorem dX4_beginAs_1 : decode cX4_beginAs 1 = .ok (.iload_n 1, 1) := by decide +kernel
theorem dX4_beginAs_2 : decode cX4_beginAs 2 = .ok (.putfield 9, 3) := by decide +kernel
theorem dX4_beginAs_5 : decode cX4_beginAs 5 = .ok (.aload_n 0, 1) := by decide +kernel
theorem dX4_beginAs_6 : decode cX4_beginAs 6 = .ok (.iload_n 2, 1) := by decide +kernel
theorem dX4_beginAs_7 : decode cX4_beginAs 7 = .ok (.putfield 15, 3) := by decide +kernel
theorem dX4_beginAs_10 : decode cX4_beginAs 10 = .ok (.aload_n 0, 1) := by decide +kernel
theorem dX4_beginAs_11 : decode cX4_beginAs 11 = .ok (.iconst 4, 1) := by decide +kernel
theorem dX4_beginAs_12 : decode cX4_beginAs 12 = .ok (.putfield 18, 3) := by decide +kernel
theorem dX4_beginAs_15 : decode cX4_beginAs 15 = .ok (.aload_n 0, 1) := by decide +kernel
theorem dX4_beginAs_16 : decode cX4_beginAs 16 = .ok (.iconst 0, 1) := by decide +kernel
theorem dX4_beginAs_17 : decode cX4_beginAs 17 = .ok (.putfield 21, 3) := by decide +kernel
theorem dX4_beginAs_20 : decode cX4_beginAs 20 = .ok (.aload_n 0, 1) := by decide +kernel
theorem dX4_beginAs_21 : decode cX4_beginAs 21 = .ok (.iconst 0, 1) := by decide +kernel
theorem dX4_beginAs_22 : decode cX4_beginAs 22 = .ok (.putfield 24, 3) := by decide +kernel
theorem dX4_beginAs_25 : decode cX4_beginAs 25 = .ok (.aload_n 0, 1) := by decide +kernel
theorem dX4_beginAs_26 : decode cX4_beginAs 26 = .ok (.iconst 0, 1) := by decide +kernel
theorem dX4_beginAs_27 : decode cX4_beginAs 27 = .ok (.putfield 27, 3) := by decide +kernel
theorem dX4_beginAs_30 : decode cX4_beginAs 30 = .ok (.aload_n 0, 1) := by decide +kernel
theorem dX4_beginAs_31 : decode cX4_beginAs 31 = .ok (.iconst 0, 1) := by decide +kernel
theorem dX4_beginAs_32 : decode cX4_beginAs 32 = .ok (.putfield 30, 3) := by decide +kernel
theorem dX4_beginAs_35 : decode cX4_beginAs 35 = .ok (.aload_n 0, 1) := by decide +kernel
theorem dX4_beginAs_36 : decode cX4_beginAs 36 = .ok (.iconst 0, 1) := by decide +kernel
theorem dX4_beginAs_37 : decode cX4_beginAs 37 = .ok (.putfield 33, 3) := by decide +kernel
theorem dX4_beginAs_40 : decode cX4_beginAs 40 = .ok (.return_, 1) := by decide +kernel
theorem dX4_become_0 : decode cX4_become 0 = .ok (.aload_n 0, 1) := by decide +kernel
theorem dX4_become_1 : decode cX4_become 1 = .ok (.aload_n 1, 1) := by decide +kernel
theorem dX4_become_2 : decode cX4_become 2 = .ok (.getfield 9, 3) := by decide +kernel
theorem dX4_become_5 : decode cX4_become 5 = .ok (.putfield 9, 3) := by decide +kernel
theorem dX4_become_8 : decode cX4_become 8 = .ok (.aload_n 0, 1) := by decide +kernel
theorem dX4_become_9 : decode cX4_become 9 = .ok (.aload_n 1, 1) := by decide +kernel
theorem dX4_become_10 : decode cX4_become 10 = .ok (.getfield 15, 3) := by decide +kernel
theorem dX4_become_13 : decode cX4_become 13 = .ok (.putfield 15, 3) := by decide +kernel
theorem dX4_become_16 : decode cX4_become 16 = .ok (.aload_n 0, 1) := by decide +kernel
theorem dX4_become_17 : decode cX4_become 17 = .ok (.aload_n 1, 1) := by decide +kernel
theorem dX4_become_18 : decode cX4_become 18 = .ok (.getfield 18, 3) := by decide +kernel
theorem dX4_become_21 : decode cX4_become 21 = .ok (.putfield 18, 3) := by decide +kernel
theorem dX4_become_24 : decode cX4_become 24 = .ok (.aload_n 0, 1) := by decide +kernel
theorem dX4_become_25 : decode cX4_become 25 = .ok (.aload_n 1, 1) := by decide +kernel
theorem dX4_become_26 : decode cX4_become 26 = .ok (.getfield 21, 3) := by decide +kernel
theorem dX4_become_29 : decode cX4_become 29 = .ok (.putfield 21, 3) := by decide +kernel
theorem dX4_become_32 : decode cX4_become 32 = .ok (.aload_n 0, 1) := by decide +kernel
theorem dX4_become_33 : decode cX4_become 33 = .ok (.aload_n 1, 1) := by decide +kernel
theorem dX4_become_34 : decode cX4_become 34 = .ok (.getfield 24, 3) := by decide +kernel
theorem dX4_become_37 : decode cX4_become 37 = .ok (.putfield 24, 3) := by decide +kernel
theorem dX4_become_40 : decode cX4_become 40 = .ok (.aload_n 0, 1) := by decide +kernel
theorem dX4_become_41 : decode cX4_become 41 = .ok (.aload_n 1, 1) := by decide +kernel
theorem dX4_become_42 : decode cX4_become 42 = .ok (.getfield 27, 3) := by decide +kernel
theorem dX4_become_45 : decode cX4_become 45 = .ok (.putfield 27, 3) := by decide +kernel
theorem dX4_become_48 : decode cX4_become 48 = .ok (.aload_n 0, 1) := by decide +kernel
theorem dX4_become_49 : decode cX4_become 49 = .ok (.aload_n 1, 1) := by decide +kernel
theorem dX4_become_50 : decode cX4_become 50 = .ok (.getfield 30, 3) := by decide +kernel
theorem dX4_become_53 : decode cX4_become 53 = .ok (.putfield 30, 3) := by decide +kernel
theorem dX4_become_56 : decode cX4_become 56 = .ok (.aload_n 0, 1) := by decide +kernel
theorem dX4_become_57 : decode cX4_become 57 = .ok (.aload_n 1, 1) := by decide +kernel
theorem dX4_become_58 : decode cX4_become 58 = .ok (.getfield 33, 3) := by decide +kernel
theorem dX4_become_61 : decode cX4_become 61 = .ok (.putfield 33, 3) := by decide +kernel
theorem dX4_become_64 : decode cX4_become 64 = .ok (.return_, 1) := by decide +kernel
theorem dX4_gainFrom_0 : decode cX4_gainFrom 0 = .ok (.iload_n 1, 1) := by decide +kernel
theorem dX4_gainFrom_1 : decode cX4_gainFrom 1 = .ok (.aload_n 0, 1) := by decide +kernel
theorem dX4_gainFrom_2 : decode cX4_gainFrom 2 = .ok (.getfield 18, 3) := by decide +kernel
theorem dX4_gainFrom_5 : decode cX4_gainFrom 5 = .ok (.imul, 1) := by decide +kernel
theorem dX4_gainFrom_6 : decode cX4_gainFrom 6 = .ok (.istore_n 2, 1) := by decide +kernel
theorem dX4_gainFrom_7 : decode cX4_gainFrom 7 = .ok (.aload_n 0, 1) := by decide +kernel
theorem dX4_gainFrom_8 : decode cX4_gainFrom 8 = .ok (.getfield 9, 3) := by decide +kernel
theorem dX4_gainFrom_11 : decode cX4_gainFrom 11 = .ok (.tableswitch 59 1 6 #[37, 59, 41, 59, 37, 53], 37) := by decide +kernel
theorem dX4_gainFrom_48 : decode cX4_gainFrom 48 = .ok (.iload_n 2, 1) := by decide +kernel
theorem dX4_gainFrom_49 : decode cX4_gainFrom 49 = .ok (.iconst 2, 1) := by decide +kernel
theorem dX4_gainFrom_50 : decode cX4_gainFrom 50 = .ok (.iadd, 1) := by decide +kernel
theorem dX4_gainFrom_51 : decode cX4_gainFrom 51 = .ok (.ireturn, 1) := by decide +kernel
theorem dX4_gainFrom_52 : decode cX4_gainFrom 52 = .ok (.iload_n 2, 1) := by decide +kernel
theorem dX4_gainFrom_53 : decode cX4_gainFrom 53 = .ok (.iconst 2, 1) := by decide +kernel
theorem dX4_gainFrom_54 : decode cX4_gainFrom 54 = .ok (.iadd, 1) := by decide +kernel
theorem dX4_gainFrom_55 : decode cX4_gainFrom 55 = .ok (.aload_n 0, 1) := by decide +kernel
theorem dX4_gainFrom_56 : decode cX4_gainFrom 56 = .ok (.getfield 15, 3) := by decide +kernel
theorem dX4_gainFrom_59 : decode cX4_gainFrom 59 = .ok (.bipush 10, 2) := by decide +kernel
theorem dX4_gainFrom_61 : decode cX4_gainFrom 61 = .ok (.idiv, 1) := by decide +kernel
theorem dX4_gainFrom_62 : decode cX4_gainFrom 62 = .ok (.iadd, 1) := by decide +kernel
theorem dX4_gainFrom_63 : decode cX4_gainFrom 63 = .ok (.ireturn, 1) := by decide +kernel
theorem dX4_gainFrom_64 : decode cX4_gainFrom 64 = .ok (.iload_n 2, 1) := by decide +kernel
theorem dX4_gainFrom_65 : decode cX4_gainFrom 65 = .ok (.iconst 0, 1) := by decide +kernel
theorem dX4_gainFrom_66 : decode cX4_gainFrom 66 = .ok (.invokestatic 36, 3) := by decide +kernel
theorem dX4_gainFrom_69 : decode cX4_gainFrom 69 = .ok (.ireturn, 1) := by decide +kernel
theorem dX4_gainFrom_70 : decode cX4_gainFrom 70 = .ok (.iload_n 2, 1) := by decide +kernel
theorem dX4_gainFrom_71 : decode cX4_gainFrom 71 = .ok (.ireturn, 1) := by decide +kernel
theorem dX4_dragOn_0 : decode cX4_dragOn 0 = .ok (.iload_n 1, 1) := by decide +kernel
theorem dX4_dragOn_1 : decode cX4_dragOn 1 = .ok (.iconst 0, 1) := by decide +kernel
theorem dX4_dragOn_2 : decode cX4_dragOn 2 = .ok (.iconst 4, 1) := by decide +kernel
theorem dX4_dragOn_3 : decode cX4_dragOn 3 = .ok (.invokestatic 42, 3) := by decide +kernel
theorem dX4_dragOn_6 : decode cX4_dragOn 6 = .ok (.ifCond .eq 11, 3) := by decide +kernel
theorem dX4_dragOn_9 : decode cX4_dragOn 9 = .ok (.getstatic 46, 3) := by decide +kernel
theorem dX4_dragOn_12 : decode cX4_dragOn 12 = .ok (.iload_n 1, 1) := by decide +kernel
theorem dX4_dragOn_13 : decode cX4_dragOn 13 = .ok (.iaload, 1) := by decide +kernel
theorem dX4_dragOn_14 : decode cX4_dragOn 14 = .ok (.goto 4, 3) := by decide +kernel
theorem dX4_dragOn_17 : decode cX4_dragOn 17 = .ok (.iconst 0, 1) := by decide +kernel
theorem dX4_dragOn_18 : decode cX4_dragOn 18 = .ok (.istore_n 2, 1) := by decide +kernel
theorem dX4_dragOn_19 : decode cX4_dragOn 19 = .ok (.aload_n 0, 1) := by decide +kernel
theorem dX4_dragOn_20 : decode cX4_dragOn 20 = .ok (.getfield 9, 3) := by decide +kernel
theorem dX4_dragOn_23 : decode cX4_dragOn 23 = .ok (.tableswitch 59 2 5 #[29, 59, 36, 55], 29) := by decide +kernel
theorem dX4_dragOn_52 : decode cX4_dragOn 52 = .ok (.iload_n 2, 1) := by decide +kernel
theorem dX4_dragOn_53 : decode cX4_dragOn 53 = .ok (.aload_n 0, 1) := by decide +kernel
theorem dX4_dragOn_54 : decode cX4_dragOn 54 = .ok (.getfield 21, 3) := by decide +kernel
theorem dX4_dragOn_57 : decode cX4_dragOn 57 = .ok (.iadd, 1) := by decide +kernel
theorem dX4_dragOn_58 : decode cX4_dragOn 58 = .ok (.ireturn, 1) := by decide +kernel
theorem dX4_dragOn_59 : decode cX4_dragOn 59 = .ok (.iload_n 2, 1) := by decide +kernel
theorem dX4_dragOn_60 : decode cX4_dragOn 60 = .ok (.aload_n 0, 1) := by decide +kernel
theorem dX4_dragOn_61 : decode cX4_dragOn 61 = .ok (.getfield 21, 3) := by decide +kernel
theorem dX4_dragOn_64 : decode cX4_dragOn 64 = .ok (.iadd, 1) := by decide +kernel
theorem dX4_dragOn_65 : decode cX4_dragOn 65 = .ok (.iload_n 1, 1) := by decide +kernel
theorem dX4_dragOn_66 : decode cX4_dragOn 66 = .ok (.iconst 2, 1) := by decide +kernel
theorem dX4_dragOn_67 : decode cX4_dragOn 67 = .ok (.if_icmp .ne 8, 3) := by decide +kernel
theorem dX4_dragOn_70 : decode cX4_dragOn 70 = .ok (.bipush 10, 2) := by decide +kernel
theorem dX4_dragOn_72 : decode cX4_dragOn 72 = .ok (.goto 4, 3) := by decide +kernel
theorem dX4_dragOn_75 : decode cX4_dragOn 75 = .ok (.iconst 0, 1) := by decide +kernel
theorem dX4_dragOn_76 : decode cX4_dragOn 76 = .ok (.isub, 1) := by decide +kernel
theorem dX4_dragOn_77 : decode cX4_dragOn 77 = .ok (.ireturn, 1) := by decide +kernel
theorem dX4_dragOn_78 : decode cX4_dragOn 78 = .ok (.iload_n 2, 1) := by decide +kernel
theorem dX4_dragOn_79 : decode cX4_dragOn 79 = .ok (.iconst 2, 1) := by decide +kernel
theorem dX4_dragOn_80 : decode cX4_dragOn 80 = .ok (.idiv, 1) := by decide +kernel
theorem dX4_dragOn_81 : decode cX4_dragOn 81 = .ok (.ireturn, 1) := by decide +kernel
theorem dX4_dragOn_82 : decode cX4_dragOn 82 = .ok (.iload_n 2, 1) := by decide +kernel
theorem dX4_dragOn_83 : decode cX4_dragOn 83 = .ok (.ireturn, 1) := by decide +kernel
theorem dX4_bendLimit_0 : decode cX4_bendLimit 0 = .ok (.aload_n 0, 1) := by decide +kernel
theorem dX4_bendLimit_1 : decode cX4_bendLimit 1 = .ok (.getfield 9, 3) := by decide +kernel
theorem dX4_bendLimit_4 : decode cX4_bendLimit 4 = .ok (.tableswitch 52 1 5 #[36, 42, 39, 42, 36], 36) := by decide +kernel
theorem dX4_bendLimit_40 : decode cX4_bendLimit 40 = .ok (.bipush 30, 2) := by decide +kernel
theorem dX4_bendLimit_42 : decode cX4_bendLimit 42 = .ok (.ireturn, 1) := by decide +kernel
theorem dX4_bendLimit_43 : decode cX4_bendLimit 43 = .ok (.bipush 55, 2) := by decide +kernel
theorem dX4_bendLimit_45 : decode cX4_bendLimit 45 = .ok (.ireturn, 1) := by decide +kernel
theorem dX4_bendLimit_46 : decode cX4_bendLimit 46 = .ok (.bipush 40, 2) := by decide +kernel
theorem dX4_bendLimit_48 : decode cX4_bendLimit 48 = .ok (.iconst 3, 1) := by decide +kernel
theorem dX4_bendLimit_49 : decode cX4_bendLimit 49 = .ok (.aload_n 0, 1) := by decide +kernel
theorem dX4_bendLimit_50 : decode cX4_bendLimit 50 = .ok (.getfield 21, 3) := by decide +kernel
theorem dX4_bendLimit_53 : decode cX4_bendLimit 53 = .ok (.imul, 1) := by decide +kernel
theorem dX4_bendLimit_54 : decode cX4_bendLimit 54 = .ok (.isub, 1) := by decide +kernel
theorem dX4_bendLimit_55 : decode cX4_bendLimit 55 = .ok (.ireturn, 1) := by decide +kernel
theorem dX4_bendLimit_56 : decode cX4_bendLimit 56 = .ok (.bipush 40, 2) := by decide +kernel
theorem dX4_bendLimit_58 : decode cX4_bendLimit 58 = .ok (.ireturn, 1) := by decide +kernel
theorem dX4_isOfKind_0 : decode cX4_isOfKind 0 = .ok (.aload_n 0, 1) := by decide +kernel
theorem dX4_isOfKind_1 : decode cX4_isOfKind 1 = .ok (.getfield 9, 3) := by decide +kernel
theorem dX4_isOfKind_4 : decode cX4_isOfKind 4 = .ok (.istore_n 2, 1) := by decide +kernel
theorem dX4_isOfKind_5 : decode cX4_isOfKind 5 = .ok (.iconst 0, 1) := by decide +kernel
theorem dX4_isOfKind_6 : decode cX4_isOfKind 6 = .ok (.istore_n 3, 1) := by decide +kernel
theorem dX4_isOfKind_7 : decode cX4_isOfKind 7 = .ok (.iload_n 3, 1) := by decide +kernel
theorem dX4_isOfKind_8 : decode cX4_isOfKind 8 = .ok (.bipush 7, 2) := by decide +kernel
theorem dX4_isOfKind_10 : decode cX4_isOfKind 10 = .ok (.if_icmp .ge 32, 3) := by decide +kernel
theorem dX4_isOfKind_13 : decode cX4_isOfKind 13 = .ok (.iload_n 2, 1) := by decide +kernel
theorem dX4_isOfKind_14 : decode cX4_isOfKind 14 = .ok (.iconst 0, 1) := by decide +kernel
theorem dX4_isOfKind_15 : decode cX4_isOfKind 15 = .ok (.bipush 6, 2) := by decide +kernel
theorem dX4_isOfKind_17 : decode cX4_isOfKind 17 = .ok (.invokestatic 42, 3) := by decide +kernel
theorem dX4_isOfKind_20 : decode cX4_isOfKind 20 = .ok (.ifCond .eq 22, 3) := by decide +kernel
theorem dX4_isOfKind_23 : decode cX4_isOfKind 23 = .ok (.iload_n 2, 1) := by decide +kernel
theorem dX4_isOfKind_24 : decode cX4_isOfKind 24 = .ok (.iload_n 1, 1) := by decide +kernel
theorem dX4_isOfKind_25 : decode cX4_isOfKind 25 = .ok (.if_icmp .ne 5, 3) := by decide +kernel
theorem dX4_isOfKind_28 : decode cX4_isOfKind 28 = .ok (.iconst 1, 1) := by decide +kernel
theorem dX4_isOfKind_29 : decode cX4_isOfKind 29 = .ok (.ireturn, 1) := by decide +kernel
theorem dX4_isOfKind_30 : decode cX4_isOfKind 30 = .ok (.getstatic 50, 3) := by decide +kernel
theorem dX4_isOfKind_33 : decode cX4_isOfKind 33 = .ok (.iload_n 2, 1) := by decide +kernel
theorem dX4_isOfKind_34 : decode cX4_isOfKind 34 = .ok (.iaload, 1) := by decide +kernel
theorem dX4_isOfKind_35 : decode cX4_isOfKind 35 = .ok (.istore_n 2, 1) := by decide +kernel
theorem dX4_isOfKind_36 : decode cX4_isOfKind 36 = .ok (.iinc 3 1, 3) := by decide +kernel
theorem dX4_isOfKind_39 : decode cX4_isOfKind 39 = .ok (.goto (-32), 3) := by decide +kernel
theorem dX4_isOfKind_42 : decode cX4_isOfKind 42 = .ok (.iconst 0, 1) := by decide +kernel
theorem dX4_isOfKind_43 : decode cX4_isOfKind 43 = .ok (.ireturn, 1) := by decide +kernel
theorem dX4_isStanding_0 : decode cX4_isStanding 0 = .ok (.aload_n 0, 1) := by decide +kernel
theorem dX4_isStanding_1 : decode cX4_isStanding 1 = .ok (.getfield 30, 3) := by decide +kernel
theorem dX4_isStanding_4 : decode cX4_isStanding 4 = .ok (.ifCond .eq 11, 3) := by decide +kernel
theorem dX4_isStanding_7 : decode cX4_isStanding 7 = .ok (.aload_n 0, 1) := by decide +kernel
theorem dX4_isStanding_8 : decode cX4_isStanding 8 = .ok (.getfield 30, 3) := by decide +kernel
theorem dX4_isStanding_11 : decode cX4_isStanding 11 = .ok (.iconst 1, 1) := by decide +kernel
theorem dX4_isStanding_12 : decode cX4_isStanding 12 = .ok (.if_icmp .ne 7, 3) := by decide +kernel
theorem dX4_isStanding_15 : decode cX4_isStanding 15 = .ok (.iconst 1, 1) := by decide +kernel
theorem dX4_isStanding_16 : decode cX4_isStanding 16 = .ok (.goto 4, 3) := by decide +kernel
theorem dX4_isStanding_19 : decode cX4_isStanding 19 = .ok (.iconst 0, 1) := by decide +kernel
theorem dX4_isStanding_20 : decode cX4_isStanding 20 = .ok (.ireturn, 1) := by decide +kernel
theorem dX4_canBeLetGo_0 : decode cX4_canBeLetGo 0 = .ok (.aload_n 0, 1) := by decide +kernel
theorem dX4_canBeLetGo_1 : decode cX4_canBeLetGo 1 = .ok (.getfield 30, 3) := by decide +kernel
theorem dX4_canBeLetGo_4 : decode cX4_canBeLetGo 4 = .ok (.ifCond .ne 16, 3) := by decide +kernel
theorem dX4_canBeLetGo_7 : decode cX4_canBeLetGo 7 = .ok (.aload_n 0, 1) := by decide +kernel
theorem dX4_canBeLetGo_8 : decode cX4_canBeLetGo 8 = .ok (.getfield 24, 3) := by decide +kernel
theorem dX4_canBeLetGo_11 : decode cX4_canBeLetGo 11 = .ok (.bipush 30, 2) := by decide +kernel
theorem dX4_canBeLetGo_13 : decode cX4_canBeLetGo 13 = .ok (.if_icmp .eq 7, 3) := by decide +kernel
theorem dX4_canBeLetGo_16 : decode cX4_canBeLetGo 16 = .ok (.iconst 1, 1) := by decide +kernel
theorem dX4_canBeLetGo_17 : decode cX4_canBeLetGo 17 = .ok (.goto 4, 3) := by decide +kernel
theorem dX4_canBeLetGo_20 : decode cX4_canBeLetGo 20 = .ok (.iconst 0, 1) := by decide +kernel
theorem dX4_canBeLetGo_21 : decode cX4_canBeLetGo 21 = .ok (.ireturn, 1) := by decide +kernel
theorem dX4_letGo_0 : decode cX4_letGo 0 = .ok (.aload_n 0, 1) := by decide +kernel
theorem dX4_letGo_1 : decode cX4_letGo 1 = .ok (.iconst 1, 1) := by decide +kernel
theorem dX4_letGo_2 : decode cX4_letGo 2 = .ok (.putfield 30, 3) := by decide +kernel
theorem dX4_letGo_5 : decode cX4_letGo 5 = .ok (.aload_n 0, 1) := by decide +kernel
theorem dX4_letGo_6 : decode cX4_letGo 6 = .ok (.iload_n 1, 1) := by decide +kernel
theorem dX4_letGo_7 : decode cX4_letGo 7 = .ok (.putfield 27, 3) := by decide +kernel
theorem dX4_letGo_10 : decode cX4_letGo 10 = .ok (.return_, 1) := by decide +kernel
theorem dX4_stop_0 : decode cX4_stop 0 = .ok (.aload_n 0, 1) := by decide +kernel
theorem dX4_stop_1 : decode cX4_stop 1 = .ok (.iconst 0, 1) := by decide +kernel
theorem dX4_stop_2 : decode cX4_stop 2 = .ok (.putfield 30, 3) := by decide +kernel
theorem dX4_stop_5 : decode cX4_stop 5 = .ok (.aload_n 0, 1) := by decide +kernel
theorem dX4_stop_6 : decode cX4_stop 6 = .ok (.iconst 0, 1) := by decide +kernel
theorem dX4_stop_7 : decode cX4_stop 7 = .ok (.putfield 27, 3) := by decide +kernel
theorem dX4_stop_10 : decode cX4_stop 10 = .ok (.return_, 1) := by decide +kernel
theorem dX4_wheelTime_0 : decode cX4_wheelTime 0 = .ok (.aload_n 0, 1) := by decide +kernel
theorem dX4_wheelTime_1 : decode cX4_wheelTime 1 = .ok (.getfield 15, 3) := by decide +kernel
theorem dX4_wheelTime_4 : decode cX4_wheelTime 4 = .ok (.bipush 10, 2) := by decide +kernel
theorem dX4_wheelTime_6 : decode cX4_wheelTime 6 = .ok (.idiv, 1) := by decide +kernel
theorem dX4_wheelTime_7 : decode cX4_wheelTime 7 = .ok (.iconst 1, 1) := by decide +kernel
theorem dX4_wheelTime_8 : decode cX4_wheelTime 8 = .ok (.iadd, 1) := by decide +kernel
theorem dX4_wheelTime_9 : decode cX4_wheelTime 9 = .ok (.ireturn, 1) := by decide +kernel
end
section
theorem dX5_init_0 : decode cX5_init 0 = .ok (.aload_n 0, 1) := by decide +kernel
theorem dX5_init_1 : decode cX5_init 1 = .ok (.invokespecial 3, 3) := by decide +kernel
theorem dX5_init_4 : decode cX5_init 4 = .ok (.aload_n 0, 1) := by decide +kernel
theorem dX5_init_5 : decode cX5_init 5 = .ok (.bipush 31, 2) := by decide +kernel
theorem dX5_init_7 : decode cX5_init 7 = .ok (.newarray .int, 2) := by decide +kernel
theorem dX5_init_9 : decode cX5_init 9 = .ok (.putfield 9, 3) := by decide +kernel
theorem dX5_init_12 : decode cX5_init 12 = .ok (.aload_n 0, 1) := by decide +kernel
theorem dX5_init_13 : decode cX5_init 13 = .ok (.bipush 31, 2) := by decide +kernel
theorem dX5_init_15 : decode cX5_init 15 = .ok (.newarray .int, 2) := by decide +kernel
theorem dX5_init_17 : decode cX5_init 17 = .ok (.putfield 15, 3) := by decide +kernel
theorem dX5_init_20 : decode cX5_init 20 = .ok (.aload_n 0, 1) := by decide +kernel
theorem dX5_init_21 : decode cX5_init 21 = .ok (.bipush 10, 2) := by decide +kernel
theorem dX5_init_23 : decode cX5_init 23 = .ok (.anewarray 18, 3) := by decide +kernel
theorem dX5_init_26 : decode cX5_init 26 = .ok (.putfield 20, 3) := by decide +kernel
theorem dX5_init_29 : decode cX5_init 29 = .ok (.aload_n 0, 1) := by decide +kernel
theorem dX5_init_30 : decode cX5_init 30 = .ok (.bipush 10, 2) := by decide +kernel
theorem dX5_init_32 : decode cX5_init 32 = .ok (.newarray .int, 2) := by decide +kernel
theorem dX5_init_34 : decode cX5_init 34 = .ok (.putfield 24, 3) := by decide +kernel
theorem dX5_init_37 : decode cX5_init 37 = .ok (.aload_n 0, 1) := by decide +kernel
theorem dX5_init_38 : decode cX5_init 38 = .ok (.iconst 0, 1) := by decide +kernel
theorem dX5_init_39 : decode cX5_init 39 = .ok (.putfield 27, 3) := by decide +kernel
theorem dX5_init_42 : decode cX5_init 42 = .ok (.aload_n 0, 1) := by decide +kernel
theorem dX5_init_43 : decode cX5_init 43 = .ok (.iconst 0, 1) := by decide +kernel
theorem dX5_init_44 : decode cX5_init 44 = .ok (.putfield 31, 3) := by decide +kernel
theorem dX5_init_47 : decode cX5_init 47 = .ok (.aload_n 0, 1) := by decide +kernel
theorem dX5_init_48 : decode cX5_init 48 = .ok (.bipush 14, 2) := by decide +kernel
theorem dX5_init_50 : decode cX5_init 50 = .ok (.putfield 34, 3) := by decide +kernel
theorem dX5_init_53 : decode cX5_init 53 = .ok (.aload_n 0, 1) := by decide +kernel
theorem dX5_init_54 : decode cX5_init 54 = .ok (.iconst 0, 1) := by decide +kernel
theorem dX5_init_55 : decode cX5_init 55 = .ok (.putfield 37, 3) := by decide +kernel
theorem dX5_init_58 : decode cX5_init 58 = .ok (.aload_n 0, 1) := by decide +kernel
theorem dX5_init_59 : decode cX5_init 59 = .ok (.iconst 1, 1) := by decide +kernel
theorem dX5_init_60 : decode cX5_init 60 = .ok (.putfield 40, 3) := by decide +kernel
theorem dX5_init_63 : decode cX5_init 63 = .ok (.iconst 0, 1) := by decide +kernel
theorem dX5_init_64 : decode cX5_init 64 = .ok (.istore_n 1, 1) := by decide +kernel
theorem dX5_init_65 : decode cX5_init 65 = .ok (.iload_n 1, 1) := by decide +kernel
theorem dX5_init_66 : decode cX5_init 66 = .ok (.bipush 31, 2) := by decide +kernel
theorem dX5_init_68 : decode cX5_init 68 = .ok (.if_icmp .ge 16, 3) := by decide +kernel
theorem dX5_init_71 : decode cX5_init 71 = .ok (.aload_n 0, 1) := by decide +kernel
theorem dX5_init_72 : decode cX5_init 72 = .ok (.getfield 9, 3) := by decide +kernel
theorem dX5_init_75 : decode cX5_init 75 = .ok (.iload_n 1, 1) := by decide +kernel
theorem dX5_init_76 : decode cX5_init 76 = .ok (.iconst 2, 1) := by decide +kernel
theorem dX5_init_77 : decode cX5_init 77 = .ok (.iastore, 1) := by decide +kernel
theorem dX5_init_78 : decode cX5_init 78 = .ok (.iinc 1 1, 3) := by decide +kernel
theorem dX5_init_81 : decode cX5_init 81 = .ok (.goto (-16), 3) := by decide +kernel
theorem dX5_init_84 : decode cX5_init 84 = .ok (.iconst 0, 1) := by decide +kernel
theorem dX5_init_85 : decode cX5_init 85 = .ok (.istore_n 1, 1) := by decide +kernel
theorem dX5_init_86 : decode cX5_init 86 = .ok (.iload_n 1, 1) := by decide +kernel
theorem dX5_init_87 : decode cX5_init 87 = .ok (.bipush 10, 2) := by decide +kernel
theorem dX5_init_89 : decode cX5_init 89 = .ok (.if_icmp .ge 22, 3) := by decide +kernel
theorem dX5_init_92 : decode cX5_init 92 = .ok (.aload_n 0, 1) := by decide +kernel
theorem dX5_init_93 : decode cX5_init 93 = .ok (.getfield 20, 3) := by decide +kernel
theorem dX5_init_96 : decode cX5_init 96 = .ok (.iload_n 1, 1) := by decide +kernel
theorem dX5_init_97 : decode cX5_init 97 = .ok (.new 18, 3) := by decide +kernel
theorem dX5_init_100 : decode cX5_init 100 = .ok (.dup, 1) := by decide +kernel
theorem dX5_init_101 : decode cX5_init 101 = .ok (.invokespecial 43, 3) := by decide +kernel
theorem dX5_init_104 : decode cX5_init 104 = .ok (.aastore, 1) := by decide +kernel
theorem dX5_init_105 : decode cX5_init 105 = .ok (.iinc 1 1, 3) := by decide +kernel
theorem dX5_init_108 : decode cX5_init 108 = .ok (.goto (-22), 3) := by decide +kernel
theorem dX5_init_111 : decode cX5_init 111 = .ok (.iconst 0, 1) := by decide +kernel
theorem dX5_init_112 : decode cX5_init 112 = .ok (.istore_n 1, 1) := by decide +kernel
theorem dX5_init_113 : decode cX5_init 113 = .ok (.iload_n 1, 1) := by decide +kernel
theorem dX5_init_114 : decode cX5_init 114 = .ok (.bipush 10, 2) := by decide +kernel
theorem dX5_init_116 : decode cX5_init 116 = .ok (.if_icmp .ge 16, 3) := by decide +kernel
theorem dX5_init_119 : decode cX5_init 119 = .ok (.aload_n 0, 1) := by decide +kernel
theorem dX5_init_120 : decode cX5_init 120 = .ok (.getfield 24, 3) := by decide +kernel
theorem dX5_init_123 : decode cX5_init 123 = .ok (.iload_n 1, 1) := by decide +kernel
theorem dX5_init_124 : decode cX5_init 124 = .ok (.iconst (-1), 1) := by decide +kernel
theorem dX5_init_125 : decode cX5_init 125 = .ok (.iastore, 1) := by decide +kernel
theorem dX5_init_126 : decode cX5_init 126 = .ok (.iinc 1 1, 3) := by decide +kernel
theorem dX5_init_129 : decode cX5_init 129 = .ok (.goto (-16), 3) := by decide +kernel
theorem dX5_init_132 : decode cX5_init 132 = .ok (.return_, 1) := by decide +kernel
theorem dX5_become_0 : decode cX5_become 0 = .ok (.aload_n 1, 1) := by decide +kernel
theorem dX5_become_1 : decode cX5_become 1 = .ok (.getfield 9, 3) := by decide +kernel
theorem dX5_become_4 : decode cX5_become 4 = .ok (.iconst 0, 1) := by decide +kernel
theorem dX5_become_5 : decode cX5_become 5 = .ok (.aload_n 0, 1) := by decide +kernel
theorem dX5_become_6 : decode cX5_become 6 = .ok (.getfield 9, 3) := by decide +kernel
theorem dX5_become_9 : decode cX5_become 9 = .ok (.iconst 0, 1) := by decide +kernel
theorem dX5_become_10 : decode cX5_become 10 = .ok (.bipush 31, 2) := by decide +kernel
theorem dX5_become_12 : decode cX5_become 12 = .ok (.invokestatic 44, 3) := by decide +kernel
theorem dX5_become_15 : decode cX5_become 15 = .ok (.aload_n 1, 1) := by decide +kernel
theorem dX5_become_16 : decode cX5_become 16 = .ok (.getfield 15, 3) := by decide +kernel
theorem dX5_become_19 : decode cX5_become 19 = .ok (.iconst 0, 1) := by decide +kernel
theorem dX5_become_20 : decode cX5_become 20 = .ok (.aload_n 0, 1) := by decide +kernel
theorem dX5_become_21 : decode cX5_become 21 = .ok (.getfield 15, 3) := by decide +kernel
theorem dX5_become_24 : decode cX5_become 24 = .ok (.iconst 0, 1) := by decide +kernel
theorem dX5_become_25 : decode cX5_become 25 = .ok (.bipush 31, 2) := by decide +kernel
theorem dX5_become_27 : decode cX5_become 27 = .ok (.invokestatic 44, 3) := by decide +kernel
theorem dX5_become_30 : decode cX5_become 30 = .ok (.aload_n 1, 1) := by decide +kernel
theorem dX5_become_31 : decode cX5_become 31 = .ok (.getfield 24, 3) := by decide +kernel
theorem dX5_become_34 : decode cX5_become 34 = .ok (.iconst 0, 1) := by decide +kernel
theorem dX5_become_35 : decode cX5_become 35 = .ok (.aload_n 0, 1) := by decide +kernel
theorem dX5_become_36 : decode cX5_become 36 = .ok (.getfield 24, 3) := by decide +kernel
theorem dX5_become_39 : decode cX5_become 39 = .ok (.iconst 0, 1) := by decide +kernel
theorem dX5_become_40 : decode cX5_become 40 = .ok (.bipush 10, 2) := by decide +kernel
theorem dX5_become_42 : decode cX5_become 42 = .ok (.invokestatic 44, 3) := by decide +kernel
theorem dX5_become_45 : decode cX5_become 45 = .ok (.iconst 0, 1) := by decide +kernel
theorem dX5_become_46 : decode cX5_become 46 = .ok (.istore_n 2, 1) := by decide +kernel
theorem dX5_become_47 : decode cX5_become 47 = .ok (.iload_n 2, 1) := by decide +kernel
theorem dX5_become_48 : decode cX5_become 48 = .ok (.aload_n 1, 1) := by decide +kernel
theorem dX5_become_49 : decode cX5_become 49 = .ok (.getfield 27, 3) := by decide +kernel
theorem dX5_become_52 : decode cX5_become 52 = .ok (.if_icmp .ge 24, 3) := by decide +kernel
theorem dX5_become_55 : decode cX5_become 55 = .ok (.aload_n 0, 1) := by decide +kernel
theorem dX5_become_56 : decode cX5_become 56 = .ok (.getfield 20, 3) := by decide +kernel
theorem dX5_become_59 : decode cX5_become 59 = .ok (.iload_n 2, 1) := by decide +kernel
theorem dX5_become_60 : decode cX5_become 60 = .ok (.aaload, 1) := by decide +kernel
theorem dX5_become_61 : decode cX5_become 61 = .ok (.aload_n 1, 1) := by decide +kernel
theorem dX5_become_62 : decode cX5_become 62 = .ok (.getfield 20, 3) := by decide +kernel
theorem dX5_become_65 : decode cX5_become 65 = .ok (.iload_n 2, 1) := by decide +kernel
theorem dX5_become_66 : decode cX5_become 66 = .ok (.aaload, 1) := by decide +kernel
theorem dX5_become_67 : decode cX5_become 67 = .ok (.invokevirtual 50, 3) := by decide +kernel
theorem dX5_become_70 : decode cX5_become 70 = .ok (.iinc 2 1, 3) := by decide +kernel
theorem dX5_become_73 : decode cX5_become 73 = .ok (.goto (-26), 3) := by decide +kernel
theorem dX5_become_76 : decode cX5_become 76 = .ok (.aload_n 0, 1) := by decide +kernel
theorem dX5_become_77 : decode cX5_become 77 = .ok (.aload_n 1, 1) := by decide +kernel
theorem dX5_become_78 : decode cX5_become 78 = .ok (.getfield 27, 3) := by decide +kernel
theorem dX5_become_81 : decode cX5_become 81 = .ok (.putfield 27, 3) := by decide +kernel
theorem dX5_become_84 : decode cX5_become 84 = .ok (.aload_n 0, 1) := by decide +kernel
theorem dX5_become_85 : decode cX5_become 85 = .ok (.aload_n 1, 1) := by decide +kernel
theorem dX5_become_86 : decode cX5_become 86 = .ok (.getfield 31, 3) := by decide +kernel
theorem dX5_become_89 : decode cX5_become 89 = .ok (.putfield 31, 3) := by decide +kernel
theorem dX5_become_92 : decode cX5_become 92 = .ok (.aload_n 0, 1) := by decide +kernel
theorem dX5_become_93 : decode cX5_become 93 = .ok (.aload_n 1, 1) := by decide +kernel
theorem dX5_become_94 : decode cX5_become 94 = .ok (.getfield 34, 3) := by decide +kernel
theorem dX5_become_97 : decode cX5_become 97 = .ok (.putfield 34, 3) := by decide +kernel
theorem dX5_become_100 : decode cX5_become 100 = .ok (.aload_n 0, 1) := by decide +kernel
theorem dX5_become_101 : decode cX5_become 101 = .ok (.aload_n 1, 1) := by decide +kernel
theorem dX5_become_102 : decode cX5_become 102 = .ok (.getfield 37, 3) := by decide +kernel
theorem dX5_become_105 : decode cX5_become 105 = .ok (.putfield 37, 3) := by decide +kernel
theorem dX5_become_108 : decode cX5_become 108 = .ok (.aload_n 0, 1) := by decide +kernel
theorem dX5_become_109 : decode cX5_become 109 = .ok (.aload_n 1, 1) := by decide +kernel
theorem dX5_become_110 : decode cX5_become 110 = .ok (.getfield 40, 3) := by decide +kernel
theorem dX5_become_113 : decode cX5_become 113 = .ok (.putfield 40, 3) := by decide +kernel
theorem dX5_become_116 : decode cX5_become 116 = .ok (.return_, 1) := by decide +kernel
theorem dX5_isFull_0 : decode cX5_isFull 0 = .ok (.aload_n 0, 1) := by decide +kernel
theorem dX5_isFull_1 : decode cX5_isFull 1 = .ok (.getfield 27, 3) := by decide +kernel
theorem dX5_isFull_4 : decode cX5_isFull 4 = .ok (.bipush 10, 2) := by decide +kernel
theorem dX5_isFull_6 : decode cX5_isFull 6 = .ok (.if_icmp .lt 7, 3) := by decide +kernel
theorem dX5_isFull_9 : decode cX5_isFull 9 = .ok (.iconst 1, 1) := by decide +kernel
theorem dX5_isFull_10 : decode cX5_isFull 10 = .ok (.goto 4, 3) := by decide +kernel
theorem dX5_isFull_13 : decode cX5_isFull 13 = .ok (.iconst 0, 1) := by decide +kernel
theorem dX5_isFull_14 : decode cX5_isFull 14 = .ok (.ireturn, 1) := by decide +kernel
theorem dX5_addThing_0 : decode cX5_addThing 0 = .ok (.aload_n 0, 1) := by decide +kernel
theorem dX5_addThing_1 : decode cX5_addThing 1 = .ok (.invokevirtual 54, 3) := by decide +kernel
theorem dX5_addThing_4 : decode cX5_addThing 4 = .ok (.ifCond .ne 27, 3) := by decide +kernel
theorem dX5_addThing_7 : decode cX5_addThing 7 = .ok (.aload_n 0, 1) := by decide +kernel
theorem dX5_addThing_8 : decode cX5_addThing 8 = .ok (.getfield 20, 3) := by decide +kernel
theorem dX5_addThing_11 : decode cX5_addThing 11 = .ok (.aload_n 0, 1) := by decide +kernel
theorem dX5_addThing_12 : decode cX5_addThing 12 = .ok (.getfield 27, 3) := by decide +kernel
theorem dX5_addThing_15 : decode cX5_addThing 15 = .ok (.aaload, 1) := by decide +kernel
theorem dX5_addThing_16 : decode cX5_addThing 16 = .ok (.iload_n 1, 1) := by decide +kernel
theorem dX5_addThing_17 : decode cX5_addThing 17 = .ok (.iload_n 2, 1) := by decide +kernel
theorem dX5_addThing_18 : decode cX5_addThing 18 = .ok (.invokevirtual 58, 3) := by decide +kernel
theorem dX5_addThing_21 : decode cX5_addThing 21 = .ok (.aload_n 0, 1) := by decide +kernel
theorem dX5_addThing_22 : decode cX5_addThing 22 = .ok (.dup, 1) := by decide +kernel
theorem dX5_addThing_23 : decode cX5_addThing 23 = .ok (.getfield 27, 3) := by decide +kernel
theorem dX5_addThing_26 : decode cX5_addThing 26 = .ok (.iconst 1, 1) := by decide +kernel
theorem dX5_addThing_27 : decode cX5_addThing 27 = .ok (.iadd, 1) := by decide +kernel
theorem dX5_addThing_28 : decode cX5_addThing 28 = .ok (.putfield 27, 3) := by decide +kernel
theorem dX5_addThing_31 : decode cX5_addThing 31 = .ok (.return_, 1) := by decide +kernel
theorem dX5_clearAllBut_0 : decode cX5_clearAllBut 0 = .ok (.iconst 0, 1) := by decide +kernel
theorem dX5_clearAllBut_1 : decode cX5_clearAllBut 1 = .ok (.istore_n 2, 1) := by decide +kernel
theorem dX5_clearAllBut_2 : decode cX5_clearAllBut 2 = .ok (.iload_n 2, 1) := by decide +kernel
theorem dX5_clearAllBut_3 : decode cX5_clearAllBut 3 = .ok (.aload_n 0, 1) := by decide +kernel
theorem dX5_clearAllBut_4 : decode cX5_clearAllBut 4 = .ok (.getfield 27, 3) := by decide +kernel
theorem dX5_clearAllBut_7 : decode cX5_clearAllBut 7 = .ok (.if_icmp .ge 27, 3) := by decide +kernel
theorem dX5_clearAllBut_10 : decode cX5_clearAllBut 10 = .ok (.iload_n 1, 1) := by decide +kernel
theorem dX5_clearAllBut_11 : decode cX5_clearAllBut 11 = .ok (.iload_n 2, 1) := by decide +kernel
theorem dX5_clearAllBut_12 : decode cX5_clearAllBut 12 = .ok (.invokestatic 62, 3) := by decide +kernel
theorem dX5_clearAllBut_15 : decode cX5_clearAllBut 15 = .ok (.ifCond .ne 13, 3) := by decide +kernel
theorem dX5_clearAllBut_18 : decode cX5_clearAllBut 18 = .ok (.aload_n 0, 1) := by decide +kernel
theorem dX5_clearAllBut_19 : decode cX5_clearAllBut 19 = .ok (.getfield 20, 3) := by decide +kernel
theorem dX5_clearAllBut_22 : decode cX5_clearAllBut 22 = .ok (.iload_n 2, 1) := by decide +kernel
theorem dX5_clearAllBut_23 : decode cX5_clearAllBut 23 = .ok (.aaload, 1) := by decide +kernel
theorem dX5_clearAllBut_24 : decode cX5_clearAllBut 24 = .ok (.iconst 2, 1) := by decide +kernel
theorem dX5_clearAllBut_25 : decode cX5_clearAllBut 25 = .ok (.putfield 66, 3) := by decide +kernel
theorem dX5_clearAllBut_28 : decode cX5_clearAllBut 28 = .ok (.iinc 2 1, 3) := by decide +kernel
theorem dX5_clearAllBut_31 : decode cX5_clearAllBut 31 = .ok (.goto (-29), 3) := by decide +kernel
theorem dX5_clearAllBut_34 : decode cX5_clearAllBut 34 = .ok (.return_, 1) := by decide +kernel
theorem dX5_gatesAreShut_0 : decode cX5_gatesAreShut 0 = .ok (.iload_n 1, 1) := by decide +kernel
theorem dX5_gatesAreShut_1 : decode cX5_gatesAreShut 1 = .ok (.bipush 60, 2) := by decide +kernel
theorem dX5_gatesAreShut_3 : decode cX5_gatesAreShut 3 = .ok (.irem, 1) := by decide +kernel
theorem dX5_gatesAreShut_4 : decode cX5_gatesAreShut 4 = .ok (.istore_n 2, 1) := by decide +kernel
theorem dX5_gatesAreShut_5 : decode cX5_gatesAreShut 5 = .ok (.aload_n 0, 1) := by decide +kernel
theorem dX5_gatesAreShut_6 : decode cX5_gatesAreShut 6 = .ok (.getfield 31, 3) := by decide +kernel
theorem dX5_gatesAreShut_9 : decode cX5_gatesAreShut 9 = .ok (.aload_n 0, 1) := by decide +kernel
theorem dX5_gatesAreShut_10 : decode cX5_gatesAreShut 10 = .ok (.getfield 34, 3) := by decide +kernel
theorem dX5_gatesAreShut_13 : decode cX5_gatesAreShut 13 = .ok (.if_icmp .gt 25, 3) := by decide +kernel
theorem dX5_gatesAreShut_16 : decode cX5_gatesAreShut 16 = .ok (.iload_n 2, 1) := by decide +kernel
theorem dX5_gatesAreShut_17 : decode cX5_gatesAreShut 17 = .ok (.aload_n 0, 1) := by decide +kernel
theorem dX5_gatesAreShut_18 : decode cX5_gatesAreShut 18 = .ok (.getfield 31, 3) := by decide +kernel
theorem dX5_gatesAreShut_21 : decode cX5_gatesAreShut 21 = .ok (.if_icmp .lt 15, 3) := by decide +kernel
theorem dX5_gatesAreShut_24 : decode cX5_gatesAreShut 24 = .ok (.iload_n 2, 1) := by decide +kernel
theorem dX5_gatesAreShut_25 : decode cX5_gatesAreShut 25 = .ok (.aload_n 0, 1) := by decide +kernel
theorem dX5_gatesAreShut_26 : decode cX5_gatesAreShut 26 = .ok (.getfield 34, 3) := by decide +kernel
theorem dX5_gatesAreShut_29 : decode cX5_gatesAreShut 29 = .ok (.if_icmp .gt 7, 3) := by decide +kernel
theorem dX5_gatesAreShut_32 : decode cX5_gatesAreShut 32 = .ok (.iconst 1, 1) := by decide +kernel
theorem dX5_gatesAreShut_33 : decode cX5_gatesAreShut 33 = .ok (.goto 4, 3) := by decide +kernel
theorem dX5_gatesAreShut_36 : decode cX5_gatesAreShut 36 = .ok (.iconst 0, 1) := by decide +kernel
theorem dX5_gatesAreShut_37 : decode cX5_gatesAreShut 37 = .ok (.ireturn, 1) := by decide +kernel
theorem dX5_gatesAreShut_38 : decode cX5_gatesAreShut 38 = .ok (.iload_n 2, 1) := by decide +kernel
theorem dX5_gatesAreShut_39 : decode cX5_gatesAreShut 39 = .ok (.aload_n 0, 1) := by decide +kernel
theorem dX5_gatesAreShut_40 : decode cX5_gatesAreShut 40 = .ok (.getfield 31, 3) := by decide +kernel
theorem dX5_gatesAreShut_43 : decode cX5_gatesAreShut 43 = .ok (.if_icmp .ge 11, 3) := by decide +kernel
theorem dX5_gatesAreShut_46 : decode cX5_gatesAreShut 46 = .ok (.iload_n 2, 1) := by decide +kernel
theorem dX5_gatesAreShut_47 : decode cX5_gatesAreShut 47 = .ok (.aload_n 0, 1) := by decide +kernel
theorem dX5_gatesAreShut_48 : decode cX5_gatesAreShut 48 = .ok (.getfield 34, 3) := by decide +kernel
theorem dX5_gatesAreShut_51 : decode cX5_gatesAreShut 51 = .ok (.if_icmp .gt 7, 3) := by decide +kernel
theorem dX5_gatesAreShut_54 : decode cX5_gatesAreShut 54 = .ok (.iconst 1, 1) := by decide +kernel
theorem dX5_gatesAreShut_55 : decode cX5_gatesAreShut 55 = .ok (.goto 4, 3) := by decide +kernel
theorem dX5_gatesAreShut_58 : decode cX5_gatesAreShut 58 = .ok (.iconst 0, 1) := by decide +kernel
theorem dX5_gatesAreShut_59 : decode cX5_gatesAreShut 59 = .ok (.ireturn, 1) := by decide +kernel
theorem dX5_passMinutes_0 : decode cX5_passMinutes 0 = .ok (.iconst 0, 1) := by decide +kernel
theorem dX5_passMinutes_1 : decode cX5_passMinutes 1 = .ok (.istore_n 2, 1) := by decide +kernel
theorem dX5_passMinutes_2 : decode cX5_passMinutes 2 = .ok (.iconst 0, 1) := by decide +kernel
theorem dX5_passMinutes_3 : decode cX5_passMinutes 3 = .ok (.istore_n 3, 1) := by decide +kernel
theorem dX5_passMinutes_4 : decode cX5_passMinutes 4 = .ok (.iload_n 3, 1) := by decide +kernel
theorem dX5_passMinutes_5 : decode cX5_passMinutes 5 = .ok (.iload_n 1, 1) := by decide +kernel
theorem dX5_passMinutes_6 : decode cX5_passMinutes 6 = .ok (.if_icmp .ge 16, 3) := by decide +kernel
theorem dX5_passMinutes_9 : decode cX5_passMinutes 9 = .ok (.iload_n 2, 1) := by decide +kernel
theorem dX5_passMinutes_10 : decode cX5_passMinutes 10 = .ok (.aload_n 0, 1) := by decide +kernel
theorem dX5_passMinutes_11 : decode cX5_passMinutes 11 = .ok (.invokevirtual 69, 3) := by decide +kernel
theorem dX5_passMinutes_14 : decode cX5_passMinutes 14 = .ok (.iadd, 1) := by decide +kernel
theorem dX5_passMinutes_15 : decode cX5_passMinutes 15 = .ok (.istore_n 2, 1) := by decide +kernel
theorem dX5_passMinutes_16 : decode cX5_passMinutes 16 = .ok (.iinc 3 1, 3) := by decide +kernel
theorem dX5_passMinutes_19 : decode cX5_passMinutes 19 = .ok (.goto (-15), 3) := by decide +kernel
theorem dX5_passMinutes_22 : decode cX5_passMinutes 22 = .ok (.iload_n 2, 1) := by decide +kernel
theorem dX5_passMinutes_23 : decode cX5_passMinutes 23 = .ok (.ireturn, 1) := by decide +kernel
theorem dX5_firstMeeting_0 : decode cX5_firstMeeting 0 = .ok (.iconst 1, 1) := by decide +kernel
theorem dX5_firstMeeting_1 : decode cX5_firstMeeting 1 = .ok (.istore_n 2, 1) := by decide +kernel
theorem dX5_firstMeeting_2 : decode cX5_firstMeeting 2 = .ok (.iload_n 2, 1) := by decide +kernel
theorem dX5_firstMeeting_3 : decode cX5_firstMeeting 3 = .ok (.iload_n 1, 1) := by decide +kernel
theorem dX5_firstMeeting_4 : decode cX5_firstMeeting 4 = .ok (.if_icmp .gt 26, 3) := by decide +kernel
theorem dX5_firstMeeting_7 : decode cX5_firstMeeting 7 = .ok (.aload_n 0, 1) := by decide +kernel
theorem dX5_firstMeeting_8 : decode cX5_firstMeeting 8 = .ok (.iconst 1, 1) := by decide +kernel
theorem dX5_firstMeeting_9 : decode cX5_firstMeeting 9 = .ok (.invokevirtual 73, 3) := by decide +kernel
theorem dX5_firstMeeting_12 : decode cX5_firstMeeting 12 = .ok (.ifCond .eq 18, 3) := by decide +kernel
theorem dX5_firstMeeting_15 : decode cX5_firstMeeting 15 = .ok (.aload_n 0, 1) := by decide +kernel
theorem dX5_firstMeeting_16 : decode cX5_firstMeeting 16 = .ok (.invokevirtual 69, 3) := by decide +kernel
theorem dX5_firstMeeting_19 : decode cX5_firstMeeting 19 = .ok (.ifCond .le 5, 3) := by decide +kernel
theorem dX5_firstMeeting_22 : decode cX5_firstMeeting 22 = .ok (.iload_n 2, 1) := by decide +kernel
theorem dX5_firstMeeting_23 : decode cX5_firstMeeting 23 = .ok (.ireturn, 1) := by decide +kernel
theorem dX5_firstMeeting_24 : decode cX5_firstMeeting 24 = .ok (.iinc 2 1, 3) := by decide +kernel
theorem dX5_firstMeeting_27 : decode cX5_firstMeeting 27 = .ok (.goto (-25), 3) := by decide +kernel
theorem dX5_firstMeeting_30 : decode cX5_firstMeeting 30 = .ok (.iconst 0, 1) := by decide +kernel
theorem dX5_firstMeeting_31 : decode cX5_firstMeeting 31 = .ok (.ireturn, 1) := by decide +kernel
theorem dX5_passMinute_0 : decode cX5_passMinute 0 = .ok (.aload_n 0, 1) := by decide +kernel
theorem dX5_passMinute_1 : decode cX5_passMinute 1 = .ok (.iconst 1, 1) := by decide +kernel
theorem dX5_passMinute_2 : decode cX5_passMinute 2 = .ok (.invokevirtual 73, 3) := by decide +kernel
theorem dX5_passMinute_5 : decode cX5_passMinute 5 = .ok (.istore_n 1, 1) := by decide +kernel
theorem dX5_passMinute_6 : decode cX5_passMinute 6 = .ok (.iconst 0, 1) := by decide +kernel
theorem dX5_passMinute_7 : decode cX5_passMinute 7 = .ok (.istore_n 2, 1) := by decide +kernel
theorem dX5_passMinute_8 : decode cX5_passMinute 8 = .ok (.iload_n 1, 1) := by decide +kernel
theorem dX5_passMinute_9 : decode cX5_passMinute 9 = .ok (.ifCond .eq 47, 3) := by decide +kernel
theorem dX5_passMinute_12 : decode cX5_passMinute 12 = .ok (.iconst 0, 1) := by decide +kernel
theorem dX5_passMinute_13 : decode cX5_passMinute 13 = .ok (.istore_n 3, 1) := by decide +kernel
theorem dX5_passMinute_14 : decode cX5_passMinute 14 = .ok (.iload_n 3, 1) := by decide +kernel
theorem dX5_passMinute_15 : decode cX5_passMinute 15 = .ok (.aload_n 0, 1) := by decide +kernel
theorem dX5_passMinute_16 : decode cX5_passMinute 16 = .ok (.getfield 27, 3) := by decide +kernel
theorem dX5_passMinute_19 : decode cX5_passMinute 19 = .ok (.if_icmp .ge 31, 3) := by decide +kernel
theorem dX5_passMinute_22 : decode cX5_passMinute 22 = .ok (.iload_n 1, 1) := by decide +kernel
theorem dX5_passMinute_23 : decode cX5_passMinute 23 = .ok (.iload_n 3, 1) := by decide +kernel
theorem dX5_passMinute_24 : decode cX5_passMinute 24 = .ok (.invokestatic 62, 3) := by decide +kernel
theorem dX5_passMinute_27 : decode cX5_passMinute 27 = .ok (.ifCond .eq 17, 3) := by decide +kernel
theorem dX5_passMinute_30 : decode cX5_passMinute 30 = .ok (.aload_n 0, 1) := by decide +kernel
theorem dX5_passMinute_31 : decode cX5_passMinute 31 = .ok (.aload_n 0, 1) := by decide +kernel
theorem dX5_passMinute_32 : decode cX5_passMinute 32 = .ok (.getfield 20, 3) := by decide +kernel
theorem dX5_passMinute_35 : decode cX5_passMinute 35 = .ok (.iload_n 3, 1) := by decide +kernel
theorem dX5_passMinute_36 : decode cX5_passMinute 36 = .ok (.aaload, 1) := by decide +kernel
theorem dX5_passMinute_37 : decode cX5_passMinute 37 = .ok (.aload_n 0, 1) := by decide +kernel
theorem dX5_passMinute_38 : decode cX5_passMinute 38 = .ok (.getfield 37, 3) := by decide +kernel
theorem dX5_passMinute_41 : decode cX5_passMinute 41 = .ok (.invokevirtual 77, 3) := by decide +kernel
theorem dX5_passMinute_44 : decode cX5_passMinute 44 = .ok (.iinc 3 1, 3) := by decide +kernel
theorem dX5_passMinute_47 : decode cX5_passMinute 47 = .ok (.goto (-33), 3) := by decide +kernel
theorem dX5_passMinute_50 : decode cX5_passMinute 50 = .ok (.aload_n 0, 1) := by decide +kernel
theorem dX5_passMinute_51 : decode cX5_passMinute 51 = .ok (.iload_n 1, 1) := by decide +kernel
theorem dX5_passMinute_52 : decode cX5_passMinute 52 = .ok (.invokevirtual 81, 3) := by decide +kernel
theorem dX5_passMinute_55 : decode cX5_passMinute 55 = .ok (.istore_n 2, 1) := by decide +kernel
theorem dX5_passMinute_56 : decode cX5_passMinute 56 = .ok (.aload_n 0, 1) := by decide +kernel
theorem dX5_passMinute_57 : decode cX5_passMinute 57 = .ok (.dup, 1) := by decide +kernel
theorem dX5_passMinute_58 : decode cX5_passMinute 58 = .ok (.getfield 37, 3) := by decide +kernel
theorem dX5_passMinute_61 : decode cX5_passMinute 61 = .ok (.iconst 1, 1) := by decide +kernel
theorem dX5_passMinute_62 : decode cX5_passMinute 62 = .ok (.iadd, 1) := by decide +kernel
theorem dX5_passMinute_63 : decode cX5_passMinute 63 = .ok (.putfield 37, 3) := by decide +kernel
theorem dX5_passMinute_66 : decode cX5_passMinute 66 = .ok (.iload_n 2, 1) := by decide +kernel
theorem dX5_passMinute_67 : decode cX5_passMinute 67 = .ok (.ireturn, 1) := by decide +kernel
theorem dX5_rollOn_0 : decode cX5_rollOn 0 = .ok (.aload_n 1, 1) := by decide +kernel
theorem dX5_rollOn_1 : decode cX5_rollOn 1 = .ok (.getfield 84, 3) := by decide +kernel
theorem dX5_rollOn_4 : decode cX5_rollOn 4 = .ok (.aload_n 1, 1) := by decide +kernel
theorem dX5_rollOn_5 : decode cX5_rollOn 5 = .ok (.aload_n 0, 1) := by decide +kernel
theorem dX5_rollOn_6 : decode cX5_rollOn 6 = .ok (.getfield 9, 3) := by decide +kernel
theorem dX5_rollOn_9 : decode cX5_rollOn 9 = .ok (.aload_n 1, 1) := by decide +kernel
theorem dX5_rollOn_10 : decode cX5_rollOn 10 = .ok (.getfield 87, 3) := by decide +kernel
theorem dX5_rollOn_13 : decode cX5_rollOn 13 = .ok (.iaload, 1) := by decide +kernel
theorem dX5_rollOn_14 : decode cX5_rollOn 14 = .ok (.invokevirtual 90, 3) := by decide +kernel
theorem dX5_rollOn_17 : decode cX5_rollOn 17 = .ok (.iadd, 1) := by decide +kernel
theorem dX5_rollOn_18 : decode cX5_rollOn 18 = .ok (.aload_n 1, 1) := by decide +kernel
theorem dX5_rollOn_19 : decode cX5_rollOn 19 = .ok (.aload_n 0, 1) := by decide +kernel
theorem dX5_rollOn_20 : decode cX5_rollOn 20 = .ok (.getfield 15, 3) := by decide +kernel
theorem dX5_rollOn_23 : decode cX5_rollOn 23 = .ok (.aload_n 1, 1) := by decide +kernel
theorem dX5_rollOn_24 : decode cX5_rollOn 24 = .ok (.getfield 87, 3) := by decide +kernel
theorem dX5_rollOn_27 : decode cX5_rollOn 27 = .ok (.iaload, 1) := by decide +kernel
theorem dX5_rollOn_28 : decode cX5_rollOn 28 = .ok (.invokevirtual 93, 3) := by decide +kernel
theorem dX5_rollOn_31 : decode cX5_rollOn 31 = .ok (.isub, 1) := by decide +kernel
theorem dX5_rollOn_32 : decode cX5_rollOn 32 = .ok (.istore_n 3, 1) := by decide +kernel
theorem dX5_rollOn_33 : decode cX5_rollOn 33 = .ok (.aload_n 1, 1) := by decide +kernel
theorem dX5_rollOn_34 : decode cX5_rollOn 34 = .ok (.iconst 0, 1) := by decide +kernel
theorem dX5_rollOn_35 : decode cX5_rollOn 35 = .ok (.bipush 99, 2) := by decide +kernel
theorem dX5_rollOn_37 : decode cX5_rollOn 37 = .ok (.iload_n 3, 1) := by decide +kernel
theorem dX5_rollOn_38 : decode cX5_rollOn 38 = .ok (.invokestatic 96, 3) := by decide +kernel
theorem dX5_rollOn_41 : decode cX5_rollOn 41 = .ok (.invokestatic 102, 3) := by decide +kernel
theorem dX5_rollOn_44 : decode cX5_rollOn 44 = .ok (.putfield 84, 3) := by decide +kernel
theorem dX5_rollOn_47 : decode cX5_rollOn 47 = .ok (.aload_n 0, 1) := by decide +kernel
theorem dX5_rollOn_48 : decode cX5_rollOn 48 = .ok (.iload_n 2, 1) := by decide +kernel
theorem dX5_rollOn_49 : decode cX5_rollOn 49 = .ok (.invokevirtual 105, 3) := by decide +kernel
theorem dX5_rollOn_52 : decode cX5_rollOn 52 = .ok (.istore 4, 2) := by decide +kernel
theorem dX5_rollOn_54 : decode cX5_rollOn 54 = .ok (.aload_n 1, 1) := by decide +kernel
theorem dX5_rollOn_55 : decode cX5_rollOn 55 = .ok (.getfield 84, 3) := by decide +kernel
theorem dX5_rollOn_58 : decode cX5_rollOn 58 = .ok (.bipush 10, 2) := by decide +kernel
theorem dX5_rollOn_60 : decode cX5_rollOn 60 = .ok (.idiv, 1) := by decide +kernel
theorem dX5_rollOn_61 : decode cX5_rollOn 61 = .ok (.istore 5, 2) := by decide +kernel
theorem dX5_rollOn_63 : decode cX5_rollOn 63 = .ok (.iconst 0, 1) := by decide +kernel
theorem dX5_rollOn_64 : decode cX5_rollOn 64 = .ok (.istore 6, 2) := by decide +kernel
theorem dX5_rollOn_66 : decode cX5_rollOn 66 = .ok (.iload 6, 2) := by decide +kernel
theorem dX5_rollOn_68 : decode cX5_rollOn 68 = .ok (.iload 5, 2) := by decide +kernel
theorem dX5_rollOn_70 : decode cX5_rollOn 70 = .ok (.if_icmp .ge 31, 3) := by decide +kernel
theorem dX5_rollOn_73 : decode cX5_rollOn 73 = .ok (.aload_n 1, 1) := by decide +kernel
theorem dX5_rollOn_74 : decode cX5_rollOn 74 = .ok (.getfield 66, 3) := by decide +kernel
theorem dX5_rollOn_77 : decode cX5_rollOn 77 = .ok (.iconst 1, 1) := by decide +kernel
theorem dX5_rollOn_78 : decode cX5_rollOn 78 = .ok (.if_icmp .ne 23, 3) := by decide +kernel
theorem dX5_rollOn_81 : decode cX5_rollOn 81 = .ok (.aload_n 1, 1) := by decide +kernel
theorem dX5_rollOn_82 : decode cX5_rollOn 82 = .ok (.getfield 84, 3) := by decide +kernel
theorem dX5_rollOn_85 : decode cX5_rollOn 85 = .ok (.ifCond .le 16, 3) := by decide +kernel
theorem dX5_rollOn_88 : decode cX5_rollOn 88 = .ok (.aload_n 0, 1) := by decide +kernel
theorem dX5_rollOn_89 : decode cX5_rollOn 89 = .ok (.aload_n 1, 1) := by decide +kernel
theorem dX5_rollOn_90 : decode cX5_rollOn 90 = .ok (.iload 4, 2) := by decide +kernel
theorem dX5_rollOn_92 : decode cX5_rollOn 92 = .ok (.invokevirtual 109, 3) := by decide +kernel
theorem dX5_rollOn_95 : decode cX5_rollOn 95 = .ok (.iinc 6 1, 3) := by decide +kernel
theorem dX5_rollOn_98 : decode cX5_rollOn 98 = .ok (.goto (-32), 3) := by decide +kernel
theorem dX5_rollOn_101 : decode cX5_rollOn 101 = .ok (.aload_n 1, 1) := by decide +kernel
theorem dX5_rollOn_102 : decode cX5_rollOn 102 = .ok (.getfield 84, 3) := by decide +kernel
theorem dX5_rollOn_105 : decode cX5_rollOn 105 = .ok (.ifCond .ne 15, 3) := by decide +kernel
theorem dX5_rollOn_108 : decode cX5_rollOn 108 = .ok (.aload_n 1, 1) := by decide +kernel
theorem dX5_rollOn_109 : decode cX5_rollOn 109 = .ok (.getfield 66, 3) := by decide +kernel
theorem dX5_rollOn_112 : decode cX5_rollOn 112 = .ok (.iconst 2, 1) := by decide +kernel
theorem dX5_rollOn_113 : decode cX5_rollOn 113 = .ok (.if_icmp .eq 7, 3) := by decide +kernel
theorem dX5_rollOn_116 : decode cX5_rollOn 116 = .ok (.aload_n 1, 1) := by decide +kernel
theorem dX5_rollOn_117 : decode cX5_rollOn 117 = .ok (.invokevirtual 113, 3) := by decide +kernel
theorem dX5_rollOn_120 : decode cX5_rollOn 120 = .ok (.return_, 1) := by decide +kernel
theorem dX5_stepOn_0 : decode cX5_stepOn 0 = .ok (.aload_n 1, 1) := by decide +kernel
theorem dX5_stepOn_1 : decode cX5_stepOn 1 = .ok (.getfield 87, 3) := by decide +kernel
theorem dX5_stepOn_4 : decode cX5_stepOn 4 = .ok (.bipush 30, 2) := by decide +kernel
theorem dX5_stepOn_6 : decode cX5_stepOn 6 = .ok (.if_icmp .ge 22, 3) := by decide +kernel
theorem dX5_stepOn_9 : decode cX5_stepOn 9 = .ok (.iload_n 2, 1) := by decide +kernel
theorem dX5_stepOn_10 : decode cX5_stepOn 10 = .ok (.ifCond .eq 24, 3) := by decide +kernel
theorem dX5_stepOn_13 : decode cX5_stepOn 13 = .ok (.aload_n 0, 1) := by decide +kernel
theorem dX5_stepOn_14 : decode cX5_stepOn 14 = .ok (.getfield 15, 3) := by decide +kernel
theorem dX5_stepOn_17 : decode cX5_stepOn 17 = .ok (.aload_n 1, 1) := by decide +kernel
theorem dX5_stepOn_18 : decode cX5_stepOn 18 = .ok (.getfield 87, 3) := by decide +kernel
theorem dX5_stepOn_21 : decode cX5_stepOn 21 = .ok (.iconst 1, 1) := by decide +kernel
theorem dX5_stepOn_22 : decode cX5_stepOn 22 = .ok (.iadd, 1) := by decide +kernel
theorem dX5_stepOn_23 : decode cX5_stepOn 23 = .ok (.iaload, 1) := by decide +kernel
theorem dX5_stepOn_24 : decode cX5_stepOn 24 = .ok (.iconst 4, 1) := by decide +kernel
theorem dX5_stepOn_25 : decode cX5_stepOn 25 = .ok (.if_icmp .ne 9, 3) := by decide +kernel
theorem dX5_stepOn_28 : decode cX5_stepOn 28 = .ok (.aload_n 1, 1) := by decide +kernel
theorem dX5_stepOn_29 : decode cX5_stepOn 29 = .ok (.iconst 0, 1) := by decide +kernel
theorem dX5_stepOn_30 : decode cX5_stepOn 30 = .ok (.putfield 84, 3) := by decide +kernel
theorem dX5_stepOn_33 : decode cX5_stepOn 33 = .ok (.return_, 1) := by decide +kernel
theorem dX5_stepOn_34 : decode cX5_stepOn 34 = .ok (.aload_n 1, 1) := by decide +kernel
theorem dX5_stepOn_35 : decode cX5_stepOn 35 = .ok (.dup, 1) := by decide +kernel
theorem dX5_stepOn_36 : decode cX5_stepOn 36 = .ok (.getfield 87, 3) := by decide +kernel
theorem dX5_stepOn_39 : decode cX5_stepOn 39 = .ok (.iconst 1, 1) := by decide +kernel
theorem dX5_stepOn_40 : decode cX5_stepOn 40 = .ok (.iadd, 1) := by decide +kernel
theorem dX5_stepOn_41 : decode cX5_stepOn 41 = .ok (.putfield 87, 3) := by decide +kernel
theorem dX5_stepOn_44 : decode cX5_stepOn 44 = .ok (.aload_n 1, 1) := by decide +kernel
theorem dX5_stepOn_45 : decode cX5_stepOn 45 = .ok (.getfield 87, 3) := by decide +kernel
theorem dX5_stepOn_48 : decode cX5_stepOn 48 = .ok (.bipush 30, 2) := by decide +kernel
theorem dX5_stepOn_50 : decode cX5_stepOn 50 = .ok (.if_icmp .ne 10, 3) := by decide +kernel
theorem dX5_stepOn_53 : decode cX5_stepOn 53 = .ok (.aload_n 1, 1) := by decide +kernel
theorem dX5_stepOn_54 : decode cX5_stepOn 54 = .ok (.invokevirtual 113, 3) := by decide +kernel
theorem dX5_stepOn_57 : decode cX5_stepOn 57 = .ok (.goto 32, 3) := by decide +kernel
theorem dX5_stepOn_60 : decode cX5_stepOn 60 = .ok (.aload_n 0, 1) := by decide +kernel
theorem dX5_stepOn_61 : decode cX5_stepOn 61 = .ok (.getfield 15, 3) := by decide +kernel
theorem dX5_stepOn_64 : decode cX5_stepOn 64 = .ok (.aload_n 1, 1) := by decide +kernel
theorem dX5_stepOn_65 : decode cX5_stepOn 65 = .ok (.getfield 87, 3) := by decide +kernel
theorem dX5_stepOn_68 : decode cX5_stepOn 68 = .ok (.iaload, 1) := by decide +kernel
theorem dX5_stepOn_69 : decode cX5_stepOn 69 = .ok (.iconst 3, 1) := by decide +kernel
theorem dX5_stepOn_70 : decode cX5_stepOn 70 = .ok (.if_icmp .ne 19, 3) := by decide +kernel
theorem dX5_stepOn_73 : decode cX5_stepOn 73 = .ok (.aload_n 1, 1) := by decide +kernel
theorem dX5_stepOn_74 : decode cX5_stepOn 74 = .ok (.getfield 84, 3) := by decide +kernel
theorem dX5_stepOn_77 : decode cX5_stepOn 77 = .ok (.aload_n 1, 1) := by decide +kernel
theorem dX5_stepOn_78 : decode cX5_stepOn 78 = .ok (.invokevirtual 116, 3) := by decide +kernel
theorem dX5_stepOn_81 : decode cX5_stepOn 81 = .ok (.if_icmp .le 8, 3) := by decide +kernel
theorem dX5_stepOn_84 : decode cX5_stepOn 84 = .ok (.aload_n 1, 1) := by decide +kernel
theorem dX5_stepOn_85 : decode cX5_stepOn 85 = .ok (.iconst 2, 1) := by decide +kernel
theorem dX5_stepOn_86 : decode cX5_stepOn 86 = .ok (.putfield 66, 3) := by decide +kernel
theorem dX5_stepOn_89 : decode cX5_stepOn 89 = .ok (.return_, 1) := by decide +kernel
theorem dX5_stopThoseThatMeet_0 : decode cX5_stopThoseThatMeet 0 = .ok (.iconst 0, 1) := by decide +kernel
theorem dX5_stopThoseThatMeet_1 : decode cX5_stopThoseThatMeet 1 = .ok (.istore_n 2, 1) := by decide +kernel
theorem dX5_stopThoseThatMeet_2 : decode cX5_stopThoseThatMeet 2 = .ok (.iconst 0, 1) := by decide +kernel
theorem dX5_stopThoseThatMeet_3 : decode cX5_stopThoseThatMeet 3 = .ok (.istore_n 3, 1) := by decide +kernel
theorem dX5_stopThoseThatMeet_4 : decode cX5_stopThoseThatMeet 4 = .ok (.iload_n 3, 1) := by decide +kernel
theorem dX5_stopThoseThatMeet_5 : decode cX5_stopThoseThatMeet 5 = .ok (.aload_n 0, 1) := by decide +kernel
theorem dX5_stopThoseThatMeet_6 : decode cX5_stopThoseThatMeet 6 = .ok (.getfield 27, 3) := by decide +kernel
theorem dX5_stopThoseThatMeet_9 : decode cX5_stopThoseThatMeet 9 = .ok (.if_icmp .ge 86, 3) := by decide +kernel
theorem dX5_stopThoseThatMeet_12 : decode cX5_stopThoseThatMeet 12 = .ok (.aload_n 0, 1) := by decide +kernel
theorem dX5_stopThoseThatMeet_13 : decode cX5_stopThoseThatMeet 13 = .ok (.getfield 20, 3) := by decide +kernel
theorem dX5_stopThoseThatMeet_16 : decode cX5_stopThoseThatMeet 16 = .ok (.iload_n 3, 1) := by decide +kernel
theorem dX5_stopThoseThatMeet_17 : decode cX5_stopThoseThatMeet 17 = .ok (.aaload, 1) := by decide +kernel
theorem dX5_stopThoseThatMeet_18 : decode cX5_stopThoseThatMeet 18 = .ok (.astore 4, 2) := by decide +kernel
theorem dX5_stopThoseThatMeet_20 : decode cX5_stopThoseThatMeet 20 = .ok (.iload_n 1, 1) := by decide +kernel
theorem dX5_stopThoseThatMeet_21 : decode cX5_stopThoseThatMeet 21 = .ok (.iload_n 2, 1) := by decide +kernel
theorem dX5_stopThoseThatMeet_22 : decode cX5_stopThoseThatMeet 22 = .ok (.iconst (-1), 1) := by decide +kernel
theorem dX5_stopThoseThatMeet_23 : decode cX5_stopThoseThatMeet 23 = .ok (.ixor, 1) := by decide +kernel
theorem dX5_stopThoseThatMeet_24 : decode cX5_stopThoseThatMeet 24 = .ok (.iand, 1) := by decide +kernel
theorem dX5_stopThoseThatMeet_25 : decode cX5_stopThoseThatMeet 25 = .ok (.iload_n 3, 1) := by decide +kernel
theorem dX5_stopThoseThatMeet_26 : decode cX5_stopThoseThatMeet 26 = .ok (.invokestatic 62, 3) := by decide +kernel
theorem dX5_stopThoseThatMeet_29 : decode cX5_stopThoseThatMeet 29 = .ok (.ifCond .eq 60, 3) := by decide +kernel
theorem dX5_stopThoseThatMeet_32 : decode cX5_stopThoseThatMeet 32 = .ok (.aload 4, 2) := by decide +kernel
theorem dX5_stopThoseThatMeet_34 : decode cX5_stopThoseThatMeet 34 = .ok (.invokevirtual 119, 3) := by decide +kernel
theorem dX5_stopThoseThatMeet_37 : decode cX5_stopThoseThatMeet 37 = .ok (.ifCond .eq 52, 3) := by decide +kernel
theorem dX5_stopThoseThatMeet_40 : decode cX5_stopThoseThatMeet 40 = .ok (.aload 4, 2) := by decide +kernel
theorem dX5_stopThoseThatMeet_42 : decode cX5_stopThoseThatMeet 42 = .ok (.getfield 87, 3) := by decide +kernel
theorem dX5_stopThoseThatMeet_45 : decode cX5_stopThoseThatMeet 45 = .ok (.ifCond .le 44, 3) := by decide +kernel
theorem dX5_stopThoseThatMeet_48 : decode cX5_stopThoseThatMeet 48 = .ok (.aload 4, 2) := by decide +kernel
theorem dX5_stopThoseThatMeet_50 : decode cX5_stopThoseThatMeet 50 = .ok (.getfield 87, 3) := by decide +kernel
theorem dX5_stopThoseThatMeet_53 : decode cX5_stopThoseThatMeet 53 = .ok (.bipush 30, 2) := by decide +kernel
theorem dX5_stopThoseThatMeet_55 : decode cX5_stopThoseThatMeet 55 = .ok (.if_icmp .ge 34, 3) := by decide +kernel
theorem dX5_stopThoseThatMeet_58 : decode cX5_stopThoseThatMeet 58 = .ok (.aload_n 0, 1) := by decide +kernel
theorem dX5_stopThoseThatMeet_59 : decode cX5_stopThoseThatMeet 59 = .ok (.aload 4, 2) := by decide +kernel
theorem dX5_stopThoseThatMeet_61 : decode cX5_stopThoseThatMeet 61 = .ok (.getfield 87, 3) := by decide +kernel
theorem dX5_stopThoseThatMeet_64 : decode cX5_stopThoseThatMeet 64 = .ok (.invokevirtual 122, 3) := by decide +kernel
theorem dX5_stopThoseThatMeet_67 : decode cX5_stopThoseThatMeet 67 = .ok (.istore 5, 2) := by decide +kernel
theorem dX5_stopThoseThatMeet_69 : decode cX5_stopThoseThatMeet 69 = .ok (.iload 5, 2) := by decide +kernel
theorem dX5_stopThoseThatMeet_71 : decode cX5_stopThoseThatMeet 71 = .ok (.invokestatic 125, 3) := by decide +kernel
theorem dX5_stopThoseThatMeet_74 : decode cX5_stopThoseThatMeet 74 = .ok (.iconst 1, 1) := by decide +kernel
theorem dX5_stopThoseThatMeet_75 : decode cX5_stopThoseThatMeet 75 = .ok (.if_icmp .le 14, 3) := by decide +kernel
theorem dX5_stopThoseThatMeet_78 : decode cX5_stopThoseThatMeet 78 = .ok (.aload_n 0, 1) := by decide +kernel
theorem dX5_stopThoseThatMeet_79 : decode cX5_stopThoseThatMeet 79 = .ok (.iload 5, 2) := by decide +kernel
theorem dX5_stopThoseThatMeet_81 : decode cX5_stopThoseThatMeet 81 = .ok (.invokevirtual 130, 3) := by decide +kernel
theorem dX5_stopThoseThatMeet_84 : decode cX5_stopThoseThatMeet 84 = .ok (.iload_n 2, 1) := by decide +kernel
theorem dX5_stopThoseThatMeet_85 : decode cX5_stopThoseThatMeet 85 = .ok (.iload 5, 2) := by decide +kernel
theorem dX5_stopThoseThatMeet_87 : decode cX5_stopThoseThatMeet 87 = .ok (.ior, 1) := by decide +kernel
theorem dX5_stopThoseThatMeet_88 : decode cX5_stopThoseThatMeet 88 = .ok (.istore_n 2, 1) := by decide +kernel
theorem dX5_stopThoseThatMeet_89 : decode cX5_stopThoseThatMeet 89 = .ok (.iinc 3 1, 3) := by decide +kernel
theorem dX5_stopThoseThatMeet_92 : decode cX5_stopThoseThatMeet 92 = .ok (.goto (-88), 3) := by decide +kernel
theorem dX5_stopThoseThatMeet_95 : decode cX5_stopThoseThatMeet 95 = .ok (.iload_n 2, 1) := by decide +kernel
theorem dX5_stopThoseThatMeet_96 : decode cX5_stopThoseThatMeet 96 = .ok (.invokestatic 125, 3) := by decide +kernel
theorem dX5_stopThoseThatMeet_99 : decode cX5_stopThoseThatMeet 99 = .ok (.ireturn, 1) := by decide +kernel
theorem dX5_stopWithDamage_0 : decode cX5_stopWithDamage 0 = .ok (.iconst 0, 1) := by decide +kernel
theorem dX5_stopWithDamage_1 : decode cX5_stopWithDamage 1 = .ok (.istore_n 2, 1) := by decide +kernel
theorem dX5_stopWithDamage_2 : decode cX5_stopWithDamage 2 = .ok (.iload_n 2, 1) := by decide +kernel
theorem dX5_stopWithDamage_3 : decode cX5_stopWithDamage 3 = .ok (.aload_n 0, 1) := by decide +kernel
theorem dX5_stopWithDamage_4 : decode cX5_stopWithDamage 4 = .ok (.getfield 27, 3) := by decide +kernel
theorem dX5_stopWithDamage_7 : decode cX5_stopWithDamage 7 = .ok (.if_icmp .ge 41, 3) := by decide +kernel
theorem dX5_stopWithDamage_10 : decode cX5_stopWithDamage 10 = .ok (.iload_n 1, 1) := by decide +kernel
theorem dX5_stopWithDamage_11 : decode cX5_stopWithDamage 11 = .ok (.iload_n 2, 1) := by decide +kernel
theorem dX5_stopWithDamage_12 : decode cX5_stopWithDamage 12 = .ok (.invokestatic 62, 3) := by decide +kernel
theorem dX5_stopWithDamage_15 : decode cX5_stopWithDamage 15 = .ok (.ifCond .eq 27, 3) := by decide +kernel
theorem dX5_stopWithDamage_18 : decode cX5_stopWithDamage 18 = .ok (.aload_n 0, 1) := by decide +kernel
theorem dX5_stopWithDamage_19 : decode cX5_stopWithDamage 19 = .ok (.getfield 20, 3) := by decide +kernel
theorem dX5_stopWithDamage_22 : decode cX5_stopWithDamage 22 = .ok (.iload_n 2, 1) := by decide +kernel
theorem dX5_stopWithDamage_23 : decode cX5_stopWithDamage 23 = .ok (.aaload, 1) := by decide +kernel
theorem dX5_stopWithDamage_24 : decode cX5_stopWithDamage 24 = .ok (.invokevirtual 113, 3) := by decide +kernel
theorem dX5_stopWithDamage_27 : decode cX5_stopWithDamage 27 = .ok (.aload_n 0, 1) := by decide +kernel
theorem dX5_stopWithDamage_28 : decode cX5_stopWithDamage 28 = .ok (.getfield 20, 3) := by decide +kernel
theorem dX5_stopWithDamage_31 : decode cX5_stopWithDamage 31 = .ok (.iload_n 2, 1) := by decide +kernel
theorem dX5_stopWithDamage_32 : decode cX5_stopWithDamage 32 = .ok (.aaload, 1) := by decide +kernel
theorem dX5_stopWithDamage_33 : decode cX5_stopWithDamage 33 = .ok (.dup, 1) := by decide +kernel
theorem dX5_stopWithDamage_34 : decode cX5_stopWithDamage 34 = .ok (.getfield 134, 3) := by decide +kernel
theorem dX5_stopWithDamage_37 : decode cX5_stopWithDamage 37 = .ok (.iconst 1, 1) := by decide +kernel
theorem dX5_stopWithDamage_38 : decode cX5_stopWithDamage 38 = .ok (.iadd, 1) := by decide +kernel
theorem dX5_stopWithDamage_39 : decode cX5_stopWithDamage 39 = .ok (.putfield 134, 3) := by decide +kernel
theorem dX5_stopWithDamage_42 : decode cX5_stopWithDamage 42 = .ok (.iinc 2 1, 3) := by decide +kernel
theorem dX5_stopWithDamage_45 : decode cX5_stopWithDamage 45 = .ok (.goto (-43), 3) := by decide +kernel
theorem dX5_stopWithDamage_48 : decode cX5_stopWithDamage 48 = .ok (.return_, 1) := by decide +kernel
theorem dX5_allIn_0 : decode cX5_allIn 0 = .ok (.iconst 0, 1) := by decide +kernel
theorem dX5_allIn_1 : decode cX5_allIn 1 = .ok (.istore_n 2, 1) := by decide +kernel
theorem dX5_allIn_2 : decode cX5_allIn 2 = .ok (.iconst 0, 1) := by decide +kernel
theorem dX5_allIn_3 : decode cX5_allIn 3 = .ok (.istore_n 3, 1) := by decide +kernel
theorem dX5_allIn_4 : decode cX5_allIn 4 = .ok (.iload_n 3, 1) := by decide +kernel
theorem dX5_allIn_5 : decode cX5_allIn 5 = .ok (.aload_n 0, 1) := by decide +kernel
theorem dX5_allIn_6 : decode cX5_allIn 6 = .ok (.getfield 27, 3) := by decide +kernel
theorem dX5_allIn_9 : decode cX5_allIn 9 = .ok (.if_icmp .ge 28, 3) := by decide +kernel
theorem dX5_allIn_12 : decode cX5_allIn 12 = .ok (.aload_n 0, 1) := by decide +kernel
theorem dX5_allIn_13 : decode cX5_allIn 13 = .ok (.getfield 20, 3) := by decide +kernel
theorem dX5_allIn_16 : decode cX5_allIn 16 = .ok (.iload_n 3, 1) := by decide +kernel
theorem dX5_allIn_17 : decode cX5_allIn 17 = .ok (.aaload, 1) := by decide +kernel
theorem dX5_allIn_18 : decode cX5_allIn 18 = .ok (.getfield 66, 3) := by decide +kernel
theorem dX5_allIn_21 : decode cX5_allIn 21 = .ok (.iload_n 1, 1) := by decide +kernel
theorem dX5_allIn_22 : decode cX5_allIn 22 = .ok (.if_icmp .ne 9, 3) := by decide +kernel
theorem dX5_allIn_25 : decode cX5_allIn 25 = .ok (.iload_n 2, 1) := by decide +kernel
theorem dX5_allIn_26 : decode cX5_allIn 26 = .ok (.iconst 1, 1) := by decide +kernel
theorem dX5_allIn_27 : decode cX5_allIn 27 = .ok (.iload_n 3, 1) := by decide +kernel
theorem dX5_allIn_28 : decode cX5_allIn 28 = .ok (.ishl, 1) := by decide +kernel
theorem dX5_allIn_29 : decode cX5_allIn 29 = .ok (.ior, 1) := by decide +kernel
theorem dX5_allIn_30 : decode cX5_allIn 30 = .ok (.istore_n 2, 1) := by decide +kernel
theorem dX5_allIn_31 : decode cX5_allIn 31 = .ok (.iinc 3 1, 3) := by decide +kernel
theorem dX5_allIn_34 : decode cX5_allIn 34 = .ok (.goto (-30), 3) := by decide +kernel
theorem dX5_allIn_37 : decode cX5_allIn 37 = .ok (.iload_n 2, 1) := by decide +kernel
theorem dX5_allIn_38 : decode cX5_allIn 38 = .ok (.ireturn, 1) := by decide +kernel
theorem dX5_allOn_0 : decode cX5_allOn 0 = .ok (.iconst 0, 1) := by decide +kernel
theorem dX5_allOn_1 : decode cX5_allOn 1 = .ok (.istore_n 2, 1) := by decide +kernel
theorem dX5_allOn_2 : decode cX5_allOn 2 = .ok (.iconst 0, 1) := by decide +kernel
theorem dX5_allOn_3 : decode cX5_allOn 3 = .ok (.istore_n 3, 1) := by decide +kernel
theorem dX5_allOn_4 : decode cX5_allOn 4 = .ok (.iload_n 3, 1) := by decide +kernel
theorem dX5_allOn_5 : decode cX5_allOn 5 = .ok (.aload_n 0, 1) := by decide +kernel
theorem dX5_allOn_6 : decode cX5_allOn 6 = .ok (.getfield 27, 3) := by decide +kernel
theorem dX5_allOn_9 : decode cX5_allOn 9 = .ok (.if_icmp .ge 40, 3) := by decide +kernel
theorem dX5_allOn_12 : decode cX5_allOn 12 = .ok (.aload_n 0, 1) := by decide +kernel
theorem dX5_allOn_13 : decode cX5_allOn 13 = .ok (.getfield 20, 3) := by decide +kernel
theorem dX5_allOn_16 : decode cX5_allOn 16 = .ok (.iload_n 3, 1) := by decide +kernel
theorem dX5_allOn_17 : decode cX5_allOn 17 = .ok (.aaload, 1) := by decide +kernel
theorem dX5_allOn_18 : decode cX5_allOn 18 = .ok (.getfield 87, 3) := by decide +kernel
theorem dX5_allOn_21 : decode cX5_allOn 21 = .ok (.iload_n 1, 1) := by decide +kernel
theorem dX5_allOn_22 : decode cX5_allOn 22 = .ok (.if_icmp .ne 21, 3) := by decide +kernel
theorem dX5_allOn_25 : decode cX5_allOn 25 = .ok (.aload_n 0, 1) := by decide +kernel
theorem dX5_allOn_26 : decode cX5_allOn 26 = .ok (.getfield 20, 3) := by decide +kernel
theorem dX5_allOn_29 : decode cX5_allOn 29 = .ok (.iload_n 3, 1) := by decide +kernel
theorem dX5_allOn_30 : decode cX5_allOn 30 = .ok (.aaload, 1) := by decide +kernel
theorem dX5_allOn_31 : decode cX5_allOn 31 = .ok (.invokevirtual 119, 3) := by decide +kernel
theorem dX5_allOn_34 : decode cX5_allOn 34 = .ok (.ifCond .eq 9, 3) := by decide +kernel
theorem dX5_allOn_37 : decode cX5_allOn 37 = .ok (.iload_n 2, 1) := by decide +kernel
theorem dX5_allOn_38 : decode cX5_allOn 38 = .ok (.iconst 1, 1) := by decide +kernel
theorem dX5_allOn_39 : decode cX5_allOn 39 = .ok (.iload_n 3, 1) := by decide +kernel
theorem dX5_allOn_40 : decode cX5_allOn 40 = .ok (.ishl, 1) := by decide +kernel
theorem dX5_allOn_41 : decode cX5_allOn 41 = .ok (.ior, 1) := by decide +kernel
theorem dX5_allOn_42 : decode cX5_allOn 42 = .ok (.istore_n 2, 1) := by decide +kernel
theorem dX5_allOn_43 : decode cX5_allOn 43 = .ok (.iinc 3 1, 3) := by decide +kernel
theorem dX5_allOn_46 : decode cX5_allOn 46 = .ok (.goto (-42), 3) := by decide +kernel
theorem dX5_allOn_49 : decode cX5_allOn 49 = .ok (.iload_n 2, 1) := by decide +kernel
theorem dX5_allOn_50 : decode cX5_allOn 50 = .ok (.ireturn, 1) := by decide +kernel
theorem dX5_restingOnFoot_0 : decode cX5_restingOnFoot 0 = .ok (.aload_n 0, 1) := by decide +kernel
theorem dX5_restingOnFoot_1 : decode cX5_restingOnFoot 1 = .ok (.iconst 0, 1) := by decide +kernel
theorem dX5_restingOnFoot_2 : decode cX5_restingOnFoot 2 = .ok (.invokevirtual 73, 3) := by decide +kernel
theorem dX5_restingOnFoot_5 : decode cX5_restingOnFoot 5 = .ok (.aload_n 0, 1) := by decide +kernel
theorem dX5_restingOnFoot_6 : decode cX5_restingOnFoot 6 = .ok (.bipush 30, 2) := by decide +kernel
theorem dX5_restingOnFoot_8 : decode cX5_restingOnFoot 8 = .ok (.invokevirtual 122, 3) := by decide +kernel
theorem dX5_restingOnFoot_11 : decode cX5_restingOnFoot 11 = .ok (.iand, 1) := by decide +kernel
theorem dX5_restingOnFoot_12 : decode cX5_restingOnFoot 12 = .ok (.ireturn, 1) := by decide +kernel
theorem dX5_damageOfAll_0 : decode cX5_damageOfAll 0 = .ok (.iconst 0, 1) := by decide +kernel
theorem dX5_damageOfAll_1 : decode cX5_damageOfAll 1 = .ok (.istore_n 1, 1) := by decide +kernel
theorem dX5_damageOfAll_2 : decode cX5_damageOfAll 2 = .ok (.iconst 0, 1) := by decide +kernel
theorem dX5_damageOfAll_3 : decode cX5_damageOfAll 3 = .ok (.istore_n 2, 1) := by decide +kernel
theorem dX5_damageOfAll_4 : decode cX5_damageOfAll 4 = .ok (.iload_n 2, 1) := by decide +kernel
theorem dX5_damageOfAll_5 : decode cX5_damageOfAll 5 = .ok (.aload_n 0, 1) := by decide +kernel
theorem dX5_damageOfAll_6 : decode cX5_damageOfAll 6 = .ok (.getfield 27, 3) := by decide +kernel
theorem dX5_damageOfAll_9 : decode cX5_damageOfAll 9 = .ok (.if_icmp .ge 21, 3) := by decide +kernel
theorem dX5_damageOfAll_12 : decode cX5_damageOfAll 12 = .ok (.iload_n 1, 1) := by decide +kernel
theorem dX5_damageOfAll_13 : decode cX5_damageOfAll 13 = .ok (.aload_n 0, 1) := by decide +kernel
theorem dX5_damageOfAll_14 : decode cX5_damageOfAll 14 = .ok (.getfield 20, 3) := by decide +kernel
theorem dX5_damageOfAll_17 : decode cX5_damageOfAll 17 = .ok (.iload_n 2, 1) := by decide +kernel
theorem dX5_damageOfAll_18 : decode cX5_damageOfAll 18 = .ok (.aaload, 1) := by decide +kernel
theorem dX5_damageOfAll_19 : decode cX5_damageOfAll 19 = .ok (.getfield 134, 3) := by decide +kernel
theorem dX5_damageOfAll_22 : decode cX5_damageOfAll 22 = .ok (.iadd, 1) := by decide +kernel
theorem dX5_damageOfAll_23 : decode cX5_damageOfAll 23 = .ok (.istore_n 1, 1) := by decide +kernel
theorem dX5_damageOfAll_24 : decode cX5_damageOfAll 24 = .ok (.iinc 2 1, 3) := by decide +kernel
theorem dX5_damageOfAll_27 : decode cX5_damageOfAll 27 = .ok (.goto (-23), 3) := by decide +kernel
theorem dX5_damageOfAll_30 : decode cX5_damageOfAll 30 = .ok (.iload_n 1, 1) := by decide +kernel
theorem dX5_damageOfAll_31 : decode cX5_damageOfAll 31 = .ok (.ireturn, 1) := by decide +kernel
theorem dX5_weightOfAll_0 : decode cX5_weightOfAll 0 = .ok (.iconst 0, 1) := by decide +kernel
theorem dX5_weightOfAll_1 : decode cX5_weightOfAll 1 = .ok (.istore_n 1, 1) := by decide +kernel
theorem dX5_weightOfAll_2 : decode cX5_weightOfAll 2 = .ok (.iconst 0, 1) := by decide +kernel
theorem dX5_weightOfAll_3 : decode cX5_weightOfAll 3 = .ok (.istore_n 2, 1) := by decide +kernel
theorem dX5_weightOfAll_4 : decode cX5_weightOfAll 4 = .ok (.iload_n 2, 1) := by decide +kernel
theorem dX5_weightOfAll_5 : decode cX5_weightOfAll 5 = .ok (.aload_n 0, 1) := by decide +kernel
theorem dX5_weightOfAll_6 : decode cX5_weightOfAll 6 = .ok (.getfield 27, 3) := by decide +kernel
theorem dX5_weightOfAll_9 : decode cX5_weightOfAll 9 = .ok (.if_icmp .ge 21, 3) := by decide +kernel
theorem dX5_weightOfAll_12 : decode cX5_weightOfAll 12 = .ok (.iload_n 1, 1) := by decide +kernel
theorem dX5_weightOfAll_13 : decode cX5_weightOfAll 13 = .ok (.aload_n 0, 1) := by decide +kernel
theorem dX5_weightOfAll_14 : decode cX5_weightOfAll 14 = .ok (.getfield 20, 3) := by decide +kernel
theorem dX5_weightOfAll_17 : decode cX5_weightOfAll 17 = .ok (.iload_n 2, 1) := by decide +kernel
theorem dX5_weightOfAll_18 : decode cX5_weightOfAll 18 = .ok (.aaload, 1) := by decide +kernel
theorem dX5_weightOfAll_19 : decode cX5_weightOfAll 19 = .ok (.getfield 137, 3) := by decide +kernel
theorem dX5_weightOfAll_22 : decode cX5_weightOfAll 22 = .ok (.iadd, 1) := by decide +kernel
theorem dX5_weightOfAll_23 : decode cX5_weightOfAll 23 = .ok (.istore_n 1, 1) := by decide +kernel
theorem dX5_weightOfAll_24 : decode cX5_weightOfAll 24 = .ok (.iinc 2 1, 3) := by decide +kernel
theorem dX5_weightOfAll_27 : decode cX5_weightOfAll 27 = .ok (.goto (-23), 3) := by decide +kernel
theorem dX5_weightOfAll_30 : decode cX5_weightOfAll 30 = .ok (.iload_n 1, 1) := by decide +kernel
theorem dX5_weightOfAll_31 : decode cX5_weightOfAll 31 = .ok (.ireturn, 1) := by decide +kernel
theorem dX5_heaviest_0 : decode cX5_heaviest 0 = .ok (.iconst 0, 1) := by decide +kernel
theorem dX5_heaviest_1 : decode cX5_heaviest 1 = .ok (.istore_n 2, 1) := by decide +kernel
theorem dX5_heaviest_2 : decode cX5_heaviest 2 = .ok (.iconst 0, 1) := by decide +kernel
theorem dX5_heaviest_3 : decode cX5_heaviest 3 = .ok (.istore_n 3, 1) := by decide +kernel
theorem dX5_heaviest_4 : decode cX5_heaviest 4 = .ok (.iload_n 3, 1) := by decide +kernel
theorem dX5_heaviest_5 : decode cX5_heaviest 5 = .ok (.aload_n 0, 1) := by decide +kernel
theorem dX5_heaviest_6 : decode cX5_heaviest 6 = .ok (.getfield 27, 3) := by decide +kernel
theorem dX5_heaviest_9 : decode cX5_heaviest 9 = .ok (.if_icmp .ge 31, 3) := by decide +kernel
theorem dX5_heaviest_12 : decode cX5_heaviest 12 = .ok (.iload_n 1, 1) := by decide +kernel
theorem dX5_heaviest_13 : decode cX5_heaviest 13 = .ok (.iload_n 3, 1) := by decide +kernel
theorem dX5_heaviest_14 : decode cX5_heaviest 14 = .ok (.invokestatic 62, 3) := by decide +kernel
theorem dX5_heaviest_17 : decode cX5_heaviest 17 = .ok (.ifCond .eq 17, 3) := by decide +kernel
theorem dX5_heaviest_20 : decode cX5_heaviest 20 = .ok (.iload_n 2, 1) := by decide +kernel
theorem dX5_heaviest_21 : decode cX5_heaviest 21 = .ok (.aload_n 0, 1) := by decide +kernel
theorem dX5_heaviest_22 : decode cX5_heaviest 22 = .ok (.getfield 20, 3) := by decide +kernel
theorem dX5_heaviest_25 : decode cX5_heaviest 25 = .ok (.iload_n 3, 1) := by decide +kernel
theorem dX5_heaviest_26 : decode cX5_heaviest 26 = .ok (.aaload, 1) := by decide +kernel
theorem dX5_heaviest_27 : decode cX5_heaviest 27 = .ok (.getfield 137, 3) := by decide +kernel
theorem dX5_heaviest_30 : decode cX5_heaviest 30 = .ok (.invokestatic 102, 3) := by decide +kernel
theorem dX5_heaviest_33 : decode cX5_heaviest 33 = .ok (.istore_n 2, 1) := by decide +kernel
theorem dX5_heaviest_34 : decode cX5_heaviest 34 = .ok (.iinc 3 1, 3) := by decide +kernel
theorem dX5_heaviest_37 : decode cX5_heaviest 37 = .ok (.goto (-33), 3) := by decide +kernel
theorem dX5_heaviest_40 : decode cX5_heaviest 40 = .ok (.iload_n 2, 1) := by decide +kernel
theorem dX5_heaviest_41 : decode cX5_heaviest 41 = .ok (.ireturn, 1) := by decide +kernel
theorem dX5_cellsOfStone_0 : decode cX5_cellsOfStone 0 = .ok (.iconst 0, 1) := by decide +kernel
theorem dX5_cellsOfStone_1 : decode cX5_cellsOfStone 1 = .ok (.istore_n 1, 1) := by decide +kernel
theorem dX5_cellsOfStone_2 : decode cX5_cellsOfStone 2 = .ok (.iconst 0, 1) := by decide +kernel
theorem dX5_cellsOfStone_3 : decode cX5_cellsOfStone 3 = .ok (.istore_n 2, 1) := by decide +kernel
theorem dX5_cellsOfStone_4 : decode cX5_cellsOfStone 4 = .ok (.iload_n 2, 1) := by decide +kernel
theorem dX5_cellsOfStone_5 : decode cX5_cellsOfStone 5 = .ok (.bipush 31, 2) := by decide +kernel
theorem dX5_cellsOfStone_7 : decode cX5_cellsOfStone 7 = .ok (.if_icmp .ge 26, 3) := by decide +kernel
theorem dX5_cellsOfStone_10 : decode cX5_cellsOfStone 10 = .ok (.iload_n 1, 1) := by decide +kernel
theorem dX5_cellsOfStone_11 : decode cX5_cellsOfStone 11 = .ok (.aload_n 0, 1) := by decide +kernel
theorem dX5_cellsOfStone_12 : decode cX5_cellsOfStone 12 = .ok (.getfield 15, 3) := by decide +kernel
theorem dX5_cellsOfStone_15 : decode cX5_cellsOfStone 15 = .ok (.iload_n 2, 1) := by decide +kernel
theorem dX5_cellsOfStone_16 : decode cX5_cellsOfStone 16 = .ok (.iaload, 1) := by decide +kernel
theorem dX5_cellsOfStone_17 : decode cX5_cellsOfStone 17 = .ok (.ifCond .ne 7, 3) := by decide +kernel
theorem dX5_cellsOfStone_20 : decode cX5_cellsOfStone 20 = .ok (.iconst 1, 1) := by decide +kernel
theorem dX5_cellsOfStone_21 : decode cX5_cellsOfStone 21 = .ok (.goto 4, 3) := by decide +kernel
theorem dX5_cellsOfStone_24 : decode cX5_cellsOfStone 24 = .ok (.iconst 0, 1) := by decide +kernel
theorem dX5_cellsOfStone_25 : decode cX5_cellsOfStone 25 = .ok (.iadd, 1) := by decide +kernel
theorem dX5_cellsOfStone_26 : decode cX5_cellsOfStone 26 = .ok (.istore_n 1, 1) := by decide +kernel
theorem dX5_cellsOfStone_27 : decode cX5_cellsOfStone 27 = .ok (.iinc 2 1, 3) := by decide +kernel
theorem dX5_cellsOfStone_30 : decode cX5_cellsOfStone 30 = .ok (.goto (-26), 3) := by decide +kernel
theorem dX5_cellsOfStone_33 : decode cX5_cellsOfStone 33 = .ok (.iload_n 1, 1) := by decide +kernel
theorem dX5_cellsOfStone_34 : decode cX5_cellsOfStone 34 = .ok (.ireturn, 1) := by decide +kernel
theorem dX5_spotsInUse_0 : decode cX5_spotsInUse 0 = .ok (.iconst 0, 1) := by decide +kernel
theorem dX5_spotsInUse_1 : decode cX5_spotsInUse 1 = .ok (.istore_n 1, 1) := by decide +kernel
theorem dX5_spotsInUse_2 : decode cX5_spotsInUse 2 = .ok (.iconst 0, 1) := by decide +kernel
theorem dX5_spotsInUse_3 : decode cX5_spotsInUse 3 = .ok (.istore_n 2, 1) := by decide +kernel
theorem dX5_spotsInUse_4 : decode cX5_spotsInUse 4 = .ok (.iload_n 2, 1) := by decide +kernel
theorem dX5_spotsInUse_5 : decode cX5_spotsInUse 5 = .ok (.bipush 10, 2) := by decide +kernel
theorem dX5_spotsInUse_7 : decode cX5_spotsInUse 7 = .ok (.if_icmp .ge 26, 3) := by decide +kernel
theorem dX5_spotsInUse_10 : decode cX5_spotsInUse 10 = .ok (.iload_n 1, 1) := by decide +kernel
theorem dX5_spotsInUse_11 : decode cX5_spotsInUse 11 = .ok (.aload_n 0, 1) := by decide +kernel
theorem dX5_spotsInUse_12 : decode cX5_spotsInUse 12 = .ok (.getfield 24, 3) := by decide +kernel
theorem dX5_spotsInUse_15 : decode cX5_spotsInUse 15 = .ok (.iload_n 2, 1) := by decide +kernel
theorem dX5_spotsInUse_16 : decode cX5_spotsInUse 16 = .ok (.iaload, 1) := by decide +kernel
theorem dX5_spotsInUse_17 : decode cX5_spotsInUse 17 = .ok (.ifCond .lt 7, 3) := by decide +kernel
theorem dX5_spotsInUse_20 : decode cX5_spotsInUse 20 = .ok (.iconst 1, 1) := by decide +kernel
theorem dX5_spotsInUse_21 : decode cX5_spotsInUse 21 = .ok (.goto 4, 3) := by decide +kernel
theorem dX5_spotsInUse_24 : decode cX5_spotsInUse 24 = .ok (.iconst 0, 1) := by decide +kernel
theorem dX5_spotsInUse_25 : decode cX5_spotsInUse 25 = .ok (.iadd, 1) := by decide +kernel
theorem dX5_spotsInUse_26 : decode cX5_spotsInUse 26 = .ok (.istore_n 1, 1) := by decide +kernel
theorem dX5_spotsInUse_27 : decode cX5_spotsInUse 27 = .ok (.iinc 2 1, 3) := by decide +kernel
theorem dX5_spotsInUse_30 : decode cX5_spotsInUse 30 = .ok (.goto (-26), 3) := by decide +kernel
theorem dX5_spotsInUse_33 : decode cX5_spotsInUse 33 = .ok (.iload_n 1, 1) := by decide +kernel
theorem dX5_spotsInUse_34 : decode cX5_spotsInUse 34 = .ok (.ireturn, 1) := by decide +kernel
theorem dX5_draw_0 : decode cX5_draw 0 = .ok (.aload_n 0, 1) := by decide +kernel
theorem dX5_draw_1 : decode cX5_draw 1 = .ok (.aload_n 0, 1) := by decide +kernel
theorem dX5_draw_2 : decode cX5_draw 2 = .ok (.getfield 40, 3) := by decide +kernel
theorem dX5_draw_5 : decode cX5_draw 5 = .ok (.ldc 140, 2) := by decide +kernel
theorem dX5_draw_7 : decode cX5_draw 7 = .ok (.imul, 1) := by decide +kernel
theorem dX5_draw_8 : decode cX5_draw 8 = .ok (.sipush 12345, 3) := by decide +kernel
theorem dX5_draw_11 : decode cX5_draw 11 = .ok (.iadd, 1) := by decide +kernel
theorem dX5_draw_12 : decode cX5_draw 12 = .ok (.putfield 40, 3) := by decide +kernel
theorem dX5_draw_15 : decode cX5_draw 15 = .ok (.aload_n 0, 1) := by decide +kernel
theorem dX5_draw_16 : decode cX5_draw 16 = .ok (.getfield 40, 3) := by decide +kernel
theorem dX5_draw_19 : decode cX5_draw 19 = .ok (.bipush 8, 2) := by decide +kernel
theorem dX5_draw_21 : decode cX5_draw 21 = .ok (.iushr, 1) := by decide +kernel
theorem dX5_draw_22 : decode cX5_draw 22 = .ok (.ireturn, 1) := by decide +kernel
end
section
theorem dX6_init_0 : decode cX6_init 0 = .ok (.aload_n 0, 1) := by decide +kernel
theorem dX6_init_1 : decode cX6_init 1 = .ok (.invokespecial 3, 3) := by decide +kernel
theorem dX6_init_4 : decode cX6_init 4 = .ok (.aload_n 0, 1) := by decide +kernel
theorem dX6_init_5 : decode cX6_init 5 = .ok (.new 9, 3) := by decide +kernel
theorem dX6_init_8 : decode cX6_init 8 = .ok (.dup, 1) := by decide +kernel
theorem dX6_init_9 : decode cX6_init 9 = .ok (.invokespecial 11, 3) := by decide +kernel
theorem dX6_init_12 : decode cX6_init 12 = .ok (.putfield 12, 3) := by decide +kernel
theorem dX6_init_15 : decode cX6_init 15 = .ok (.aload_n 0, 1) := by decide +kernel
theorem dX6_init_16 : decode cX6_init 16 = .ok (.new 9, 3) := by decide +kernel
theorem dX6_init_19 : decode cX6_init 19 = .ok (.dup, 1) := by decide +kernel
theorem dX6_init_20 : decode cX6_init 20 = .ok (.invokespecial 11, 3) := by decide +kernel
theorem dX6_init_23 : decode cX6_init 23 = .ok (.putfield 16, 3) := by decide +kernel
theorem dX6_init_26 : decode cX6_init 26 = .ok (.aload_n 0, 1) := by decide +kernel
theorem dX6_init_27 : decode cX6_init 27 = .ok (.iconst 0, 1) := by decide +kernel
theorem dX6_init_28 : decode cX6_init 28 = .ok (.putfield 19, 3) := by decide +kernel
theorem dX6_init_31 : decode cX6_init 31 = .ok (.aload_n 0, 1) := by decide +kernel
theorem dX6_init_32 : decode cX6_init 32 = .ok (.new 9, 3) := by decide +kernel
theorem dX6_init_35 : decode cX6_init 35 = .ok (.dup, 1) := by decide +kernel
theorem dX6_init_36 : decode cX6_init 36 = .ok (.invokespecial 11, 3) := by decide +kernel
theorem dX6_init_39 : decode cX6_init 39 = .ok (.putfield 23, 3) := by decide +kernel
theorem dX6_init_42 : decode cX6_init 42 = .ok (.aload_n 0, 1) := by decide +kernel
theorem dX6_init_43 : decode cX6_init 43 = .ok (.new 9, 3) := by decide +kernel
theorem dX6_init_46 : decode cX6_init 46 = .ok (.dup, 1) := by decide +kernel
theorem dX6_init_47 : decode cX6_init 47 = .ok (.invokespecial 11, 3) := by decide +kernel
theorem dX6_init_50 : decode cX6_init 50 = .ok (.putfield 26, 3) := by decide +kernel
theorem dX6_init_53 : decode cX6_init 53 = .ok (.aload_n 0, 1) := by decide +kernel
theorem dX6_init_54 : decode cX6_init 54 = .ok (.new 29, 3) := by decide +kernel
theorem dX6_init_57 : decode cX6_init 57 = .ok (.dup, 1) := by decide +kernel
theorem dX6_init_58 : decode cX6_init 58 = .ok (.invokespecial 31, 3) := by decide +kernel
theorem dX6_init_61 : decode cX6_init 61 = .ok (.putfield 32, 3) := by decide +kernel
theorem dX6_init_64 : decode cX6_init 64 = .ok (.aload_n 0, 1) := by decide +kernel
theorem dX6_init_65 : decode cX6_init 65 = .ok (.new 36, 3) := by decide +kernel
theorem dX6_init_68 : decode cX6_init 68 = .ok (.dup, 1) := by decide +kernel
theorem dX6_init_69 : decode cX6_init 69 = .ok (.invokespecial 38, 3) := by decide +kernel
theorem dX6_init_72 : decode cX6_init 72 = .ok (.putfield 39, 3) := by decide +kernel
theorem dX6_init_75 : decode cX6_init 75 = .ok (.aload_n 0, 1) := by decide +kernel
theorem dX6_init_76 : decode cX6_init 76 = .ok (.bipush 10, 2) := by decide +kernel
theorem dX6_init_78 : decode cX6_init 78 = .ok (.newarray .int, 2) := by decide +kernel
theorem dX6_init_80 : decode cX6_init 80 = .ok (.putfield 43, 3) := by decide +kernel
theorem dX6_init_83 : decode cX6_init 83 = .ok (.aload_n 0, 1) := by decide +kernel
theorem dX6_init_84 : decode cX6_init 84 = .ok (.new 47, 3) := by decide +kernel
theorem dX6_init_87 : decode cX6_init 87 = .ok (.dup, 1) := by decide +kernel
theorem dX6_init_88 : decode cX6_init 88 = .ok (.invokespecial 49, 3) := by decide +kernel
theorem dX6_init_91 : decode cX6_init 91 = .ok (.putfield 50, 3) := by decide +kernel
theorem dX6_init_94 : decode cX6_init 94 = .ok (.aload_n 0, 1) := by decide +kernel
theorem dX6_init_95 : decode cX6_init 95 = .ok (.iconst 4, 1) := by decide +kernel
theorem dX6_init_96 : decode cX6_init 96 = .ok (.anewarray 54, 3) := by decide +kernel
theorem dX6_init_99 : decode cX6_init 99 = .ok (.putfield 56, 3) := by decide +kernel
theorem dX6_init_102 : decode cX6_init 102 = .ok (.aload_n 0, 1) := by decide +kernel
theorem dX6_init_103 : decode cX6_init 103 = .ok (.bipush 7, 2) := by decide +kernel
theorem dX6_init_105 : decode cX6_init 105 = .ok (.newarray .int, 2) := by decide +kernel
theorem dX6_init_107 : decode cX6_init 107 = .ok (.putfield 60, 3) := by decide +kernel
theorem dX6_init_110 : decode cX6_init 110 = .ok (.iconst 0, 1) := by decide +kernel
theorem dX6_init_111 : decode cX6_init 111 = .ok (.istore_n 1, 1) := by decide +kernel
theorem dX6_init_112 : decode cX6_init 112 = .ok (.iload_n 1, 1) := by decide +kernel
theorem dX6_init_113 : decode cX6_init 113 = .ok (.iconst 4, 1) := by decide +kernel
theorem dX6_init_114 : decode cX6_init 114 = .ok (.if_icmp .ge 22, 3) := by decide +kernel
theorem dX6_init_117 : decode cX6_init 117 = .ok (.aload_n 0, 1) := by decide +kernel
theorem dX6_init_118 : decode cX6_init 118 = .ok (.getfield 56, 3) := by decide +kernel
theorem dX6_init_121 : decode cX6_init 121 = .ok (.iload_n 1, 1) := by decide +kernel
theorem dX6_init_122 : decode cX6_init 122 = .ok (.new 54, 3) := by decide +kernel
theorem dX6_init_125 : decode cX6_init 125 = .ok (.dup, 1) := by decide +kernel
theorem dX6_init_126 : decode cX6_init 126 = .ok (.invokespecial 63, 3) := by decide +kernel
theorem dX6_init_129 : decode cX6_init 129 = .ok (.aastore, 1) := by decide +kernel
theorem dX6_init_130 : decode cX6_init 130 = .ok (.iinc 1 1, 3) := by decide +kernel
theorem dX6_init_133 : decode cX6_init 133 = .ok (.goto (-21), 3) := by decide +kernel
theorem dX6_init_136 : decode cX6_init 136 = .ok (.return_, 1) := by decide +kernel
theorem dX6_fall_0 : decode cX6_fall 0 = .ok (.iload_n 1, 1) := by decide +kernel
theorem dX6_fall_1 : decode cX6_fall 1 = .ok (.invokestatic 64, 3) := by decide +kernel
theorem dX6_fall_4 : decode cX6_fall 4 = .ok (.ifCond .eq 10, 3) := by decide +kernel
theorem dX6_fall_7 : decode cX6_fall 7 = .ok (.iload_n 2, 1) := by decide +kernel
theorem dX6_fall_8 : decode cX6_fall 8 = .ok (.invokestatic 68, 3) := by decide +kernel
theorem dX6_fall_11 : decode cX6_fall 11 = .ok (.ifCond .ne 10, 3) := by decide +kernel
theorem dX6_fall_14 : decode cX6_fall 14 = .ok (.aload_n 0, 1) := by decide +kernel
theorem dX6_fall_15 : decode cX6_fall 15 = .ok (.ldc 71, 2) := by decide +kernel
theorem dX6_fall_17 : decode cX6_fall 17 = .ok (.invokevirtual 72, 3) := by decide +kernel
theorem dX6_fall_20 : decode cX6_fall 20 = .ok (.ireturn, 1) := by decide +kernel
theorem dX6_fall_21 : decode cX6_fall 21 = .ok (.aload_n 0, 1) := by decide +kernel
theorem dX6_fall_22 : decode cX6_fall 22 = .ok (.getfield 12, 3) := by decide +kernel
theorem dX6_fall_25 : decode cX6_fall 25 = .ok (.getfield 76, 3) := by decide +kernel
theorem dX6_fall_28 : decode cX6_fall 28 = .ok (.iload_n 1, 1) := by decide +kernel
theorem dX6_fall_29 : decode cX6_fall 29 = .ok (.iaload, 1) := by decide +kernel
theorem dX6_fall_30 : decode cX6_fall 30 = .ok (.istore_n 3, 1) := by decide +kernel
theorem dX6_fall_31 : decode cX6_fall 31 = .ok (.aload_n 0, 1) := by decide +kernel
theorem dX6_fall_32 : decode cX6_fall 32 = .ok (.getfield 12, 3) := by decide +kernel
theorem dX6_fall_35 : decode cX6_fall 35 = .ok (.getfield 76, 3) := by decide +kernel
theorem dX6_fall_38 : decode cX6_fall 38 = .ok (.iload_n 1, 1) := by decide +kernel
theorem dX6_fall_39 : decode cX6_fall 39 = .ok (.iload_n 2, 1) := by decide +kernel
theorem dX6_fall_40 : decode cX6_fall 40 = .ok (.iastore, 1) := by decide +kernel
theorem dX6_fall_41 : decode cX6_fall 41 = .ok (.iload_n 3, 1) := by decide +kernel
theorem dX6_fall_42 : decode cX6_fall 42 = .ok (.ireturn, 1) := by decide +kernel
theorem dX6_ground_0 : decode cX6_ground 0 = .ok (.iload_n 1, 1) := by decide +kernel
theorem dX6_ground_1 : decode cX6_ground 1 = .ok (.invokestatic 64, 3) := by decide +kernel
theorem dX6_ground_4 : decode cX6_ground 4 = .ok (.ifCond .eq 12, 3) := by decide +kernel
theorem dX6_ground_7 : decode cX6_ground 7 = .ok (.iload_n 2, 1) := by decide +kernel
theorem dX6_ground_8 : decode cX6_ground 8 = .ok (.iconst 0, 1) := by decide +kernel
theorem dX6_ground_9 : decode cX6_ground 9 = .ok (.iconst 4, 1) := by decide +kernel
theorem dX6_ground_10 : decode cX6_ground 10 = .ok (.invokestatic 79, 3) := by decide +kernel
theorem dX6_ground_13 : decode cX6_ground 13 = .ok (.ifCond .ne 10, 3) := by decide +kernel
theorem dX6_ground_16 : decode cX6_ground 16 = .ok (.aload_n 0, 1) := by decide +kernel
theorem dX6_ground_17 : decode cX6_ground 17 = .ok (.ldc 71, 2) := by decide +kernel
theorem dX6_ground_19 : decode cX6_ground 19 = .ok (.invokevirtual 72, 3) := by decide +kernel
theorem dX6_ground_22 : decode cX6_ground 22 = .ok (.ireturn, 1) := by decide +kernel
theorem dX6_ground_23 : decode cX6_ground 23 = .ok (.aload_n 0, 1) := by decide +kernel
theorem dX6_ground_24 : decode cX6_ground 24 = .ok (.getfield 12, 3) := by decide +kernel
theorem dX6_ground_27 : decode cX6_ground 27 = .ok (.getfield 83, 3) := by decide +kernel
theorem dX6_ground_30 : decode cX6_ground 30 = .ok (.iload_n 1, 1) := by decide +kernel
theorem dX6_ground_31 : decode cX6_ground 31 = .ok (.iaload, 1) := by decide +kernel
theorem dX6_ground_32 : decode cX6_ground 32 = .ok (.istore_n 3, 1) := by decide +kernel
theorem dX6_ground_33 : decode cX6_ground 33 = .ok (.aload_n 0, 1) := by decide +kernel
theorem dX6_ground_34 : decode cX6_ground 34 = .ok (.getfield 12, 3) := by decide +kernel
theorem dX6_ground_37 : decode cX6_ground 37 = .ok (.getfield 83, 3) := by decide +kernel
theorem dX6_ground_40 : decode cX6_ground 40 = .ok (.iload_n 1, 1) := by decide +kernel
theorem dX6_ground_41 : decode cX6_ground 41 = .ok (.iload_n 2, 1) := by decide +kernel
theorem dX6_ground_42 : decode cX6_ground 42 = .ok (.iastore, 1) := by decide +kernel
theorem dX6_ground_43 : decode cX6_ground 43 = .ok (.iload_n 3, 1) := by decide +kernel
theorem dX6_ground_44 : decode cX6_ground 44 = .ok (.ireturn, 1) := by decide +kernel
theorem dX6_gate_0 : decode cX6_gate 0 = .ok (.iload_n 1, 1) := by decide +kernel
theorem dX6_gate_1 : decode cX6_gate 1 = .ok (.iconst 0, 1) := by decide +kernel
theorem dX6_gate_2 : decode cX6_gate 2 = .ok (.iconst 1, 1) := by decide +kernel
theorem dX6_gate_3 : decode cX6_gate 3 = .ok (.invokestatic 79, 3) := by decide +kernel
theorem dX6_gate_6 : decode cX6_gate 6 = .ok (.ifCond .eq 10, 3) := by decide +kernel
theorem dX6_gate_9 : decode cX6_gate 9 = .ok (.iload_n 2, 1) := by decide +kernel
theorem dX6_gate_10 : decode cX6_gate 10 = .ok (.invokestatic 86, 3) := by decide +kernel
theorem dX6_gate_13 : decode cX6_gate 13 = .ok (.ifCond .ne 10, 3) := by decide +kernel
theorem dX6_gate_16 : decode cX6_gate 16 = .ok (.aload_n 0, 1) := by decide +kernel
theorem dX6_gate_17 : decode cX6_gate 17 = .ok (.ldc 71, 2) := by decide +kernel
theorem dX6_gate_19 : decode cX6_gate 19 = .ok (.invokevirtual 72, 3) := by decide +kernel
theorem dX6_gate_22 : decode cX6_gate 22 = .ok (.ireturn, 1) := by decide +kernel
theorem dX6_gate_23 : decode cX6_gate 23 = .ok (.iload_n 1, 1) := by decide +kernel
theorem dX6_gate_24 : decode cX6_gate 24 = .ok (.ifCond .ne 13, 3) := by decide +kernel
theorem dX6_gate_27 : decode cX6_gate 27 = .ok (.aload_n 0, 1) := by decide +kernel
theorem dX6_gate_28 : decode cX6_gate 28 = .ok (.getfield 12, 3) := by decide +kernel
theorem dX6_gate_31 : decode cX6_gate 31 = .ok (.getfield 89, 3) := by decide +kernel
theorem dX6_gate_34 : decode cX6_gate 34 = .ok (.goto 10, 3) := by decide +kernel
theorem dX6_gate_37 : decode cX6_gate 37 = .ok (.aload_n 0, 1) := by decide +kernel
theorem dX6_gate_38 : decode cX6_gate 38 = .ok (.getfield 12, 3) := by decide +kernel
theorem dX6_gate_41 : decode cX6_gate 41 = .ok (.getfield 93, 3) := by decide +kernel
theorem dX6_gate_44 : decode cX6_gate 44 = .ok (.istore_n 3, 1) := by decide +kernel
theorem dX6_gate_45 : decode cX6_gate 45 = .ok (.iload_n 1, 1) := by decide +kernel
theorem dX6_gate_46 : decode cX6_gate 46 = .ok (.ifCond .ne 14, 3) := by decide +kernel
theorem dX6_gate_49 : decode cX6_gate 49 = .ok (.aload_n 0, 1) := by decide +kernel
theorem dX6_gate_50 : decode cX6_gate 50 = .ok (.getfield 12, 3) := by decide +kernel
theorem dX6_gate_53 : decode cX6_gate 53 = .ok (.iload_n 2, 1) := by decide +kernel
theorem dX6_gate_54 : decode cX6_gate 54 = .ok (.putfield 89, 3) := by decide +kernel
theorem dX6_gate_57 : decode cX6_gate 57 = .ok (.goto 11, 3) := by decide +kernel
theorem dX6_gate_60 : decode cX6_gate 60 = .ok (.aload_n 0, 1) := by decide +kernel
theorem dX6_gate_61 : decode cX6_gate 61 = .ok (.getfield 12, 3) := by decide +kernel
theorem dX6_gate_64 : decode cX6_gate 64 = .ok (.iload_n 2, 1) := by decide +kernel
theorem dX6_gate_65 : decode cX6_gate 65 = .ok (.putfield 93, 3) := by decide +kernel
theorem dX6_gate_68 : decode cX6_gate 68 = .ok (.iload_n 3, 1) := by decide +kernel
theorem dX6_gate_69 : decode cX6_gate 69 = .ok (.ireturn, 1) := by decide +kernel
theorem dX6_shut_0 : decode cX6_shut 0 = .ok (.iload_n 1, 1) := by decide +kernel
theorem dX6_shut_1 : decode cX6_shut 1 = .ok (.iconst 0, 1) := by decide +kernel
theorem dX6_shut_2 : decode cX6_shut 2 = .ok (.sipush 9999, 3) := by decide +kernel
theorem dX6_shut_5 : decode cX6_shut 5 = .ok (.invokestatic 79, 3) := by decide +kernel
theorem dX6_shut_8 : decode cX6_shut 8 = .ok (.ifCond .ne 10, 3) := by decide +kernel
theorem dX6_shut_11 : decode cX6_shut 11 = .ok (.aload_n 0, 1) := by decide +kernel
theorem dX6_shut_12 : decode cX6_shut 12 = .ok (.ldc 71, 2) := by decide +kernel
theorem dX6_shut_14 : decode cX6_shut 14 = .ok (.invokevirtual 72, 3) := by decide +kernel
theorem dX6_shut_17 : decode cX6_shut 17 = .ok (.ireturn, 1) := by decide +kernel
theorem dX6_shut_18 : decode cX6_shut 18 = .ok (.aload_n 0, 1) := by decide +kernel
theorem dX6_shut_19 : decode cX6_shut 19 = .ok (.getfield 12, 3) := by decide +kernel
theorem dX6_shut_22 : decode cX6_shut 22 = .ok (.iload_n 1, 1) := by decide +kernel
theorem dX6_shut_23 : decode cX6_shut 23 = .ok (.invokevirtual 96, 3) := by decide +kernel
theorem dX6_shut_26 : decode cX6_shut 26 = .ok (.ifCond .eq 7, 3) := by decide +kernel
theorem dX6_shut_29 : decode cX6_shut 29 = .ok (.iconst 1, 1) := by decide +kernel
theorem dX6_shut_30 : decode cX6_shut 30 = .ok (.goto 4, 3) := by decide +kernel
theorem dX6_shut_33 : decode cX6_shut 33 = .ok (.iconst 0, 1) := by decide +kernel
theorem dX6_shut_34 : decode cX6_shut 34 = .ok (.ireturn, 1) := by decide +kernel
theorem dX6_thing_0 : decode cX6_thing 0 = .ok (.iload_n 1, 1) := by decide +kernel
theorem dX6_thing_1 : decode cX6_thing 1 = .ok (.invokestatic 99, 3) := by decide +kernel
theorem dX6_thing_4 : decode cX6_thing 4 = .ok (.ifCond .eq 10, 3) := by decide +kernel
theorem dX6_thing_7 : decode cX6_thing 7 = .ok (.iload_n 2, 1) := by decide +kernel
theorem dX6_thing_8 : decode cX6_thing 8 = .ok (.invokestatic 102, 3) := by decide +kernel
theorem dX6_thing_11 : decode cX6_thing 11 = .ok (.ifCond .ne 10, 3) := by decide +kernel
theorem dX6_thing_14 : decode cX6_thing 14 = .ok (.aload_n 0, 1) := by decide +kernel
theorem dX6_thing_15 : decode cX6_thing 15 = .ok (.ldc 71, 2) := by decide +kernel
theorem dX6_thing_17 : decode cX6_thing 17 = .ok (.invokevirtual 72, 3) := by decide +kernel
theorem dX6_thing_20 : decode cX6_thing 20 = .ok (.ireturn, 1) := by decide +kernel
theorem dX6_thing_21 : decode cX6_thing 21 = .ok (.aload_n 0, 1) := by decide +kernel
theorem dX6_thing_22 : decode cX6_thing 22 = .ok (.getfield 12, 3) := by decide +kernel
theorem dX6_thing_25 : decode cX6_thing 25 = .ok (.invokevirtual 105, 3) := by decide +kernel
theorem dX6_thing_28 : decode cX6_thing 28 = .ok (.ifCond .eq 10, 3) := by decide +kernel
theorem dX6_thing_31 : decode cX6_thing 31 = .ok (.aload_n 0, 1) := by decide +kernel
theorem dX6_thing_32 : decode cX6_thing 32 = .ok (.ldc 109, 2) := by decide +kernel
theorem dX6_thing_34 : decode cX6_thing 34 = .ok (.invokevirtual 72, 3) := by decide +kernel
theorem dX6_thing_37 : decode cX6_thing 37 = .ok (.ireturn, 1) := by decide +kernel
theorem dX6_thing_38 : decode cX6_thing 38 = .ok (.aload_n 0, 1) := by decide +kernel
theorem dX6_thing_39 : decode cX6_thing 39 = .ok (.getfield 12, 3) := by decide +kernel
theorem dX6_thing_42 : decode cX6_thing 42 = .ok (.iload_n 1, 1) := by decide +kernel
theorem dX6_thing_43 : decode cX6_thing 43 = .ok (.iload_n 2, 1) := by decide +kernel
theorem dX6_thing_44 : decode cX6_thing 44 = .ok (.invokevirtual 110, 3) := by decide +kernel
theorem dX6_thing_47 : decode cX6_thing 47 = .ok (.aload_n 0, 1) := by decide +kernel
theorem dX6_thing_48 : decode cX6_thing 48 = .ok (.getfield 12, 3) := by decide +kernel
theorem dX6_thing_51 : decode cX6_thing 51 = .ok (.getfield 114, 3) := by decide +kernel
theorem dX6_thing_54 : decode cX6_thing 54 = .ok (.iconst 1, 1) := by decide +kernel
theorem dX6_thing_55 : decode cX6_thing 55 = .ok (.isub, 1) := by decide +kernel
theorem dX6_thing_56 : decode cX6_thing 56 = .ok (.ireturn, 1) := by decide +kernel
theorem dX6_of_0 : decode cX6_of 0 = .ok (.aload_n 0, 1) := by decide +kernel
theorem dX6_of_1 : decode cX6_of 1 = .ok (.iload_n 1, 1) := by decide +kernel
theorem dX6_of_2 : decode cX6_of 2 = .ok (.invokevirtual 117, 3) := by decide +kernel
theorem dX6_of_5 : decode cX6_of 5 = .ok (.ifCond .eq 13, 3) := by decide +kernel
theorem dX6_of_8 : decode cX6_of 8 = .ok (.iload_n 2, 1) := by decide +kernel
theorem dX6_of_9 : decode cX6_of 9 = .ok (.iconst 0, 1) := by decide +kernel
theorem dX6_of_10 : decode cX6_of 10 = .ok (.bipush 8, 2) := by decide +kernel
theorem dX6_of_12 : decode cX6_of 12 = .ok (.invokestatic 79, 3) := by decide +kernel
theorem dX6_of_15 : decode cX6_of 15 = .ok (.ifCond .ne 10, 3) := by decide +kernel
theorem dX6_of_18 : decode cX6_of 18 = .ok (.aload_n 0, 1) := by decide +kernel
theorem dX6_of_19 : decode cX6_of 19 = .ok (.ldc 71, 2) := by decide +kernel
theorem dX6_of_21 : decode cX6_of 21 = .ok (.invokevirtual 72, 3) := by decide +kernel
theorem dX6_of_24 : decode cX6_of 24 = .ok (.ireturn, 1) := by decide +kernel
theorem dX6_of_25 : decode cX6_of 25 = .ok (.aload_n 0, 1) := by decide +kernel
theorem dX6_of_26 : decode cX6_of 26 = .ok (.getfield 12, 3) := by decide +kernel
theorem dX6_of_29 : decode cX6_of 29 = .ok (.getfield 120, 3) := by decide +kernel
theorem dX6_of_32 : decode cX6_of 32 = .ok (.iload_n 1, 1) := by decide +kernel
theorem dX6_of_33 : decode cX6_of 33 = .ok (.aaload, 1) := by decide +kernel
theorem dX6_of_34 : decode cX6_of 34 = .ok (.astore_n 3, 1) := by decide +kernel
theorem dX6_of_35 : decode cX6_of 35 = .ok (.iload_n 2, 1) := by decide +kernel
theorem dX6_of_36 : decode cX6_of 36 = .ok (.tableswitch 88 0 7 #[48, 53, 58, 63, 68, 73, 78, 83], 48) := by decide +kernel
theorem dX6_of_84 : decode cX6_of 84 = .ok (.aload_n 3, 1) := by decide +kernel
theorem dX6_of_85 : decode cX6_of 85 = .ok (.getfield 124, 3) := by decide +kernel
theorem dX6_of_88 : decode cX6_of 88 = .ok (.ireturn, 1) := by decide +kernel
theorem dX6_of_89 : decode cX6_of 89 = .ok (.aload_n 3, 1) := by decide +kernel
theorem dX6_of_90 : decode cX6_of 90 = .ok (.getfield 129, 3) := by decide +kernel
theorem dX6_of_93 : decode cX6_of 93 = .ok (.ireturn, 1) := by decide +kernel
theorem dX6_of_94 : decode cX6_of 94 = .ok (.aload_n 3, 1) := by decide +kernel
theorem dX6_of_95 : decode cX6_of 95 = .ok (.getfield 132, 3) := by decide +kernel
theorem dX6_of_98 : decode cX6_of 98 = .ok (.ireturn, 1) := by decide +kernel
theorem dX6_of_99 : decode cX6_of 99 = .ok (.aload_n 3, 1) := by decide +kernel
theorem dX6_of_100 : decode cX6_of 100 = .ok (.getfield 135, 3) := by decide +kernel
theorem dX6_of_103 : decode cX6_of 103 = .ok (.ireturn, 1) := by decide +kernel
theorem dX6_of_104 : decode cX6_of 104 = .ok (.aload_n 3, 1) := by decide +kernel
theorem dX6_of_105 : decode cX6_of 105 = .ok (.getfield 138, 3) := by decide +kernel
theorem dX6_of_108 : decode cX6_of 108 = .ok (.ireturn, 1) := by decide +kernel
theorem dX6_of_109 : decode cX6_of 109 = .ok (.aload_n 3, 1) := by decide +kernel
theorem dX6_of_110 : decode cX6_of 110 = .ok (.getfield 141, 3) := by decide +kernel
theorem dX6_of_113 : decode cX6_of 113 = .ok (.ireturn, 1) := by decide +kernel
theorem dX6_of_114 : decode cX6_of 114 = .ok (.aload_n 3, 1) := by decide +kernel
theorem dX6_of_115 : decode cX6_of 115 = .ok (.getfield 144, 3) := by decide +kernel
theorem dX6_of_118 : decode cX6_of 118 = .ok (.ireturn, 1) := by decide +kernel
theorem dX6_of_119 : decode cX6_of 119 = .ok (.aload_n 3, 1) := by decide +kernel
theorem dX6_of_120 : decode cX6_of 120 = .ok (.getfield 147, 3) := by decide +kernel
theorem dX6_of_123 : decode cX6_of 123 = .ok (.ireturn, 1) := by decide +kernel
theorem dX6_of_124 : decode cX6_of 124 = .ok (.aload_n 3, 1) := by decide +kernel
theorem dX6_of_125 : decode cX6_of 125 = .ok (.invokevirtual 150, 3) := by decide +kernel
theorem dX6_of_128 : decode cX6_of 128 = .ok (.ireturn, 1) := by decide +kernel
theorem dX6_change_0 : decode cX6_change 0 = .ok (.aload_n 0, 1) := by decide +kernel
theorem dX6_change_1 : decode cX6_change 1 = .ok (.iload_n 1, 1) := by decide +kernel
theorem dX6_change_2 : decode cX6_change 2 = .ok (.invokevirtual 117, 3) := by decide +kernel
theorem dX6_change_5 : decode cX6_change 5 = .ok (.ifCond .ne 10, 3) := by decide +kernel
theorem dX6_change_8 : decode cX6_change 8 = .ok (.aload_n 0, 1) := by decide +kernel
theorem dX6_change_9 : decode cX6_change 9 = .ok (.ldc 71, 2) := by decide +kernel
theorem dX6_change_11 : decode cX6_change 11 = .ok (.invokevirtual 72, 3) := by decide +kernel
theorem dX6_change_14 : decode cX6_change 14 = .ok (.ireturn, 1) := by decide +kernel
theorem dX6_change_15 : decode cX6_change 15 = .ok (.aload_n 0, 1) := by decide +kernel
theorem dX6_change_16 : decode cX6_change 16 = .ok (.getfield 12, 3) := by decide +kernel
theorem dX6_change_19 : decode cX6_change 19 = .ok (.getfield 120, 3) := by decide +kernel
theorem dX6_change_22 : decode cX6_change 22 = .ok (.iload_n 1, 1) := by decide +kernel
theorem dX6_change_23 : decode cX6_change 23 = .ok (.aaload, 1) := by decide +kernel
theorem dX6_change_24 : decode cX6_change 24 = .ok (.astore 4, 2) := by decide +kernel
theorem dX6_change_26 : decode cX6_change 26 = .ok (.iload_n 2, 1) := by decide +kernel
theorem dX6_change_27 : decode cX6_change 27 = .ok (.ifCond .ne 26, 3) := by decide +kernel
theorem dX6_change_30 : decode cX6_change 30 = .ok (.iload_n 3, 1) := by decide +kernel
theorem dX6_change_31 : decode cX6_change 31 = .ok (.invokestatic 99, 3) := by decide +kernel
theorem dX6_change_34 : decode cX6_change 34 = .ok (.ifCond .eq 19, 3) := by decide +kernel
theorem dX6_change_37 : decode cX6_change 37 = .ok (.aload 4, 2) := by decide +kernel
theorem dX6_change_39 : decode cX6_change 39 = .ok (.getfield 124, 3) := by decide +kernel
theorem dX6_change_42 : decode cX6_change 42 = .ok (.istore 5, 2) := by decide +kernel
theorem dX6_change_44 : decode cX6_change 44 = .ok (.aload 4, 2) := by decide +kernel
theorem dX6_change_46 : decode cX6_change 46 = .ok (.iload_n 3, 1) := by decide +kernel
theorem dX6_change_47 : decode cX6_change 47 = .ok (.putfield 124, 3) := by decide +kernel
theorem dX6_change_50 : decode cX6_change 50 = .ok (.goto 94, 3) := by decide +kernel
theorem dX6_change_53 : decode cX6_change 53 = .ok (.iload_n 2, 1) := by decide +kernel
theorem dX6_change_54 : decode cX6_change 54 = .ok (.iconst 1, 1) := by decide +kernel
theorem dX6_change_55 : decode cX6_change 55 = .ok (.if_icmp .ne 26, 3) := by decide +kernel
theorem dX6_change_58 : decode cX6_change 58 = .ok (.iload_n 3, 1) := by decide +kernel
theorem dX6_change_59 : decode cX6_change 59 = .ok (.invokestatic 102, 3) := by decide +kernel
theorem dX6_change_62 : decode cX6_change 62 = .ok (.ifCond .eq 19, 3) := by decide +kernel
theorem dX6_change_65 : decode cX6_change 65 = .ok (.aload 4, 2) := by decide +kernel
theorem dX6_change_67 : decode cX6_change 67 = .ok (.getfield 129, 3) := by decide +kernel
theorem dX6_change_70 : decode cX6_change 70 = .ok (.istore 5, 2) := by decide +kernel
theorem dX6_change_72 : decode cX6_change 72 = .ok (.aload 4, 2) := by decide +kernel
theorem dX6_change_74 : decode cX6_change 74 = .ok (.iload_n 3, 1) := by decide +kernel
theorem dX6_change_75 : decode cX6_change 75 = .ok (.putfield 129, 3) := by decide +kernel
theorem dX6_change_78 : decode cX6_change 78 = .ok (.goto 66, 3) := by decide +kernel
theorem dX6_change_81 : decode cX6_change 81 = .ok (.iload_n 2, 1) := by decide +kernel
theorem dX6_change_82 : decode cX6_change 82 = .ok (.iconst 2, 1) := by decide +kernel
theorem dX6_change_83 : decode cX6_change 83 = .ok (.if_icmp .ne 26, 3) := by decide +kernel
theorem dX6_change_86 : decode cX6_change 86 = .ok (.iload_n 3, 1) := by decide +kernel
theorem dX6_change_87 : decode cX6_change 87 = .ok (.invokestatic 154, 3) := by decide +kernel
theorem dX6_change_90 : decode cX6_change 90 = .ok (.ifCond .eq 19, 3) := by decide +kernel
theorem dX6_change_93 : decode cX6_change 93 = .ok (.aload 4, 2) := by decide +kernel
theorem dX6_change_95 : decode cX6_change 95 = .ok (.getfield 132, 3) := by decide +kernel
theorem dX6_change_98 : decode cX6_change 98 = .ok (.istore 5, 2) := by decide +kernel
theorem dX6_change_100 : decode cX6_change 100 = .ok (.aload 4, 2) := by decide +kernel
theorem dX6_change_102 : decode cX6_change 102 = .ok (.iload_n 3, 1) := by decide +kernel
theorem dX6_change_103 : decode cX6_change 103 = .ok (.putfield 132, 3) := by decide +kernel
theorem dX6_change_106 : decode cX6_change 106 = .ok (.goto 38, 3) := by decide +kernel
theorem dX6_change_109 : decode cX6_change 109 = .ok (.iload_n 2, 1) := by decide +kernel
theorem dX6_change_110 : decode cX6_change 110 = .ok (.iconst 3, 1) := by decide +kernel
theorem dX6_change_111 : decode cX6_change 111 = .ok (.if_icmp .ne 26, 3) := by decide +kernel
theorem dX6_change_114 : decode cX6_change 114 = .ok (.iload_n 3, 1) := by decide +kernel
theorem dX6_change_115 : decode cX6_change 115 = .ok (.invokestatic 157, 3) := by decide +kernel
theorem dX6_change_118 : decode cX6_change 118 = .ok (.ifCond .eq 19, 3) := by decide +kernel
theorem dX6_change_121 : decode cX6_change 121 = .ok (.aload 4, 2) := by decide +kernel
theorem dX6_change_123 : decode cX6_change 123 = .ok (.getfield 135, 3) := by decide +kernel
theorem dX6_change_126 : decode cX6_change 126 = .ok (.istore 5, 2) := by decide +kernel
theorem dX6_change_128 : decode cX6_change 128 = .ok (.aload 4, 2) := by decide +kernel
theorem dX6_change_130 : decode cX6_change 130 = .ok (.iload_n 3, 1) := by decide +kernel
theorem dX6_change_131 : decode cX6_change 131 = .ok (.putfield 135, 3) := by decide +kernel
theorem dX6_change_134 : decode cX6_change 134 = .ok (.goto 10, 3) := by decide +kernel
theorem dX6_change_137 : decode cX6_change 137 = .ok (.aload_n 0, 1) := by decide +kernel
theorem dX6_change_138 : decode cX6_change 138 = .ok (.ldc 71, 2) := by decide +kernel
theorem dX6_change_140 : decode cX6_change 140 = .ok (.invokevirtual 72, 3) := by decide +kernel
theorem dX6_change_143 : decode cX6_change 143 = .ok (.ireturn, 1) := by decide +kernel
theorem dX6_change_144 : decode cX6_change 144 = .ok (.iload 5, 2) := by decide +kernel
theorem dX6_change_146 : decode cX6_change 146 = .ok (.ireturn, 1) := by decide +kernel
theorem dX6_told_0 : decode cX6_told 0 = .ok (.aload_n 0, 1) := by decide +kernel
theorem dX6_told_1 : decode cX6_told 1 = .ok (.iload_n 1, 1) := by decide +kernel
theorem dX6_told_2 : decode cX6_told 2 = .ok (.invokevirtual 117, 3) := by decide +kernel
theorem dX6_told_5 : decode cX6_told 5 = .ok (.ifCond .eq 19, 3) := by decide +kernel
theorem dX6_told_8 : decode cX6_told 8 = .ok (.iload_n 2, 1) := by decide +kernel
theorem dX6_told_9 : decode cX6_told 9 = .ok (.iconst 0, 1) := by decide +kernel
theorem dX6_told_10 : decode cX6_told 10 = .ok (.iconst 1, 1) := by decide +kernel
theorem dX6_told_11 : decode cX6_told 11 = .ok (.invokestatic 79, 3) := by decide +kernel
theorem dX6_told_14 : decode cX6_told 14 = .ok (.ifCond .eq 10, 3) := by decide +kernel
theorem dX6_told_17 : decode cX6_told 17 = .ok (.iload_n 3, 1) := by decide +kernel
theorem dX6_told_18 : decode cX6_told 18 = .ok (.invokestatic 64, 3) := by decide +kernel
theorem dX6_told_21 : decode cX6_told 21 = .ok (.ifCond .ne 10, 3) := by decide +kernel
theorem dX6_told_24 : decode cX6_told 24 = .ok (.aload_n 0, 1) := by decide +kernel
theorem dX6_told_25 : decode cX6_told 25 = .ok (.ldc 71, 2) := by decide +kernel
theorem dX6_told_27 : decode cX6_told 27 = .ok (.invokevirtual 72, 3) := by decide +kernel
theorem dX6_told_30 : decode cX6_told 30 = .ok (.ireturn, 1) := by decide +kernel
theorem dX6_told_31 : decode cX6_told 31 = .ok (.aload_n 0, 1) := by decide +kernel
theorem dX6_told_32 : decode cX6_told 32 = .ok (.getfield 12, 3) := by decide +kernel
theorem dX6_told_35 : decode cX6_told 35 = .ok (.getfield 120, 3) := by decide +kernel
theorem dX6_told_38 : decode cX6_told 38 = .ok (.iload_n 1, 1) := by decide +kernel
theorem dX6_told_39 : decode cX6_told 39 = .ok (.aaload, 1) := by decide +kernel
theorem dX6_told_40 : decode cX6_told 40 = .ok (.astore 4, 2) := by decide +kernel
theorem dX6_told_42 : decode cX6_told 42 = .ok (.iload_n 2, 1) := by decide +kernel
theorem dX6_told_43 : decode cX6_told 43 = .ok (.ifCond .ne 20, 3) := by decide +kernel
theorem dX6_told_46 : decode cX6_told 46 = .ok (.aload 4, 2) := by decide +kernel
theorem dX6_told_48 : decode cX6_told 48 = .ok (.aload_n 0, 1) := by decide +kernel
theorem dX6_told_49 : decode cX6_told 49 = .ok (.getfield 12, 3) := by decide +kernel
theorem dX6_told_52 : decode cX6_told 52 = .ok (.getfield 76, 3) := by decide +kernel
theorem dX6_told_55 : decode cX6_told 55 = .ok (.iload_n 3, 1) := by decide +kernel
theorem dX6_told_56 : decode cX6_told 56 = .ok (.iaload, 1) := by decide +kernel
theorem dX6_told_57 : decode cX6_told 57 = .ok (.invokevirtual 160, 3) := by decide +kernel
theorem dX6_told_60 : decode cX6_told 60 = .ok (.goto 17, 3) := by decide +kernel
theorem dX6_told_63 : decode cX6_told 63 = .ok (.aload 4, 2) := by decide +kernel
theorem dX6_told_65 : decode cX6_told 65 = .ok (.aload_n 0, 1) := by decide +kernel
theorem dX6_told_66 : decode cX6_told 66 = .ok (.getfield 12, 3) := by decide +kernel
theorem dX6_told_69 : decode cX6_told 69 = .ok (.getfield 83, 3) := by decide +kernel
theorem dX6_told_72 : decode cX6_told 72 = .ok (.iload_n 3, 1) := by decide +kernel
theorem dX6_told_73 : decode cX6_told 73 = .ok (.iaload, 1) := by decide +kernel
theorem dX6_told_74 : decode cX6_told 74 = .ok (.invokevirtual 163, 3) := by decide +kernel
theorem dX6_told_77 : decode cX6_told 77 = .ok (.ireturn, 1) := by decide +kernel
theorem dX6_go_0 : decode cX6_go 0 = .ok (.aload_n 0, 1) := by decide +kernel
theorem dX6_go_1 : decode cX6_go 1 = .ok (.iload_n 1, 1) := by decide +kernel
theorem dX6_go_2 : decode cX6_go 2 = .ok (.invokevirtual 117, 3) := by decide +kernel
theorem dX6_go_5 : decode cX6_go 5 = .ok (.ifCond .ne 10, 3) := by decide +kernel
theorem dX6_go_8 : decode cX6_go 8 = .ok (.aload_n 0, 1) := by decide +kernel
theorem dX6_go_9 : decode cX6_go 9 = .ok (.ldc 71, 2) := by decide +kernel
theorem dX6_go_11 : decode cX6_go 11 = .ok (.invokevirtual 72, 3) := by decide +kernel
theorem dX6_go_14 : decode cX6_go 14 = .ok (.ireturn, 1) := by decide +kernel
theorem dX6_go_15 : decode cX6_go 15 = .ok (.aload_n 0, 1) := by decide +kernel
theorem dX6_go_16 : decode cX6_go 16 = .ok (.getfield 12, 3) := by decide +kernel
theorem dX6_go_19 : decode cX6_go 19 = .ok (.getfield 120, 3) := by decide +kernel
theorem dX6_go_22 : decode cX6_go 22 = .ok (.iload_n 1, 1) := by decide +kernel
theorem dX6_go_23 : decode cX6_go 23 = .ok (.aaload, 1) := by decide +kernel
theorem dX6_go_24 : decode cX6_go 24 = .ok (.astore_n 2, 1) := by decide +kernel
theorem dX6_go_25 : decode cX6_go 25 = .ok (.aload_n 2, 1) := by decide +kernel
theorem dX6_go_26 : decode cX6_go 26 = .ok (.invokevirtual 166, 3) := by decide +kernel
theorem dX6_go_29 : decode cX6_go 29 = .ok (.ifCond .ne 10, 3) := by decide +kernel
theorem dX6_go_32 : decode cX6_go 32 = .ok (.aload_n 0, 1) := by decide +kernel
theorem dX6_go_33 : decode cX6_go 33 = .ok (.ldc 169, 2) := by decide +kernel
theorem dX6_go_35 : decode cX6_go 35 = .ok (.invokevirtual 72, 3) := by decide +kernel
theorem dX6_go_38 : decode cX6_go 38 = .ok (.ireturn, 1) := by decide +kernel
theorem dX6_go_39 : decode cX6_go 39 = .ok (.aload_n 2, 1) := by decide +kernel
theorem dX6_go_40 : decode cX6_go 40 = .ok (.bipush 10, 2) := by decide +kernel
theorem dX6_go_42 : decode cX6_go 42 = .ok (.invokevirtual 170, 3) := by decide +kernel
theorem dX6_go_45 : decode cX6_go 45 = .ok (.aload_n 2, 1) := by decide +kernel
theorem dX6_go_46 : decode cX6_go 46 = .ok (.getfield 138, 3) := by decide +kernel
theorem dX6_go_49 : decode cX6_go 49 = .ok (.ireturn, 1) := by decide +kernel
theorem dX6_put_0 : decode cX6_put 0 = .ok (.aload_n 0, 1) := by decide +kernel
theorem dX6_put_1 : decode cX6_put 1 = .ok (.iload_n 1, 1) := by decide +kernel
theorem dX6_put_2 : decode cX6_put 2 = .ok (.invokevirtual 117, 3) := by decide +kernel
theorem dX6_put_5 : decode cX6_put 5 = .ok (.ifCond .eq 10, 3) := by decide +kernel
theorem dX6_put_8 : decode cX6_put 8 = .ok (.iload_n 2, 1) := by decide +kernel
theorem dX6_put_9 : decode cX6_put 9 = .ok (.invokestatic 64, 3) := by decide +kernel
theorem dX6_put_12 : decode cX6_put 12 = .ok (.ifCond .ne 10, 3) := by decide +kernel
theorem dX6_put_15 : decode cX6_put 15 = .ok (.aload_n 0, 1) := by decide +kernel
theorem dX6_put_16 : decode cX6_put 16 = .ok (.ldc 71, 2) := by decide +kernel
theorem dX6_put_18 : decode cX6_put 18 = .ok (.invokevirtual 72, 3) := by decide +kernel
theorem dX6_put_21 : decode cX6_put 21 = .ok (.ireturn, 1) := by decide +kernel
theorem dX6_put_22 : decode cX6_put 22 = .ok (.aload_n 0, 1) := by decide +kernel
theorem dX6_put_23 : decode cX6_put 23 = .ok (.getfield 12, 3) := by decide +kernel
theorem dX6_put_26 : decode cX6_put 26 = .ok (.getfield 120, 3) := by decide +kernel
theorem dX6_put_29 : decode cX6_put 29 = .ok (.iload_n 1, 1) := by decide +kernel
theorem dX6_put_30 : decode cX6_put 30 = .ok (.aaload, 1) := by decide +kernel
theorem dX6_put_31 : decode cX6_put 31 = .ok (.astore_n 3, 1) := by decide +kernel
theorem dX6_put_32 : decode cX6_put 32 = .ok (.aload_n 3, 1) := by decide +kernel
theorem dX6_put_33 : decode cX6_put 33 = .ok (.getfield 138, 3) := by decide +kernel
theorem dX6_put_36 : decode cX6_put 36 = .ok (.istore 4, 2) := by decide +kernel
theorem dX6_put_38 : decode cX6_put 38 = .ok (.aload_n 3, 1) := by decide +kernel
theorem dX6_put_39 : decode cX6_put 39 = .ok (.iload_n 2, 1) := by decide +kernel
theorem dX6_put_40 : decode cX6_put 40 = .ok (.putfield 138, 3) := by decide +kernel
theorem dX6_put_43 : decode cX6_put 43 = .ok (.aload_n 3, 1) := by decide +kernel
theorem dX6_put_44 : decode cX6_put 44 = .ok (.invokevirtual 174, 3) := by decide +kernel
theorem dX6_put_47 : decode cX6_put 47 = .ok (.iload 4, 2) := by decide +kernel
theorem dX6_put_49 : decode cX6_put 49 = .ok (.ireturn, 1) := by decide +kernel
theorem dX6_minutes_0 : decode cX6_minutes 0 = .ok (.iload_n 1, 1) := by decide +kernel
theorem dX6_minutes_1 : decode cX6_minutes 1 = .ok (.iconst 1, 1) := by decide +kernel
theorem dX6_minutes_2 : decode cX6_minutes 2 = .ok (.bipush 120, 2) := by decide +kernel
theorem dX6_minutes_4 : decode cX6_minutes 4 = .ok (.invokestatic 79, 3) := by decide +kernel
theorem dX6_minutes_7 : decode cX6_minutes 7 = .ok (.ifCond .ne 10, 3) := by decide +kernel
theorem dX6_minutes_10 : decode cX6_minutes 10 = .ok (.aload_n 0, 1) := by decide +kernel
theorem dX6_minutes_11 : decode cX6_minutes 11 = .ok (.ldc 71, 2) := by decide +kernel
theorem dX6_minutes_13 : decode cX6_minutes 13 = .ok (.invokevirtual 72, 3) := by decide +kernel
theorem dX6_minutes_16 : decode cX6_minutes 16 = .ok (.ireturn, 1) := by decide +kernel
theorem dX6_minutes_17 : decode cX6_minutes 17 = .ok (.aload_n 0, 1) := by decide +kernel
theorem dX6_minutes_18 : decode cX6_minutes 18 = .ok (.getfield 12, 3) := by decide +kernel
theorem dX6_minutes_21 : decode cX6_minutes 21 = .ok (.getfield 177, 3) := by decide +kernel
theorem dX6_minutes_24 : decode cX6_minutes 24 = .ok (.sipush 9999, 3) := by decide +kernel
theorem dX6_minutes_27 : decode cX6_minutes 27 = .ok (.iload_n 1, 1) := by decide +kernel
theorem dX6_minutes_28 : decode cX6_minutes 28 = .ok (.isub, 1) := by decide +kernel
theorem dX6_minutes_29 : decode cX6_minutes 29 = .ok (.if_icmp .le 10, 3) := by decide +kernel
theorem dX6_minutes_32 : decode cX6_minutes 32 = .ok (.aload_n 0, 1) := by decide +kernel
theorem dX6_minutes_33 : decode cX6_minutes 33 = .ok (.ldc 169, 2) := by decide +kernel
theorem dX6_minutes_35 : decode cX6_minutes 35 = .ok (.invokevirtual 72, 3) := by decide +kernel
theorem dX6_minutes_38 : decode cX6_minutes 38 = .ok (.ireturn, 1) := by decide +kernel
theorem dX6_minutes_39 : decode cX6_minutes 39 = .ok (.aload_n 0, 1) := by decide +kernel
theorem dX6_minutes_40 : decode cX6_minutes 40 = .ok (.getfield 12, 3) := by decide +kernel
theorem dX6_minutes_43 : decode cX6_minutes 43 = .ok (.iconst 2, 1) := by decide +kernel
theorem dX6_minutes_44 : decode cX6_minutes 44 = .ok (.invokevirtual 180, 3) := by decide +kernel
theorem dX6_minutes_47 : decode cX6_minutes 47 = .ok (.invokestatic 183, 3) := by decide +kernel
theorem dX6_minutes_50 : decode cX6_minutes 50 = .ok (.istore_n 2, 1) := by decide +kernel
theorem dX6_minutes_51 : decode cX6_minutes 51 = .ok (.aload_n 0, 1) := by decide +kernel
theorem dX6_minutes_52 : decode cX6_minutes 52 = .ok (.getfield 12, 3) := by decide +kernel
theorem dX6_minutes_55 : decode cX6_minutes 55 = .ok (.iload_n 1, 1) := by decide +kernel
theorem dX6_minutes_56 : decode cX6_minutes 56 = .ok (.invokevirtual 188, 3) := by decide +kernel
theorem dX6_minutes_59 : decode cX6_minutes 59 = .ok (.istore_n 3, 1) := by decide +kernel
theorem dX6_minutes_60 : decode cX6_minutes 60 = .ok (.iload_n 3, 1) := by decide +kernel
theorem dX6_minutes_61 : decode cX6_minutes 61 = .ok (.aload_n 0, 1) := by decide +kernel
theorem dX6_minutes_62 : decode cX6_minutes 62 = .ok (.getfield 12, 3) := by decide +kernel
theorem dX6_minutes_65 : decode cX6_minutes 65 = .ok (.iconst 2, 1) := by decide +kernel
theorem dX6_minutes_66 : decode cX6_minutes 66 = .ok (.invokevirtual 180, 3) := by decide +kernel
theorem dX6_minutes_69 : decode cX6_minutes 69 = .ok (.invokestatic 183, 3) := by decide +kernel
theorem dX6_minutes_72 : decode cX6_minutes 72 = .ok (.iadd, 1) := by decide +kernel
theorem dX6_minutes_73 : decode cX6_minutes 73 = .ok (.iload_n 2, 1) := by decide +kernel
theorem dX6_minutes_74 : decode cX6_minutes 74 = .ok (.isub, 1) := by decide +kernel
theorem dX6_minutes_75 : decode cX6_minutes 75 = .ok (.ireturn, 1) := by decide +kernel
theorem dX6_are_0 : decode cX6_are 0 = .ok (.iload_n 1, 1) := by decide +kernel
theorem dX6_are_1 : decode cX6_are 1 = .ok (.iconst 0, 1) := by decide +kernel
theorem dX6_are_2 : decode cX6_are 2 = .ok (.iconst 3, 1) := by decide +kernel
theorem dX6_are_3 : decode cX6_are 3 = .ok (.invokestatic 79, 3) := by decide +kernel
theorem dX6_are_6 : decode cX6_are 6 = .ok (.ifCond .ne 10, 3) := by decide +kernel
theorem dX6_are_9 : decode cX6_are 9 = .ok (.aload_n 0, 1) := by decide +kernel
theorem dX6_are_10 : decode cX6_are 10 = .ok (.ldc 71, 2) := by decide +kernel
theorem dX6_are_12 : decode cX6_are 12 = .ok (.invokevirtual 72, 3) := by decide +kernel
theorem dX6_are_15 : decode cX6_are 15 = .ok (.ireturn, 1) := by decide +kernel
theorem dX6_are_16 : decode cX6_are 16 = .ok (.aload_n 0, 1) := by decide +kernel
theorem dX6_are_17 : decode cX6_are 17 = .ok (.getfield 12, 3) := by decide +kernel
theorem dX6_are_20 : decode cX6_are 20 = .ok (.iload_n 1, 1) := by decide +kernel
theorem dX6_are_21 : decode cX6_are 21 = .ok (.invokevirtual 180, 3) := by decide +kernel
theorem dX6_are_24 : decode cX6_are 24 = .ok (.ireturn, 1) := by decide +kernel
theorem dX6_on_0 : decode cX6_on 0 = .ok (.iload_n 1, 1) := by decide +kernel
theorem dX6_on_1 : decode cX6_on 1 = .ok (.invokestatic 64, 3) := by decide +kernel
theorem dX6_on_4 : decode cX6_on 4 = .ok (.ifCond .ne 10, 3) := by decide +kernel
theorem dX6_on_7 : decode cX6_on 7 = .ok (.aload_n 0, 1) := by decide +kernel
theorem dX6_on_8 : decode cX6_on 8 = .ok (.ldc 71, 2) := by decide +kernel
theorem dX6_on_10 : decode cX6_on 10 = .ok (.invokevirtual 72, 3) := by decide +kernel
theorem dX6_on_13 : decode cX6_on 13 = .ok (.ireturn, 1) := by decide +kernel
theorem dX6_on_14 : decode cX6_on 14 = .ok (.aload_n 0, 1) := by decide +kernel
theorem dX6_on_15 : decode cX6_on 15 = .ok (.getfield 12, 3) := by decide +kernel
theorem dX6_on_18 : decode cX6_on 18 = .ok (.iload_n 1, 1) := by decide +kernel
theorem dX6_on_19 : decode cX6_on 19 = .ok (.invokevirtual 191, 3) := by decide +kernel
theorem dX6_on_22 : decode cX6_on 22 = .ok (.ireturn, 1) := by decide +kernel
theorem dX6_ahead_0 : decode cX6_ahead 0 = .ok (.iload_n 1, 1) := by decide +kernel
theorem dX6_ahead_1 : decode cX6_ahead 1 = .ok (.iconst 0, 1) := by decide +kernel
theorem dX6_ahead_2 : decode cX6_ahead 2 = .ok (.sipush 200, 3) := by decide +kernel
theorem dX6_ahead_5 : decode cX6_ahead 5 = .ok (.invokestatic 79, 3) := by decide +kernel
theorem dX6_ahead_8 : decode cX6_ahead 8 = .ok (.ifCond .eq 27, 3) := by decide +kernel
theorem dX6_ahead_11 : decode cX6_ahead 11 = .ok (.iload_n 2, 1) := by decide +kernel
theorem dX6_ahead_12 : decode cX6_ahead 12 = .ok (.iconst 0, 1) := by decide +kernel
theorem dX6_ahead_13 : decode cX6_ahead 13 = .ok (.iconst 3, 1) := by decide +kernel
theorem dX6_ahead_14 : decode cX6_ahead 14 = .ok (.invokestatic 79, 3) := by decide +kernel
theorem dX6_ahead_17 : decode cX6_ahead 17 = .ok (.ifCond .ne 25, 3) := by decide +kernel
theorem dX6_ahead_20 : decode cX6_ahead 20 = .ok (.iload_n 2, 1) := by decide +kernel
theorem dX6_ahead_21 : decode cX6_ahead 21 = .ok (.iconst 3, 1) := by decide +kernel
theorem dX6_ahead_22 : decode cX6_ahead 22 = .ok (.if_icmp .le 13, 3) := by decide +kernel
theorem dX6_ahead_25 : decode cX6_ahead 25 = .ok (.aload_n 0, 1) := by decide +kernel
theorem dX6_ahead_26 : decode cX6_ahead 26 = .ok (.iload_n 2, 1) := by decide +kernel
theorem dX6_ahead_27 : decode cX6_ahead 27 = .ok (.iconst 4, 1) := by decide +kernel
theorem dX6_ahead_28 : decode cX6_ahead 28 = .ok (.isub, 1) := by decide +kernel
theorem dX6_ahead_29 : decode cX6_ahead 29 = .ok (.invokevirtual 117, 3) := by decide +kernel
theorem dX6_ahead_32 : decode cX6_ahead 32 = .ok (.ifCond .ne 10, 3) := by decide +kernel
theorem dX6_ahead_35 : decode cX6_ahead 35 = .ok (.aload_n 0, 1) := by decide +kernel
theorem dX6_ahead_36 : decode cX6_ahead 36 = .ok (.ldc 71, 2) := by decide +kernel
theorem dX6_ahead_38 : decode cX6_ahead 38 = .ok (.invokevirtual 72, 3) := by decide +kernel
theorem dX6_ahead_41 : decode cX6_ahead 41 = .ok (.ireturn, 1) := by decide +kernel
theorem dX6_ahead_42 : decode cX6_ahead 42 = .ok (.aload_n 0, 1) := by decide +kernel
theorem dX6_ahead_43 : decode cX6_ahead 43 = .ok (.getfield 12, 3) := by decide +kernel
theorem dX6_ahead_46 : decode cX6_ahead 46 = .ok (.getfield 177, 3) := by decide +kernel
theorem dX6_ahead_49 : decode cX6_ahead 49 = .ok (.sipush 9999, 3) := by decide +kernel
theorem dX6_ahead_52 : decode cX6_ahead 52 = .ok (.iload_n 1, 1) := by decide +kernel
theorem dX6_ahead_53 : decode cX6_ahead 53 = .ok (.isub, 1) := by decide +kernel
theorem dX6_ahead_54 : decode cX6_ahead 54 = .ok (.if_icmp .le 10, 3) := by decide +kernel
theorem dX6_ahead_57 : decode cX6_ahead 57 = .ok (.aload_n 0, 1) := by decide +kernel
theorem dX6_ahead_58 : decode cX6_ahead 58 = .ok (.ldc 169, 2) := by decide +kernel
theorem dX6_ahead_60 : decode cX6_ahead 60 = .ok (.invokevirtual 72, 3) := by decide +kernel
theorem dX6_ahead_63 : decode cX6_ahead 63 = .ok (.ireturn, 1) := by decide +kernel
theorem dX6_ahead_64 : decode cX6_ahead 64 = .ok (.aload_n 0, 1) := by decide +kernel
theorem dX6_ahead_65 : decode cX6_ahead 65 = .ok (.getfield 23, 3) := by decide +kernel
theorem dX6_ahead_68 : decode cX6_ahead 68 = .ok (.aload_n 0, 1) := by decide +kernel
theorem dX6_ahead_69 : decode cX6_ahead 69 = .ok (.getfield 12, 3) := by decide +kernel
theorem dX6_ahead_72 : decode cX6_ahead 72 = .ok (.invokevirtual 194, 3) := by decide +kernel
theorem dX6_ahead_75 : decode cX6_ahead 75 = .ok (.aload_n 0, 1) := by decide +kernel
theorem dX6_ahead_76 : decode cX6_ahead 76 = .ok (.getfield 23, 3) := by decide +kernel
theorem dX6_ahead_79 : decode cX6_ahead 79 = .ok (.iload_n 1, 1) := by decide +kernel
theorem dX6_ahead_80 : decode cX6_ahead 80 = .ok (.invokevirtual 188, 3) := by decide +kernel
theorem dX6_ahead_83 : decode cX6_ahead 83 = .ok (.pop, 1) := by decide +kernel
theorem dX6_ahead_84 : decode cX6_ahead 84 = .ok (.iload_n 2, 1) := by decide +kernel
theorem dX6_ahead_85 : decode cX6_ahead 85 = .ok (.tableswitch 65 0 3 #[31, 40, 49, 57], 31) := by decide +kernel
theorem dX6_ahead_116 : decode cX6_ahead 116 = .ok (.aload_n 0, 1) := by decide +kernel
theorem dX6_ahead_117 : decode cX6_ahead 117 = .ok (.getfield 23, 3) := by decide +kernel
theorem dX6_ahead_120 : decode cX6_ahead 120 = .ok (.iconst 1, 1) := by decide +kernel
theorem dX6_ahead_121 : decode cX6_ahead 121 = .ok (.invokevirtual 180, 3) := by decide +kernel
theorem dX6_ahead_124 : decode cX6_ahead 124 = .ok (.ireturn, 1) := by decide +kernel
theorem dX6_ahead_125 : decode cX6_ahead 125 = .ok (.aload_n 0, 1) := by decide +kernel
theorem dX6_ahead_126 : decode cX6_ahead 126 = .ok (.getfield 23, 3) := by decide +kernel
theorem dX6_ahead_129 : decode cX6_ahead 129 = .ok (.iconst 2, 1) := by decide +kernel
theorem dX6_ahead_130 : decode cX6_ahead 130 = .ok (.invokevirtual 180, 3) := by decide +kernel
theorem dX6_ahead_133 : decode cX6_ahead 133 = .ok (.ireturn, 1) := by decide +kernel
theorem dX6_ahead_134 : decode cX6_ahead 134 = .ok (.aload_n 0, 1) := by decide +kernel
theorem dX6_ahead_135 : decode cX6_ahead 135 = .ok (.getfield 23, 3) := by decide +kernel
theorem dX6_ahead_138 : decode cX6_ahead 138 = .ok (.invokevirtual 198, 3) := by decide +kernel
theorem dX6_ahead_141 : decode cX6_ahead 141 = .ok (.ireturn, 1) := by decide +kernel
theorem dX6_ahead_142 : decode cX6_ahead 142 = .ok (.aload_n 0, 1) := by decide +kernel
theorem dX6_ahead_143 : decode cX6_ahead 143 = .ok (.getfield 23, 3) := by decide +kernel
theorem dX6_ahead_146 : decode cX6_ahead 146 = .ok (.invokevirtual 201, 3) := by decide +kernel
theorem dX6_ahead_149 : decode cX6_ahead 149 = .ok (.ireturn, 1) := by decide +kernel
theorem dX6_ahead_150 : decode cX6_ahead 150 = .ok (.aload_n 0, 1) := by decide +kernel
theorem dX6_ahead_151 : decode cX6_ahead 151 = .ok (.getfield 23, 3) := by decide +kernel
theorem dX6_ahead_154 : decode cX6_ahead 154 = .ok (.getfield 120, 3) := by decide +kernel
theorem dX6_ahead_157 : decode cX6_ahead 157 = .ok (.iload_n 2, 1) := by decide +kernel
theorem dX6_ahead_158 : decode cX6_ahead 158 = .ok (.iconst 4, 1) := by decide +kernel
theorem dX6_ahead_159 : decode cX6_ahead 159 = .ok (.isub, 1) := by decide +kernel
theorem dX6_ahead_160 : decode cX6_ahead 160 = .ok (.aaload, 1) := by decide +kernel
theorem dX6_ahead_161 : decode cX6_ahead 161 = .ok (.getfield 138, 3) := by decide +kernel
theorem dX6_ahead_164 : decode cX6_ahead 164 = .ok (.ireturn, 1) := by decide +kernel
theorem dX6_meet_0 : decode cX6_meet 0 = .ok (.aload_n 0, 1) := by decide +kernel
theorem dX6_meet_1 : decode cX6_meet 1 = .ok (.getfield 12, 3) := by decide +kernel
theorem dX6_meet_4 : decode cX6_meet 4 = .ok (.getfield 177, 3) := by decide +kernel
theorem dX6_meet_7 : decode cX6_meet 7 = .ok (.sipush 9799, 3) := by decide +kernel
theorem dX6_meet_10 : decode cX6_meet 10 = .ok (.if_icmp .le 10, 3) := by decide +kernel
theorem dX6_meet_13 : decode cX6_meet 13 = .ok (.aload_n 0, 1) := by decide +kernel
theorem dX6_meet_14 : decode cX6_meet 14 = .ok (.ldc 169, 2) := by decide +kernel
theorem dX6_meet_16 : decode cX6_meet 16 = .ok (.invokevirtual 72, 3) := by decide +kernel
theorem dX6_meet_19 : decode cX6_meet 19 = .ok (.ireturn, 1) := by decide +kernel
theorem dX6_meet_20 : decode cX6_meet 20 = .ok (.aload_n 0, 1) := by decide +kernel
theorem dX6_meet_21 : decode cX6_meet 21 = .ok (.getfield 23, 3) := by decide +kernel
theorem dX6_meet_24 : decode cX6_meet 24 = .ok (.aload_n 0, 1) := by decide +kernel
theorem dX6_meet_25 : decode cX6_meet 25 = .ok (.getfield 12, 3) := by decide +kernel
theorem dX6_meet_28 : decode cX6_meet 28 = .ok (.invokevirtual 194, 3) := by decide +kernel
theorem dX6_meet_31 : decode cX6_meet 31 = .ok (.aload_n 0, 1) := by decide +kernel
theorem dX6_meet_32 : decode cX6_meet 32 = .ok (.getfield 23, 3) := by decide +kernel
theorem dX6_meet_35 : decode cX6_meet 35 = .ok (.sipush 200, 3) := by decide +kernel
theorem dX6_meet_38 : decode cX6_meet 38 = .ok (.invokevirtual 204, 3) := by decide +kernel
theorem dX6_meet_41 : decode cX6_meet 41 = .ok (.istore_n 1, 1) := by decide +kernel
theorem dX6_meet_42 : decode cX6_meet 42 = .ok (.iload_n 1, 1) := by decide +kernel
theorem dX6_meet_43 : decode cX6_meet 43 = .ok (.ifCond .ne 12, 3) := by decide +kernel
theorem dX6_meet_46 : decode cX6_meet 46 = .ok (.aload_n 0, 1) := by decide +kernel
theorem dX6_meet_47 : decode cX6_meet 47 = .ok (.ldc 207, 2) := by decide +kernel
theorem dX6_meet_49 : decode cX6_meet 49 = .ok (.invokevirtual 72, 3) := by decide +kernel
theorem dX6_meet_52 : decode cX6_meet 52 = .ok (.goto 4, 3) := by decide +kernel
theorem dX6_meet_55 : decode cX6_meet 55 = .ok (.iload_n 1, 1) := by decide +kernel
theorem dX6_meet_56 : decode cX6_meet 56 = .ok (.ireturn, 1) := by decide +kernel
theorem dX6_ends_0 : decode cX6_ends 0 = .ok (.aload_n 0, 1) := by decide +kernel
theorem dX6_ends_1 : decode cX6_ends 1 = .ok (.iload_n 1, 1) := by decide +kernel
theorem dX6_ends_2 : decode cX6_ends 2 = .ok (.invokevirtual 208, 3) := by decide +kernel
theorem dX6_ends_5 : decode cX6_ends 5 = .ok (.istore_n 2, 1) := by decide +kernel
theorem dX6_ends_6 : decode cX6_ends 6 = .ok (.iload_n 2, 1) := by decide +kernel
theorem dX6_ends_7 : decode cX6_ends 7 = .ok (.ifCond .eq 9, 3) := by decide +kernel
theorem dX6_ends_10 : decode cX6_ends 10 = .ok (.aload_n 0, 1) := by decide +kernel
theorem dX6_ends_11 : decode cX6_ends 11 = .ok (.iload_n 2, 1) := by decide +kernel
theorem dX6_ends_12 : decode cX6_ends 12 = .ok (.invokevirtual 72, 3) := by decide +kernel
theorem dX6_ends_15 : decode cX6_ends 15 = .ok (.ireturn, 1) := by decide +kernel
theorem dX6_ends_16 : decode cX6_ends 16 = .ok (.aload_n 0, 1) := by decide +kernel
theorem dX6_ends_17 : decode cX6_ends 17 = .ok (.getfield 32, 3) := by decide +kernel
theorem dX6_ends_20 : decode cX6_ends 20 = .ok (.aload_n 0, 1) := by decide +kernel
theorem dX6_ends_21 : decode cX6_ends 21 = .ok (.getfield 12, 3) := by decide +kernel
theorem dX6_ends_24 : decode cX6_ends 24 = .ok (.aload_n 0, 1) := by decide +kernel
theorem dX6_ends_25 : decode cX6_ends 25 = .ok (.getfield 12, 3) := by decide +kernel
theorem dX6_ends_28 : decode cX6_ends 28 = .ok (.getfield 120, 3) := by decide +kernel
theorem dX6_ends_31 : decode cX6_ends 31 = .ok (.iload_n 1, 1) := by decide +kernel
theorem dX6_ends_32 : decode cX6_ends 32 = .ok (.aaload, 1) := by decide +kernel
theorem dX6_ends_33 : decode cX6_ends 33 = .ok (.invokevirtual 211, 3) := by decide +kernel
theorem dX6_ends_36 : decode cX6_ends 36 = .ok (.aload_n 0, 1) := by decide +kernel
theorem dX6_ends_37 : decode cX6_ends 37 = .ok (.getfield 32, 3) := by decide +kernel
theorem dX6_ends_40 : decode cX6_ends 40 = .ok (.invokevirtual 215, 3) := by decide +kernel
theorem dX6_ends_43 : decode cX6_ends 43 = .ok (.ifCond .eq 12, 3) := by decide +kernel
theorem dX6_ends_46 : decode cX6_ends 46 = .ok (.aload_n 0, 1) := by decide +kernel
theorem dX6_ends_47 : decode cX6_ends 47 = .ok (.ldc 207, 2) := by decide +kernel
theorem dX6_ends_49 : decode cX6_ends 49 = .ok (.invokevirtual 72, 3) := by decide +kernel
theorem dX6_ends_52 : decode cX6_ends 52 = .ok (.goto 10, 3) := by decide +kernel
theorem dX6_ends_55 : decode cX6_ends 55 = .ok (.aload_n 0, 1) := by decide +kernel
theorem dX6_ends_56 : decode cX6_ends 56 = .ok (.getfield 32, 3) := by decide +kernel
theorem dX6_ends_59 : decode cX6_ends 59 = .ok (.invokevirtual 218, 3) := by decide +kernel
theorem dX6_ends_62 : decode cX6_ends 62 = .ok (.ireturn, 1) := by decide +kernel
theorem dX6_takes_0 : decode cX6_takes 0 = .ok (.aload_n 0, 1) := by decide +kernel
theorem dX6_takes_1 : decode cX6_takes 1 = .ok (.iload_n 1, 1) := by decide +kernel
theorem dX6_takes_2 : decode cX6_takes 2 = .ok (.invokevirtual 208, 3) := by decide +kernel
theorem dX6_takes_5 : decode cX6_takes 5 = .ok (.istore_n 2, 1) := by decide +kernel
theorem dX6_takes_6 : decode cX6_takes 6 = .ok (.iload_n 2, 1) := by decide +kernel
theorem dX6_takes_7 : decode cX6_takes 7 = .ok (.ifCond .eq 9, 3) := by decide +kernel
theorem dX6_takes_10 : decode cX6_takes 10 = .ok (.aload_n 0, 1) := by decide +kernel
theorem dX6_takes_11 : decode cX6_takes 11 = .ok (.iload_n 2, 1) := by decide +kernel
theorem dX6_takes_12 : decode cX6_takes 12 = .ok (.invokevirtual 72, 3) := by decide +kernel
theorem dX6_takes_15 : decode cX6_takes 15 = .ok (.ireturn, 1) := by decide +kernel
theorem dX6_takes_16 : decode cX6_takes 16 = .ok (.aload_n 0, 1) := by decide +kernel
theorem dX6_takes_17 : decode cX6_takes 17 = .ok (.getfield 32, 3) := by decide +kernel
theorem dX6_takes_20 : decode cX6_takes 20 = .ok (.aload_n 0, 1) := by decide +kernel
theorem dX6_takes_21 : decode cX6_takes 21 = .ok (.getfield 12, 3) := by decide +kernel
theorem dX6_takes_24 : decode cX6_takes 24 = .ok (.aload_n 0, 1) := by decide +kernel
theorem dX6_takes_25 : decode cX6_takes 25 = .ok (.getfield 12, 3) := by decide +kernel
theorem dX6_takes_28 : decode cX6_takes 28 = .ok (.getfield 120, 3) := by decide +kernel
theorem dX6_takes_31 : decode cX6_takes 31 = .ok (.iload_n 1, 1) := by decide +kernel
theorem dX6_takes_32 : decode cX6_takes 32 = .ok (.aaload, 1) := by decide +kernel
theorem dX6_takes_33 : decode cX6_takes 33 = .ok (.invokevirtual 211, 3) := by decide +kernel
theorem dX6_takes_36 : decode cX6_takes 36 = .ok (.aload_n 0, 1) := by decide +kernel
theorem dX6_takes_37 : decode cX6_takes 37 = .ok (.getfield 32, 3) := by decide +kernel
theorem dX6_takes_40 : decode cX6_takes 40 = .ok (.invokevirtual 215, 3) := by decide +kernel
theorem dX6_takes_43 : decode cX6_takes 43 = .ok (.ifCond .eq 12, 3) := by decide +kernel
theorem dX6_takes_46 : decode cX6_takes 46 = .ok (.aload_n 0, 1) := by decide +kernel
theorem dX6_takes_47 : decode cX6_takes 47 = .ok (.ldc 207, 2) := by decide +kernel
theorem dX6_takes_49 : decode cX6_takes 49 = .ok (.invokevirtual 72, 3) := by decide +kernel
theorem dX6_takes_52 : decode cX6_takes 52 = .ok (.goto 10, 3) := by decide +kernel
theorem dX6_takes_55 : decode cX6_takes 55 = .ok (.aload_n 0, 1) := by decide +kernel
theorem dX6_takes_56 : decode cX6_takes 56 = .ok (.getfield 32, 3) := by decide +kernel
theorem dX6_takes_59 : decode cX6_takes 59 = .ok (.getfield 221, 3) := by decide +kernel
theorem dX6_takes_62 : decode cX6_takes 62 = .ok (.ireturn, 1) := by decide +kernel
theorem dX6_speed_0 : decode cX6_speed 0 = .ok (.aload_n 0, 1) := by decide +kernel
theorem dX6_speed_1 : decode cX6_speed 1 = .ok (.iload_n 1, 1) := by decide +kernel
theorem dX6_speed_2 : decode cX6_speed 2 = .ok (.invokevirtual 208, 3) := by decide +kernel
theorem dX6_speed_5 : decode cX6_speed 5 = .ok (.istore_n 2, 1) := by decide +kernel
theorem dX6_speed_6 : decode cX6_speed 6 = .ok (.iload_n 2, 1) := by decide +kernel
theorem dX6_speed_7 : decode cX6_speed 7 = .ok (.ifCond .eq 9, 3) := by decide +kernel
theorem dX6_speed_10 : decode cX6_speed 10 = .ok (.aload_n 0, 1) := by decide +kernel
theorem dX6_speed_11 : decode cX6_speed 11 = .ok (.iload_n 2, 1) := by decide +kernel
theorem dX6_speed_12 : decode cX6_speed 12 = .ok (.invokevirtual 72, 3) := by decide +kernel
theorem dX6_speed_15 : decode cX6_speed 15 = .ok (.ireturn, 1) := by decide +kernel
theorem dX6_speed_16 : decode cX6_speed 16 = .ok (.aload_n 0, 1) := by decide +kernel
theorem dX6_speed_17 : decode cX6_speed 17 = .ok (.getfield 32, 3) := by decide +kernel
theorem dX6_speed_20 : decode cX6_speed 20 = .ok (.aload_n 0, 1) := by decide +kernel
theorem dX6_speed_21 : decode cX6_speed 21 = .ok (.getfield 12, 3) := by decide +kernel
theorem dX6_speed_24 : decode cX6_speed 24 = .ok (.aload_n 0, 1) := by decide +kernel
theorem dX6_speed_25 : decode cX6_speed 25 = .ok (.getfield 12, 3) := by decide +kernel
theorem dX6_speed_28 : decode cX6_speed 28 = .ok (.getfield 120, 3) := by decide +kernel
theorem dX6_speed_31 : decode cX6_speed 31 = .ok (.iload_n 1, 1) := by decide +kernel
theorem dX6_speed_32 : decode cX6_speed 32 = .ok (.aaload, 1) := by decide +kernel
theorem dX6_speed_33 : decode cX6_speed 33 = .ok (.invokevirtual 211, 3) := by decide +kernel
theorem dX6_speed_36 : decode cX6_speed 36 = .ok (.aload_n 0, 1) := by decide +kernel
theorem dX6_speed_37 : decode cX6_speed 37 = .ok (.getfield 32, 3) := by decide +kernel
theorem dX6_speed_40 : decode cX6_speed 40 = .ok (.getfield 224, 3) := by decide +kernel
theorem dX6_speed_43 : decode cX6_speed 43 = .ok (.ireturn, 1) := by decide +kernel
theorem dX6_seen_0 : decode cX6_seen 0 = .ok (.aload_n 0, 1) := by decide +kernel
theorem dX6_seen_1 : decode cX6_seen 1 = .ok (.iload_n 1, 1) := by decide +kernel
theorem dX6_seen_2 : decode cX6_seen 2 = .ok (.invokevirtual 208, 3) := by decide +kernel
theorem dX6_seen_5 : decode cX6_seen 5 = .ok (.istore_n 2, 1) := by decide +kernel
theorem dX6_seen_6 : decode cX6_seen 6 = .ok (.iload_n 2, 1) := by decide +kernel
theorem dX6_seen_7 : decode cX6_seen 7 = .ok (.ifCond .eq 9, 3) := by decide +kernel
theorem dX6_seen_10 : decode cX6_seen 10 = .ok (.aload_n 0, 1) := by decide +kernel
theorem dX6_seen_11 : decode cX6_seen 11 = .ok (.iload_n 2, 1) := by decide +kernel
theorem dX6_seen_12 : decode cX6_seen 12 = .ok (.invokevirtual 72, 3) := by decide +kernel
theorem dX6_seen_15 : decode cX6_seen 15 = .ok (.ireturn, 1) := by decide +kernel
theorem dX6_seen_16 : decode cX6_seen 16 = .ok (.aload_n 0, 1) := by decide +kernel
theorem dX6_seen_17 : decode cX6_seen 17 = .ok (.getfield 32, 3) := by decide +kernel
theorem dX6_seen_20 : decode cX6_seen 20 = .ok (.aload_n 0, 1) := by decide +kernel
theorem dX6_seen_21 : decode cX6_seen 21 = .ok (.getfield 12, 3) := by decide +kernel
theorem dX6_seen_24 : decode cX6_seen 24 = .ok (.aload_n 0, 1) := by decide +kernel
theorem dX6_seen_25 : decode cX6_seen 25 = .ok (.getfield 12, 3) := by decide +kernel
theorem dX6_seen_28 : decode cX6_seen 28 = .ok (.getfield 120, 3) := by decide +kernel
theorem dX6_seen_31 : decode cX6_seen 31 = .ok (.iload_n 1, 1) := by decide +kernel
theorem dX6_seen_32 : decode cX6_seen 32 = .ok (.aaload, 1) := by decide +kernel
theorem dX6_seen_33 : decode cX6_seen 33 = .ok (.invokevirtual 211, 3) := by decide +kernel
theorem dX6_seen_36 : decode cX6_seen 36 = .ok (.aload_n 0, 1) := by decide +kernel
theorem dX6_seen_37 : decode cX6_seen 37 = .ok (.getfield 32, 3) := by decide +kernel
theorem dX6_seen_40 : decode cX6_seen 40 = .ok (.getfield 227, 3) := by decide +kernel
theorem dX6_seen_43 : decode cX6_seen 43 = .ok (.ireturn, 1) := by decide +kernel
theorem dX6_sand_0 : decode cX6_sand 0 = .ok (.iload_n 2, 1) := by decide +kernel
theorem dX6_sand_1 : decode cX6_sand 1 = .ok (.invokestatic 64, 3) := by decide +kernel
theorem dX6_sand_4 : decode cX6_sand 4 = .ok (.ifCond .ne 10, 3) := by decide +kernel
theorem dX6_sand_7 : decode cX6_sand 7 = .ok (.aload_n 0, 1) := by decide +kernel
theorem dX6_sand_8 : decode cX6_sand 8 = .ok (.ldc 71, 2) := by decide +kernel
theorem dX6_sand_10 : decode cX6_sand 10 = .ok (.invokevirtual 72, 3) := by decide +kernel
theorem dX6_sand_13 : decode cX6_sand 13 = .ok (.ireturn, 1) := by decide +kernel
theorem dX6_sand_14 : decode cX6_sand 14 = .ok (.aload_n 0, 1) := by decide +kernel
theorem dX6_sand_15 : decode cX6_sand 15 = .ok (.iload_n 1, 1) := by decide +kernel
theorem dX6_sand_16 : decode cX6_sand 16 = .ok (.invokevirtual 208, 3) := by decide +kernel
theorem dX6_sand_19 : decode cX6_sand 19 = .ok (.istore_n 3, 1) := by decide +kernel
theorem dX6_sand_20 : decode cX6_sand 20 = .ok (.iload_n 3, 1) := by decide +kernel
theorem dX6_sand_21 : decode cX6_sand 21 = .ok (.ifCond .eq 9, 3) := by decide +kernel
theorem dX6_sand_24 : decode cX6_sand 24 = .ok (.aload_n 0, 1) := by decide +kernel
theorem dX6_sand_25 : decode cX6_sand 25 = .ok (.iload_n 3, 1) := by decide +kernel
theorem dX6_sand_26 : decode cX6_sand 26 = .ok (.invokevirtual 72, 3) := by decide +kernel
theorem dX6_sand_29 : decode cX6_sand 29 = .ok (.ireturn, 1) := by decide +kernel
theorem dX6_sand_30 : decode cX6_sand 30 = .ok (.iconst 0, 1) := by decide +kernel
theorem dX6_sand_31 : decode cX6_sand 31 = .ok (.istore 4, 2) := by decide +kernel
theorem dX6_sand_33 : decode cX6_sand 33 = .ok (.iload 4, 2) := by decide +kernel
theorem dX6_sand_35 : decode cX6_sand 35 = .ok (.bipush 31, 2) := by decide +kernel
theorem dX6_sand_37 : decode cX6_sand 37 = .ok (.if_icmp .ge 31, 3) := by decide +kernel
theorem dX6_sand_40 : decode cX6_sand 40 = .ok (.aload_n 0, 1) := by decide +kernel
theorem dX6_sand_41 : decode cX6_sand 41 = .ok (.iload_n 1, 1) := by decide +kernel
theorem dX6_sand_42 : decode cX6_sand 42 = .ok (.iload 4, 2) := by decide +kernel
theorem dX6_sand_44 : decode cX6_sand 44 = .ok (.iconst 1, 1) := by decide +kernel
theorem dX6_sand_45 : decode cX6_sand 45 = .ok (.invokevirtual 230, 3) := by decide +kernel
theorem dX6_sand_48 : decode cX6_sand 48 = .ok (.aload_n 0, 1) := by decide +kernel
theorem dX6_sand_49 : decode cX6_sand 49 = .ok (.getfield 32, 3) := by decide +kernel
theorem dX6_sand_52 : decode cX6_sand 52 = .ok (.iload_n 2, 1) := by decide +kernel
theorem dX6_sand_53 : decode cX6_sand 53 = .ok (.invokevirtual 234, 3) := by decide +kernel
theorem dX6_sand_56 : decode cX6_sand 56 = .ok (.ifCond .eq 6, 3) := by decide +kernel
theorem dX6_sand_59 : decode cX6_sand 59 = .ok (.iload 4, 2) := by decide +kernel
theorem dX6_sand_61 : decode cX6_sand 61 = .ok (.ireturn, 1) := by decide +kernel
theorem dX6_sand_62 : decode cX6_sand 62 = .ok (.iinc 4 1, 3) := by decide +kernel
theorem dX6_sand_65 : decode cX6_sand 65 = .ok (.goto (-32), 3) := by decide +kernel
theorem dX6_sand_68 : decode cX6_sand 68 = .ok (.aload_n 0, 1) := by decide +kernel
theorem dX6_sand_69 : decode cX6_sand 69 = .ok (.ldc 207, 2) := by decide +kernel
theorem dX6_sand_71 : decode cX6_sand 71 = .ok (.invokevirtual 72, 3) := by decide +kernel
theorem dX6_sand_74 : decode cX6_sand 74 = .ok (.ireturn, 1) := by decide +kernel
theorem dX6_rollsFor_0 : decode cX6_rollsFor 0 = .ok (.aload_n 0, 1) := by decide +kernel
theorem dX6_rollsFor_1 : decode cX6_rollsFor 1 = .ok (.iload_n 1, 1) := by decide +kernel
theorem dX6_rollsFor_2 : decode cX6_rollsFor 2 = .ok (.invokevirtual 208, 3) := by decide +kernel
theorem dX6_rollsFor_5 : decode cX6_rollsFor 5 = .ok (.istore_n 2, 1) := by decide +kernel
theorem dX6_rollsFor_6 : decode cX6_rollsFor 6 = .ok (.iload_n 2, 1) := by decide +kernel
theorem dX6_rollsFor_7 : decode cX6_rollsFor 7 = .ok (.ifCond .eq 9, 3) := by decide +kernel
theorem dX6_rollsFor_10 : decode cX6_rollsFor 10 = .ok (.aload_n 0, 1) := by decide +kernel
theorem dX6_rollsFor_11 : decode cX6_rollsFor 11 = .ok (.iload_n 2, 1) := by decide +kernel
theorem dX6_rollsFor_12 : decode cX6_rollsFor 12 = .ok (.invokevirtual 72, 3) := by decide +kernel
theorem dX6_rollsFor_15 : decode cX6_rollsFor 15 = .ok (.ireturn, 1) := by decide +kernel
theorem dX6_rollsFor_16 : decode cX6_rollsFor 16 = .ok (.aload_n 0, 1) := by decide +kernel
theorem dX6_rollsFor_17 : decode cX6_rollsFor 17 = .ok (.getfield 23, 3) := by decide +kernel
theorem dX6_rollsFor_20 : decode cX6_rollsFor 20 = .ok (.aload_n 0, 1) := by decide +kernel
theorem dX6_rollsFor_21 : decode cX6_rollsFor 21 = .ok (.getfield 12, 3) := by decide +kernel
theorem dX6_rollsFor_24 : decode cX6_rollsFor 24 = .ok (.invokevirtual 194, 3) := by decide +kernel
theorem dX6_rollsFor_27 : decode cX6_rollsFor 27 = .ok (.iconst 1, 1) := by decide +kernel
theorem dX6_rollsFor_28 : decode cX6_rollsFor 28 = .ok (.istore_n 3, 1) := by decide +kernel
theorem dX6_rollsFor_29 : decode cX6_rollsFor 29 = .ok (.iload_n 3, 1) := by decide +kernel
theorem dX6_rollsFor_30 : decode cX6_rollsFor 30 = .ok (.bipush 9, 2) := by decide +kernel
theorem dX6_rollsFor_32 : decode cX6_rollsFor 32 = .ok (.if_icmp .gt 56, 3) := by decide +kernel
theorem dX6_rollsFor_35 : decode cX6_rollsFor 35 = .ok (.aload_n 0, 1) := by decide +kernel
theorem dX6_rollsFor_36 : decode cX6_rollsFor 36 = .ok (.getfield 23, 3) := by decide +kernel
theorem dX6_rollsFor_39 : decode cX6_rollsFor 39 = .ok (.getfield 120, 3) := by decide +kernel
theorem dX6_rollsFor_42 : decode cX6_rollsFor 42 = .ok (.iload_n 1, 1) := by decide +kernel
theorem dX6_rollsFor_43 : decode cX6_rollsFor 43 = .ok (.aaload, 1) := by decide +kernel
theorem dX6_rollsFor_44 : decode cX6_rollsFor 44 = .ok (.iload_n 3, 1) := by decide +kernel
theorem dX6_rollsFor_45 : decode cX6_rollsFor 45 = .ok (.putfield 132, 3) := by decide +kernel
theorem dX6_rollsFor_48 : decode cX6_rollsFor 48 = .ok (.aload_n 0, 1) := by decide +kernel
theorem dX6_rollsFor_49 : decode cX6_rollsFor 49 = .ok (.getfield 32, 3) := by decide +kernel
theorem dX6_rollsFor_52 : decode cX6_rollsFor 52 = .ok (.aload_n 0, 1) := by decide +kernel
theorem dX6_rollsFor_53 : decode cX6_rollsFor 53 = .ok (.getfield 23, 3) := by decide +kernel
theorem dX6_rollsFor_56 : decode cX6_rollsFor 56 = .ok (.aload_n 0, 1) := by decide +kernel
theorem dX6_rollsFor_57 : decode cX6_rollsFor 57 = .ok (.getfield 23, 3) := by decide +kernel
theorem dX6_rollsFor_60 : decode cX6_rollsFor 60 = .ok (.getfield 120, 3) := by decide +kernel
theorem dX6_rollsFor_63 : decode cX6_rollsFor 63 = .ok (.iload_n 1, 1) := by decide +kernel
theorem dX6_rollsFor_64 : decode cX6_rollsFor 64 = .ok (.aaload, 1) := by decide +kernel
theorem dX6_rollsFor_65 : decode cX6_rollsFor 65 = .ok (.invokevirtual 211, 3) := by decide +kernel
theorem dX6_rollsFor_68 : decode cX6_rollsFor 68 = .ok (.aload_n 0, 1) := by decide +kernel
theorem dX6_rollsFor_69 : decode cX6_rollsFor 69 = .ok (.getfield 32, 3) := by decide +kernel
theorem dX6_rollsFor_72 : decode cX6_rollsFor 72 = .ok (.bipush 30, 2) := by decide +kernel
theorem dX6_rollsFor_74 : decode cX6_rollsFor 74 = .ok (.invokevirtual 234, 3) := by decide +kernel
theorem dX6_rollsFor_77 : decode cX6_rollsFor 77 = .ok (.ifCond .eq 5, 3) := by decide +kernel
theorem dX6_rollsFor_80 : decode cX6_rollsFor 80 = .ok (.iload_n 3, 1) := by decide +kernel
theorem dX6_rollsFor_81 : decode cX6_rollsFor 81 = .ok (.ireturn, 1) := by decide +kernel
theorem dX6_rollsFor_82 : decode cX6_rollsFor 82 = .ok (.iinc 3 1, 3) := by decide +kernel
theorem dX6_rollsFor_85 : decode cX6_rollsFor 85 = .ok (.goto (-56), 3) := by decide +kernel
theorem dX6_rollsFor_88 : decode cX6_rollsFor 88 = .ok (.aload_n 0, 1) := by decide +kernel
theorem dX6_rollsFor_89 : decode cX6_rollsFor 89 = .ok (.ldc 207, 2) := by decide +kernel
theorem dX6_rollsFor_91 : decode cX6_rollsFor 91 = .ok (.invokevirtual 72, 3) := by decide +kernel
theorem dX6_rollsFor_94 : decode cX6_rollsFor 94 = .ok (.ireturn, 1) := by decide +kernel
theorem dX6_matters_0 : decode cX6_matters 0 = .ok (.aload_n 0, 1) := by decide +kernel
theorem dX6_matters_1 : decode cX6_matters 1 = .ok (.iload_n 1, 1) := by decide +kernel
theorem dX6_matters_2 : decode cX6_matters 2 = .ok (.invokevirtual 208, 3) := by decide +kernel
theorem dX6_matters_5 : decode cX6_matters 5 = .ok (.istore_n 2, 1) := by decide +kernel
theorem dX6_matters_6 : decode cX6_matters 6 = .ok (.iload_n 2, 1) := by decide +kernel
theorem dX6_matters_7 : decode cX6_matters 7 = .ok (.ifCond .eq 9, 3) := by decide +kernel
theorem dX6_matters_10 : decode cX6_matters 10 = .ok (.aload_n 0, 1) := by decide +kernel
theorem dX6_matters_11 : decode cX6_matters 11 = .ok (.iload_n 2, 1) := by decide +kernel
theorem dX6_matters_12 : decode cX6_matters 12 = .ok (.invokevirtual 72, 3) := by decide +kernel
theorem dX6_matters_15 : decode cX6_matters 15 = .ok (.ireturn, 1) := by decide +kernel
theorem dX6_matters_16 : decode cX6_matters 16 = .ok (.aload_n 0, 1) := by decide +kernel
theorem dX6_matters_17 : decode cX6_matters 17 = .ok (.getfield 32, 3) := by decide +kernel
theorem dX6_matters_20 : decode cX6_matters 20 = .ok (.aload_n 0, 1) := by decide +kernel
theorem dX6_matters_21 : decode cX6_matters 21 = .ok (.getfield 12, 3) := by decide +kernel
theorem dX6_matters_24 : decode cX6_matters 24 = .ok (.aload_n 0, 1) := by decide +kernel
theorem dX6_matters_25 : decode cX6_matters 25 = .ok (.getfield 12, 3) := by decide +kernel
theorem dX6_matters_28 : decode cX6_matters 28 = .ok (.getfield 120, 3) := by decide +kernel
theorem dX6_matters_31 : decode cX6_matters 31 = .ok (.iload_n 1, 1) := by decide +kernel
theorem dX6_matters_32 : decode cX6_matters 32 = .ok (.aaload, 1) := by decide +kernel
theorem dX6_matters_33 : decode cX6_matters 33 = .ok (.invokevirtual 211, 3) := by decide +kernel
theorem dX6_matters_36 : decode cX6_matters 36 = .ok (.aload_n 0, 1) := by decide +kernel
theorem dX6_matters_37 : decode cX6_matters 37 = .ok (.getfield 32, 3) := by decide +kernel
theorem dX6_matters_40 : decode cX6_matters 40 = .ok (.invokevirtual 218, 3) := by decide +kernel
theorem dX6_matters_43 : decode cX6_matters 43 = .ok (.istore_n 3, 1) := by decide +kernel
theorem dX6_matters_44 : decode cX6_matters 44 = .ok (.iconst 0, 1) := by decide +kernel
theorem dX6_matters_45 : decode cX6_matters 45 = .ok (.istore 4, 2) := by decide +kernel
theorem dX6_matters_47 : decode cX6_matters 47 = .ok (.iconst 0, 1) := by decide +kernel
theorem dX6_matters_48 : decode cX6_matters 48 = .ok (.istore 5, 2) := by decide +kernel
theorem dX6_matters_50 : decode cX6_matters 50 = .ok (.iload 5, 2) := by decide +kernel
theorem dX6_matters_52 : decode cX6_matters 52 = .ok (.bipush 31, 2) := by decide +kernel
theorem dX6_matters_54 : decode cX6_matters 54 = .ok (.if_icmp .ge 37, 3) := by decide +kernel
theorem dX6_matters_57 : decode cX6_matters 57 = .ok (.aload_n 0, 1) := by decide +kernel
theorem dX6_matters_58 : decode cX6_matters 58 = .ok (.iload_n 1, 1) := by decide +kernel
theorem dX6_matters_59 : decode cX6_matters 59 = .ok (.iload 5, 2) := by decide +kernel
theorem dX6_matters_61 : decode cX6_matters 61 = .ok (.iconst 0, 1) := by decide +kernel
theorem dX6_matters_62 : decode cX6_matters 62 = .ok (.invokevirtual 230, 3) := by decide +kernel
theorem dX6_matters_65 : decode cX6_matters 65 = .ok (.aload_n 0, 1) := by decide +kernel
theorem dX6_matters_66 : decode cX6_matters 66 = .ok (.getfield 32, 3) := by decide +kernel
theorem dX6_matters_69 : decode cX6_matters 69 = .ok (.invokevirtual 218, 3) := by decide +kernel
theorem dX6_matters_72 : decode cX6_matters 72 = .ok (.iload_n 3, 1) := by decide +kernel
theorem dX6_matters_73 : decode cX6_matters 73 = .ok (.if_icmp .eq 12, 3) := by decide +kernel
theorem dX6_matters_76 : decode cX6_matters 76 = .ok (.iload 4, 2) := by decide +kernel
theorem dX6_matters_78 : decode cX6_matters 78 = .ok (.iconst 1, 1) := by decide +kernel
theorem dX6_matters_79 : decode cX6_matters 79 = .ok (.iload 5, 2) := by decide +kernel
theorem dX6_matters_81 : decode cX6_matters 81 = .ok (.ishl, 1) := by decide +kernel
theorem dX6_matters_82 : decode cX6_matters 82 = .ok (.ior, 1) := by decide +kernel
theorem dX6_matters_83 : decode cX6_matters 83 = .ok (.istore 4, 2) := by decide +kernel
theorem dX6_matters_85 : decode cX6_matters 85 = .ok (.iinc 5 1, 3) := by decide +kernel
theorem dX6_matters_88 : decode cX6_matters 88 = .ok (.goto (-38), 3) := by decide +kernel
theorem dX6_matters_91 : decode cX6_matters 91 = .ok (.iload 4, 2) := by decide +kernel
theorem dX6_matters_93 : decode cX6_matters 93 = .ok (.ireturn, 1) := by decide +kernel
theorem dX6_kindFor_0 : decode cX6_kindFor 0 = .ok (.aload_n 0, 1) := by decide +kernel
theorem dX6_kindFor_1 : decode cX6_kindFor 1 = .ok (.iload_n 1, 1) := by decide +kernel
theorem dX6_kindFor_2 : decode cX6_kindFor 2 = .ok (.invokevirtual 208, 3) := by decide +kernel
theorem dX6_kindFor_5 : decode cX6_kindFor 5 = .ok (.istore_n 2, 1) := by decide +kernel
theorem dX6_kindFor_6 : decode cX6_kindFor 6 = .ok (.iload_n 2, 1) := by decide +kernel
theorem dX6_kindFor_7 : decode cX6_kindFor 7 = .ok (.ifCond .eq 9, 3) := by decide +kernel
theorem dX6_kindFor_10 : decode cX6_kindFor 10 = .ok (.aload_n 0, 1) := by decide +kernel
theorem dX6_kindFor_11 : decode cX6_kindFor 11 = .ok (.iload_n 2, 1) := by decide +kernel
theorem dX6_kindFor_12 : decode cX6_kindFor 12 = .ok (.invokevirtual 72, 3) := by decide +kernel
theorem dX6_kindFor_15 : decode cX6_kindFor 15 = .ok (.ireturn, 1) := by decide +kernel
theorem dX6_kindFor_16 : decode cX6_kindFor 16 = .ok (.aload_n 0, 1) := by decide +kernel
theorem dX6_kindFor_17 : decode cX6_kindFor 17 = .ok (.getfield 23, 3) := by decide +kernel
theorem dX6_kindFor_20 : decode cX6_kindFor 20 = .ok (.aload_n 0, 1) := by decide +kernel
theorem dX6_kindFor_21 : decode cX6_kindFor 21 = .ok (.getfield 12, 3) := by decide +kernel
theorem dX6_kindFor_24 : decode cX6_kindFor 24 = .ok (.invokevirtual 194, 3) := by decide +kernel
theorem dX6_kindFor_27 : decode cX6_kindFor 27 = .ok (.iconst 0, 1) := by decide +kernel
theorem dX6_kindFor_28 : decode cX6_kindFor 28 = .ok (.istore_n 3, 1) := by decide +kernel
theorem dX6_kindFor_29 : decode cX6_kindFor 29 = .ok (.bipush (-2), 2) := by decide +kernel
theorem dX6_kindFor_31 : decode cX6_kindFor 31 = .ok (.istore 4, 2) := by decide +kernel
theorem dX6_kindFor_33 : decode cX6_kindFor 33 = .ok (.iconst 0, 1) := by decide +kernel
theorem dX6_kindFor_34 : decode cX6_kindFor 34 = .ok (.istore 5, 2) := by decide +kernel
theorem dX6_kindFor_36 : decode cX6_kindFor 36 = .ok (.iload 5, 2) := by decide +kernel
theorem dX6_kindFor_38 : decode cX6_kindFor 38 = .ok (.bipush 7, 2) := by decide +kernel
theorem dX6_kindFor_40 : decode cX6_kindFor 40 = .ok (.if_icmp .ge 67, 3) := by decide +kernel
theorem dX6_kindFor_43 : decode cX6_kindFor 43 = .ok (.aload_n 0, 1) := by decide +kernel
theorem dX6_kindFor_44 : decode cX6_kindFor 44 = .ok (.getfield 23, 3) := by decide +kernel
theorem dX6_kindFor_47 : decode cX6_kindFor 47 = .ok (.getfield 120, 3) := by decide +kernel
theorem dX6_kindFor_50 : decode cX6_kindFor 50 = .ok (.iload_n 1, 1) := by decide +kernel
theorem dX6_kindFor_51 : decode cX6_kindFor 51 = .ok (.aaload, 1) := by decide +kernel
theorem dX6_kindFor_52 : decode cX6_kindFor 52 = .ok (.iload 5, 2) := by decide +kernel
theorem dX6_kindFor_54 : decode cX6_kindFor 54 = .ok (.putfield 124, 3) := by decide +kernel
theorem dX6_kindFor_57 : decode cX6_kindFor 57 = .ok (.aload_n 0, 1) := by decide +kernel
theorem dX6_kindFor_58 : decode cX6_kindFor 58 = .ok (.getfield 32, 3) := by decide +kernel
theorem dX6_kindFor_61 : decode cX6_kindFor 61 = .ok (.aload_n 0, 1) := by decide +kernel
theorem dX6_kindFor_62 : decode cX6_kindFor 62 = .ok (.getfield 23, 3) := by decide +kernel
theorem dX6_kindFor_65 : decode cX6_kindFor 65 = .ok (.aload_n 0, 1) := by decide +kernel
theorem dX6_kindFor_66 : decode cX6_kindFor 66 = .ok (.getfield 23, 3) := by decide +kernel
theorem dX6_kindFor_69 : decode cX6_kindFor 69 = .ok (.getfield 120, 3) := by decide +kernel
theorem dX6_kindFor_72 : decode cX6_kindFor 72 = .ok (.iload_n 1, 1) := by decide +kernel
theorem dX6_kindFor_73 : decode cX6_kindFor 73 = .ok (.aaload, 1) := by decide +kernel
theorem dX6_kindFor_74 : decode cX6_kindFor 74 = .ok (.invokevirtual 211, 3) := by decide +kernel
theorem dX6_kindFor_77 : decode cX6_kindFor 77 = .ok (.aload_n 0, 1) := by decide +kernel
theorem dX6_kindFor_78 : decode cX6_kindFor 78 = .ok (.getfield 32, 3) := by decide +kernel
theorem dX6_kindFor_81 : decode cX6_kindFor 81 = .ok (.invokevirtual 218, 3) := by decide +kernel
theorem dX6_kindFor_84 : decode cX6_kindFor 84 = .ok (.iload 4, 2) := by decide +kernel
theorem dX6_kindFor_86 : decode cX6_kindFor 86 = .ok (.if_icmp .le 15, 3) := by decide +kernel
theorem dX6_kindFor_89 : decode cX6_kindFor 89 = .ok (.aload_n 0, 1) := by decide +kernel
theorem dX6_kindFor_90 : decode cX6_kindFor 90 = .ok (.getfield 32, 3) := by decide +kernel
theorem dX6_kindFor_93 : decode cX6_kindFor 93 = .ok (.invokevirtual 218, 3) := by decide +kernel
theorem dX6_kindFor_96 : decode cX6_kindFor 96 = .ok (.istore 4, 2) := by decide +kernel
theorem dX6_kindFor_98 : decode cX6_kindFor 98 = .ok (.iload 5, 2) := by decide +kernel
theorem dX6_kindFor_100 : decode cX6_kindFor 100 = .ok (.istore_n 3, 1) := by decide +kernel
theorem dX6_kindFor_101 : decode cX6_kindFor 101 = .ok (.iinc 5 1, 3) := by decide +kernel
theorem dX6_kindFor_104 : decode cX6_kindFor 104 = .ok (.goto (-68), 3) := by decide +kernel
theorem dX6_kindFor_107 : decode cX6_kindFor 107 = .ok (.iload_n 3, 1) := by decide +kernel
theorem dX6_kindFor_108 : decode cX6_kindFor 108 = .ok (.ireturn, 1) := by decide +kernel
theorem dX6_wait_0 : decode cX6_wait 0 = .ok (.aload_n 0, 1) := by decide +kernel
theorem dX6_wait_1 : decode cX6_wait 1 = .ok (.iload_n 1, 1) := by decide +kernel
theorem dX6_wait_2 : decode cX6_wait 2 = .ok (.invokevirtual 117, 3) := by decide +kernel
theorem dX6_wait_5 : decode cX6_wait 5 = .ok (.ifCond .ne 10, 3) := by decide +kernel
theorem dX6_wait_8 : decode cX6_wait 8 = .ok (.aload_n 0, 1) := by decide +kernel
theorem dX6_wait_9 : decode cX6_wait 9 = .ok (.ldc 71, 2) := by decide +kernel
theorem dX6_wait_11 : decode cX6_wait 11 = .ok (.invokevirtual 72, 3) := by decide +kernel
theorem dX6_wait_14 : decode cX6_wait 14 = .ok (.ireturn, 1) := by decide +kernel
theorem dX6_wait_15 : decode cX6_wait 15 = .ok (.aload_n 0, 1) := by decide +kernel
theorem dX6_wait_16 : decode cX6_wait 16 = .ok (.getfield 12, 3) := by decide +kernel
theorem dX6_wait_19 : decode cX6_wait 19 = .ok (.getfield 120, 3) := by decide +kernel
theorem dX6_wait_22 : decode cX6_wait 22 = .ok (.iload_n 1, 1) := by decide +kernel
theorem dX6_wait_23 : decode cX6_wait 23 = .ok (.aaload, 1) := by decide +kernel
theorem dX6_wait_24 : decode cX6_wait 24 = .ok (.invokevirtual 166, 3) := by decide +kernel
theorem dX6_wait_27 : decode cX6_wait 27 = .ok (.ifCond .eq 10, 3) := by decide +kernel
theorem dX6_wait_30 : decode cX6_wait 30 = .ok (.aload_n 0, 1) := by decide +kernel
theorem dX6_wait_31 : decode cX6_wait 31 = .ok (.invokevirtual 237, 3) := by decide +kernel
theorem dX6_wait_34 : decode cX6_wait 34 = .ok (.ifCond .eq 10, 3) := by decide +kernel
theorem dX6_wait_37 : decode cX6_wait 37 = .ok (.aload_n 0, 1) := by decide +kernel
theorem dX6_wait_38 : decode cX6_wait 38 = .ok (.ldc 169, 2) := by decide +kernel
theorem dX6_wait_40 : decode cX6_wait 40 = .ok (.invokevirtual 72, 3) := by decide +kernel
theorem dX6_wait_43 : decode cX6_wait 43 = .ok (.ireturn, 1) := by decide +kernel
theorem dX6_wait_44 : decode cX6_wait 44 = .ok (.aload_n 0, 1) := by decide +kernel
theorem dX6_wait_45 : decode cX6_wait 45 = .ok (.getfield 23, 3) := by decide +kernel
theorem dX6_wait_48 : decode cX6_wait 48 = .ok (.aload_n 0, 1) := by decide +kernel
theorem dX6_wait_49 : decode cX6_wait 49 = .ok (.getfield 12, 3) := by decide +kernel
theorem dX6_wait_52 : decode cX6_wait 52 = .ok (.invokevirtual 194, 3) := by decide +kernel
theorem dX6_wait_55 : decode cX6_wait 55 = .ok (.iconst 0, 1) := by decide +kernel
theorem dX6_wait_56 : decode cX6_wait 56 = .ok (.istore_n 2, 1) := by decide +kernel
theorem dX6_wait_57 : decode cX6_wait 57 = .ok (.iload_n 2, 1) := by decide +kernel
theorem dX6_wait_58 : decode cX6_wait 58 = .ok (.bipush 59, 2) := by decide +kernel
theorem dX6_wait_60 : decode cX6_wait 60 = .ok (.if_icmp .gt 57, 3) := by decide +kernel
theorem dX6_wait_63 : decode cX6_wait 63 = .ok (.aload_n 0, 1) := by decide +kernel
theorem dX6_wait_64 : decode cX6_wait 64 = .ok (.getfield 26, 3) := by decide +kernel
theorem dX6_wait_67 : decode cX6_wait 67 = .ok (.aload_n 0, 1) := by decide +kernel
theorem dX6_wait_68 : decode cX6_wait 68 = .ok (.getfield 23, 3) := by decide +kernel
theorem dX6_wait_71 : decode cX6_wait 71 = .ok (.invokevirtual 194, 3) := by decide +kernel
theorem dX6_wait_74 : decode cX6_wait 74 = .ok (.aload_n 0, 1) := by decide +kernel
theorem dX6_wait_75 : decode cX6_wait 75 = .ok (.getfield 26, 3) := by decide +kernel
theorem dX6_wait_78 : decode cX6_wait 78 = .ok (.getfield 120, 3) := by decide +kernel
theorem dX6_wait_81 : decode cX6_wait 81 = .ok (.iload_n 1, 1) := by decide +kernel
theorem dX6_wait_82 : decode cX6_wait 82 = .ok (.aaload, 1) := by decide +kernel
theorem dX6_wait_83 : decode cX6_wait 83 = .ok (.bipush 10, 2) := by decide +kernel
theorem dX6_wait_85 : decode cX6_wait 85 = .ok (.invokevirtual 170, 3) := by decide +kernel
theorem dX6_wait_88 : decode cX6_wait 88 = .ok (.aload_n 0, 1) := by decide +kernel
theorem dX6_wait_89 : decode cX6_wait 89 = .ok (.getfield 26, 3) := by decide +kernel
theorem dX6_wait_92 : decode cX6_wait 92 = .ok (.sipush 200, 3) := by decide +kernel
theorem dX6_wait_95 : decode cX6_wait 95 = .ok (.invokevirtual 204, 3) := by decide +kernel
theorem dX6_wait_98 : decode cX6_wait 98 = .ok (.ifCond .ne 5, 3) := by decide +kernel
theorem dX6_wait_101 : decode cX6_wait 101 = .ok (.iload_n 2, 1) := by decide +kernel
theorem dX6_wait_102 : decode cX6_wait 102 = .ok (.ireturn, 1) := by decide +kernel
theorem dX6_wait_103 : decode cX6_wait 103 = .ok (.aload_n 0, 1) := by decide +kernel
theorem dX6_wait_104 : decode cX6_wait 104 = .ok (.getfield 23, 3) := by decide +kernel
theorem dX6_wait_107 : decode cX6_wait 107 = .ok (.invokevirtual 240, 3) := by decide +kernel
theorem dX6_wait_110 : decode cX6_wait 110 = .ok (.pop, 1) := by decide +kernel
theorem dX6_wait_111 : decode cX6_wait 111 = .ok (.iinc 2 1, 3) := by decide +kernel
theorem dX6_wait_114 : decode cX6_wait 114 = .ok (.goto (-57), 3) := by decide +kernel
theorem dX6_wait_117 : decode cX6_wait 117 = .ok (.aload_n 0, 1) := by decide +kernel
theorem dX6_wait_118 : decode cX6_wait 118 = .ok (.ldc 207, 2) := by decide +kernel
theorem dX6_wait_120 : decode cX6_wait 120 = .ok (.invokevirtual 72, 3) := by decide +kernel
theorem dX6_wait_123 : decode cX6_wait 123 = .ok (.ireturn, 1) := by decide +kernel
theorem dX6_behind_0 : decode cX6_behind 0 = .ok (.aload_n 0, 1) := by decide +kernel
theorem dX6_behind_1 : decode cX6_behind 1 = .ok (.iload_n 1, 1) := by decide +kernel
theorem dX6_behind_2 : decode cX6_behind 2 = .ok (.invokevirtual 117, 3) := by decide +kernel
theorem dX6_behind_5 : decode cX6_behind 5 = .ok (.ifCond .eq 16, 3) := by decide +kernel
theorem dX6_behind_8 : decode cX6_behind 8 = .ok (.aload_n 0, 1) := by decide +kernel
theorem dX6_behind_9 : decode cX6_behind 9 = .ok (.iload_n 2, 1) := by decide +kernel
theorem dX6_behind_10 : decode cX6_behind 10 = .ok (.invokevirtual 117, 3) := by decide +kernel
theorem dX6_behind_13 : decode cX6_behind 13 = .ok (.ifCond .eq 8, 3) := by decide +kernel
theorem dX6_behind_16 : decode cX6_behind 16 = .ok (.iload_n 1, 1) := by decide +kernel
theorem dX6_behind_17 : decode cX6_behind 17 = .ok (.iload_n 2, 1) := by decide +kernel
theorem dX6_behind_18 : decode cX6_behind 18 = .ok (.if_icmp .ne 10, 3) := by decide +kernel
theorem dX6_behind_21 : decode cX6_behind 21 = .ok (.aload_n 0, 1) := by decide +kernel
theorem dX6_behind_22 : decode cX6_behind 22 = .ok (.ldc 71, 2) := by decide +kernel
theorem dX6_behind_24 : decode cX6_behind 24 = .ok (.invokevirtual 72, 3) := by decide +kernel
theorem dX6_behind_27 : decode cX6_behind 27 = .ok (.ireturn, 1) := by decide +kernel
theorem dX6_behind_28 : decode cX6_behind 28 = .ok (.aload_n 0, 1) := by decide +kernel
theorem dX6_behind_29 : decode cX6_behind 29 = .ok (.getfield 12, 3) := by decide +kernel
theorem dX6_behind_32 : decode cX6_behind 32 = .ok (.getfield 120, 3) := by decide +kernel
theorem dX6_behind_35 : decode cX6_behind 35 = .ok (.iload_n 1, 1) := by decide +kernel
theorem dX6_behind_36 : decode cX6_behind 36 = .ok (.aaload, 1) := by decide +kernel
theorem dX6_behind_37 : decode cX6_behind 37 = .ok (.aload_n 0, 1) := by decide +kernel
theorem dX6_behind_38 : decode cX6_behind 38 = .ok (.getfield 12, 3) := by decide +kernel
theorem dX6_behind_41 : decode cX6_behind 41 = .ok (.getfield 120, 3) := by decide +kernel
theorem dX6_behind_44 : decode cX6_behind 44 = .ok (.iload_n 2, 1) := by decide +kernel
theorem dX6_behind_45 : decode cX6_behind 45 = .ok (.aaload, 1) := by decide +kernel
theorem dX6_behind_46 : decode cX6_behind 46 = .ok (.invokestatic 243, 3) := by decide +kernel
theorem dX6_behind_49 : decode cX6_behind 49 = .ok (.ifCond .eq 10, 3) := by decide +kernel
theorem dX6_behind_52 : decode cX6_behind 52 = .ok (.aload_n 0, 1) := by decide +kernel
theorem dX6_behind_53 : decode cX6_behind 53 = .ok (.invokevirtual 237, 3) := by decide +kernel
theorem dX6_behind_56 : decode cX6_behind 56 = .ok (.ifCond .eq 10, 3) := by decide +kernel
theorem dX6_behind_59 : decode cX6_behind 59 = .ok (.aload_n 0, 1) := by decide +kernel
theorem dX6_behind_60 : decode cX6_behind 60 = .ok (.ldc 169, 2) := by decide +kernel
theorem dX6_behind_62 : decode cX6_behind 62 = .ok (.invokevirtual 72, 3) := by decide +kernel
theorem dX6_behind_65 : decode cX6_behind 65 = .ok (.ireturn, 1) := by decide +kernel
theorem dX6_behind_66 : decode cX6_behind 66 = .ok (.aload_n 0, 1) := by decide +kernel
theorem dX6_behind_67 : decode cX6_behind 67 = .ok (.getfield 23, 3) := by decide +kernel
theorem dX6_behind_70 : decode cX6_behind 70 = .ok (.aload_n 0, 1) := by decide +kernel
theorem dX6_behind_71 : decode cX6_behind 71 = .ok (.getfield 12, 3) := by decide +kernel
theorem dX6_behind_74 : decode cX6_behind 74 = .ok (.invokevirtual 194, 3) := by decide +kernel
theorem dX6_behind_77 : decode cX6_behind 77 = .ok (.aload_n 0, 1) := by decide +kernel
theorem dX6_behind_78 : decode cX6_behind 78 = .ok (.getfield 23, 3) := by decide +kernel
theorem dX6_behind_81 : decode cX6_behind 81 = .ok (.iconst 1, 1) := by decide +kernel
theorem dX6_behind_82 : decode cX6_behind 82 = .ok (.iload_n 1, 1) := by decide +kernel
theorem dX6_behind_83 : decode cX6_behind 83 = .ok (.ishl, 1) := by decide +kernel
theorem dX6_behind_84 : decode cX6_behind 84 = .ok (.iconst 1, 1) := by decide +kernel
theorem dX6_behind_85 : decode cX6_behind 85 = .ok (.iload_n 2, 1) := by decide +kernel
theorem dX6_behind_86 : decode cX6_behind 86 = .ok (.ishl, 1) := by decide +kernel
theorem dX6_behind_87 : decode cX6_behind 87 = .ok (.ior, 1) := by decide +kernel
theorem dX6_behind_88 : decode cX6_behind 88 = .ok (.invokevirtual 247, 3) := by decide +kernel
theorem dX6_behind_91 : decode cX6_behind 91 = .ok (.aload_n 0, 1) := by decide +kernel
theorem dX6_behind_92 : decode cX6_behind 92 = .ok (.getfield 23, 3) := by decide +kernel
theorem dX6_behind_95 : decode cX6_behind 95 = .ok (.getfield 120, 3) := by decide +kernel
theorem dX6_behind_98 : decode cX6_behind 98 = .ok (.iload_n 1, 1) := by decide +kernel
theorem dX6_behind_99 : decode cX6_behind 99 = .ok (.aaload, 1) := by decide +kernel
theorem dX6_behind_100 : decode cX6_behind 100 = .ok (.bipush 10, 2) := by decide +kernel
theorem dX6_behind_102 : decode cX6_behind 102 = .ok (.invokevirtual 170, 3) := by decide +kernel
theorem dX6_behind_105 : decode cX6_behind 105 = .ok (.iconst 1, 1) := by decide +kernel
theorem dX6_behind_106 : decode cX6_behind 106 = .ok (.istore_n 3, 1) := by decide +kernel
theorem dX6_behind_107 : decode cX6_behind 107 = .ok (.iload_n 3, 1) := by decide +kernel
theorem dX6_behind_108 : decode cX6_behind 108 = .ok (.bipush 59, 2) := by decide +kernel
theorem dX6_behind_110 : decode cX6_behind 110 = .ok (.if_icmp .gt 80, 3) := by decide +kernel
theorem dX6_behind_113 : decode cX6_behind 113 = .ok (.aload_n 0, 1) := by decide +kernel
theorem dX6_behind_114 : decode cX6_behind 114 = .ok (.getfield 23, 3) := by decide +kernel
theorem dX6_behind_117 : decode cX6_behind 117 = .ok (.invokevirtual 240, 3) := by decide +kernel
theorem dX6_behind_120 : decode cX6_behind 120 = .ok (.ifCond .le 10, 3) := by decide +kernel
theorem dX6_behind_123 : decode cX6_behind 123 = .ok (.aload_n 0, 1) := by decide +kernel
theorem dX6_behind_124 : decode cX6_behind 124 = .ok (.ldc 207, 2) := by decide +kernel
theorem dX6_behind_126 : decode cX6_behind 126 = .ok (.invokevirtual 72, 3) := by decide +kernel
theorem dX6_behind_129 : decode cX6_behind 129 = .ok (.ireturn, 1) := by decide +kernel
theorem dX6_behind_130 : decode cX6_behind 130 = .ok (.aload_n 0, 1) := by decide +kernel
theorem dX6_behind_131 : decode cX6_behind 131 = .ok (.getfield 26, 3) := by decide +kernel
theorem dX6_behind_134 : decode cX6_behind 134 = .ok (.aload_n 0, 1) := by decide +kernel
theorem dX6_behind_135 : decode cX6_behind 135 = .ok (.getfield 23, 3) := by decide +kernel
theorem dX6_behind_138 : decode cX6_behind 138 = .ok (.invokevirtual 194, 3) := by decide +kernel
theorem dX6_behind_141 : decode cX6_behind 141 = .ok (.aload_n 0, 1) := by decide +kernel
theorem dX6_behind_142 : decode cX6_behind 142 = .ok (.getfield 26, 3) := by decide +kernel
theorem dX6_behind_145 : decode cX6_behind 145 = .ok (.getfield 120, 3) := by decide +kernel
theorem dX6_behind_148 : decode cX6_behind 148 = .ok (.iload_n 2, 1) := by decide +kernel
theorem dX6_behind_149 : decode cX6_behind 149 = .ok (.aaload, 1) := by decide +kernel
theorem dX6_behind_150 : decode cX6_behind 150 = .ok (.bipush 10, 2) := by decide +kernel
theorem dX6_behind_152 : decode cX6_behind 152 = .ok (.invokevirtual 170, 3) := by decide +kernel
theorem dX6_behind_155 : decode cX6_behind 155 = .ok (.aload_n 0, 1) := by decide +kernel
theorem dX6_behind_156 : decode cX6_behind 156 = .ok (.getfield 26, 3) := by decide +kernel
theorem dX6_behind_159 : decode cX6_behind 159 = .ok (.sipush 200, 3) := by decide +kernel
theorem dX6_behind_162 : decode cX6_behind 162 = .ok (.invokevirtual 204, 3) := by decide +kernel
theorem dX6_behind_165 : decode cX6_behind 165 = .ok (.ifCond .ne 19, 3) := by decide +kernel
theorem dX6_behind_168 : decode cX6_behind 168 = .ok (.aload_n 0, 1) := by decide +kernel
theorem dX6_behind_169 : decode cX6_behind 169 = .ok (.getfield 26, 3) := by decide +kernel
theorem dX6_behind_172 : decode cX6_behind 172 = .ok (.invokevirtual 198, 3) := by decide +kernel
theorem dX6_behind_175 : decode cX6_behind 175 = .ok (.invokestatic 183, 3) := by decide +kernel
theorem dX6_behind_178 : decode cX6_behind 178 = .ok (.iconst 2, 1) := by decide +kernel
theorem dX6_behind_179 : decode cX6_behind 179 = .ok (.if_icmp .ne 5, 3) := by decide +kernel
theorem dX6_behind_182 : decode cX6_behind 182 = .ok (.iload_n 3, 1) := by decide +kernel
theorem dX6_behind_183 : decode cX6_behind 183 = .ok (.ireturn, 1) := by decide +kernel
theorem dX6_behind_184 : decode cX6_behind 184 = .ok (.iinc 3 1, 3) := by decide +kernel
theorem dX6_behind_187 : decode cX6_behind 187 = .ok (.goto (-80), 3) := by decide +kernel
theorem dX6_behind_190 : decode cX6_behind 190 = .ok (.aload_n 0, 1) := by decide +kernel
theorem dX6_behind_191 : decode cX6_behind 191 = .ok (.ldc 207, 2) := by decide +kernel
theorem dX6_behind_193 : decode cX6_behind 193 = .ok (.invokevirtual 72, 3) := by decide +kernel
theorem dX6_behind_196 : decode cX6_behind 196 = .ok (.ireturn, 1) := by decide +kernel
theorem dX6_come_0 : decode cX6_come 0 = .ok (.aload_n 0, 1) := by decide +kernel
theorem dX6_come_1 : decode cX6_come 1 = .ok (.invokevirtual 250, 3) := by decide +kernel
theorem dX6_come_4 : decode cX6_come 4 = .ok (.ifCond .eq 10, 3) := by decide +kernel
theorem dX6_come_7 : decode cX6_come 7 = .ok (.aload_n 0, 1) := by decide +kernel
theorem dX6_come_8 : decode cX6_come 8 = .ok (.ldc 169, 2) := by decide +kernel
theorem dX6_come_10 : decode cX6_come 10 = .ok (.invokevirtual 72, 3) := by decide +kernel
theorem dX6_come_13 : decode cX6_come 13 = .ok (.ireturn, 1) := by decide +kernel
theorem dX6_come_14 : decode cX6_come 14 = .ok (.aload_n 0, 1) := by decide +kernel
theorem dX6_come_15 : decode cX6_come 15 = .ok (.getfield 12, 3) := by decide +kernel
theorem dX6_come_18 : decode cX6_come 18 = .ok (.iconst 0, 1) := by decide +kernel
theorem dX6_come_19 : decode cX6_come 19 = .ok (.invokevirtual 180, 3) := by decide +kernel
theorem dX6_come_22 : decode cX6_come 22 = .ok (.aload_n 0, 1) := by decide +kernel
theorem dX6_come_23 : decode cX6_come 23 = .ok (.getfield 12, 3) := by decide +kernel
theorem dX6_come_26 : decode cX6_come 26 = .ok (.iconst 0, 1) := by decide +kernel
theorem dX6_come_27 : decode cX6_come 27 = .ok (.invokevirtual 191, 3) := by decide +kernel
theorem dX6_come_30 : decode cX6_come 30 = .ok (.iand, 1) := by decide +kernel
theorem dX6_come_31 : decode cX6_come 31 = .ok (.istore_n 1, 1) := by decide +kernel
theorem dX6_come_32 : decode cX6_come 32 = .ok (.iconst 0, 1) := by decide +kernel
theorem dX6_come_33 : decode cX6_come 33 = .ok (.istore_n 2, 1) := by decide +kernel
theorem dX6_come_34 : decode cX6_come 34 = .ok (.iconst 0, 1) := by decide +kernel
theorem dX6_come_35 : decode cX6_come 35 = .ok (.istore_n 3, 1) := by decide +kernel
theorem dX6_come_36 : decode cX6_come 36 = .ok (.iload_n 3, 1) := by decide +kernel
theorem dX6_come_37 : decode cX6_come 37 = .ok (.aload_n 0, 1) := by decide +kernel
theorem dX6_come_38 : decode cX6_come 38 = .ok (.getfield 12, 3) := by decide +kernel
theorem dX6_come_41 : decode cX6_come 41 = .ok (.getfield 114, 3) := by decide +kernel
theorem dX6_come_44 : decode cX6_come 44 = .ok (.if_icmp .ge 57, 3) := by decide +kernel
theorem dX6_come_47 : decode cX6_come 47 = .ok (.iload_n 1, 1) := by decide +kernel
theorem dX6_come_48 : decode cX6_come 48 = .ok (.iload_n 3, 1) := by decide +kernel
theorem dX6_come_49 : decode cX6_come 49 = .ok (.invokestatic 253, 3) := by decide +kernel
theorem dX6_come_52 : decode cX6_come 52 = .ok (.ifCond .eq 43, 3) := by decide +kernel
theorem dX6_come_55 : decode cX6_come 55 = .ok (.aload_n 0, 1) := by decide +kernel
theorem dX6_come_56 : decode cX6_come 56 = .ok (.getfield 32, 3) := by decide +kernel
theorem dX6_come_59 : decode cX6_come 59 = .ok (.aload_n 0, 1) := by decide +kernel
theorem dX6_come_60 : decode cX6_come 60 = .ok (.getfield 12, 3) := by decide +kernel
theorem dX6_come_63 : decode cX6_come 63 = .ok (.aload_n 0, 1) := by decide +kernel
theorem dX6_come_64 : decode cX6_come 64 = .ok (.getfield 12, 3) := by decide +kernel
theorem dX6_come_67 : decode cX6_come 67 = .ok (.getfield 120, 3) := by decide +kernel
theorem dX6_come_70 : decode cX6_come 70 = .ok (.iload_n 3, 1) := by decide +kernel
theorem dX6_come_71 : decode cX6_come 71 = .ok (.aaload, 1) := by decide +kernel
theorem dX6_come_72 : decode cX6_come 72 = .ok (.invokevirtual 211, 3) := by decide +kernel
theorem dX6_come_75 : decode cX6_come 75 = .ok (.iload_n 2, 1) := by decide +kernel
theorem dX6_come_76 : decode cX6_come 76 = .ok (.aload_n 0, 1) := by decide +kernel
theorem dX6_come_77 : decode cX6_come 77 = .ok (.getfield 32, 3) := by decide +kernel
theorem dX6_come_80 : decode cX6_come 80 = .ok (.bipush 30, 2) := by decide +kernel
theorem dX6_come_82 : decode cX6_come 82 = .ok (.invokevirtual 234, 3) := by decide +kernel
theorem dX6_come_85 : decode cX6_come 85 = .ok (.ifCond .eq 7, 3) := by decide +kernel
theorem dX6_come_88 : decode cX6_come 88 = .ok (.iconst 1, 1) := by decide +kernel
theorem dX6_come_89 : decode cX6_come 89 = .ok (.goto 4, 3) := by decide +kernel
theorem dX6_come_92 : decode cX6_come 92 = .ok (.iconst 0, 1) := by decide +kernel
theorem dX6_come_93 : decode cX6_come 93 = .ok (.iadd, 1) := by decide +kernel
theorem dX6_come_94 : decode cX6_come 94 = .ok (.istore_n 2, 1) := by decide +kernel
theorem dX6_come_95 : decode cX6_come 95 = .ok (.iinc 3 1, 3) := by decide +kernel
theorem dX6_come_98 : decode cX6_come 98 = .ok (.goto (-62), 3) := by decide +kernel
theorem dX6_come_101 : decode cX6_come 101 = .ok (.iload_n 2, 1) := by decide +kernel
theorem dX6_come_102 : decode cX6_come 102 = .ok (.ireturn, 1) := by decide +kernel
theorem dX6_pack_0 : decode cX6_pack 0 = .ok (.aload_n 0, 1) := by decide +kernel
theorem dX6_pack_1 : decode cX6_pack 1 = .ok (.iload_n 1, 1) := by decide +kernel
theorem dX6_pack_2 : decode cX6_pack 2 = .ok (.invokevirtual 257, 3) := by decide +kernel
theorem dX6_pack_5 : decode cX6_pack 5 = .ok (.ifCond .ne 10, 3) := by decide +kernel
theorem dX6_pack_8 : decode cX6_pack 8 = .ok (.aload_n 0, 1) := by decide +kernel
theorem dX6_pack_9 : decode cX6_pack 9 = .ok (.ldc 71, 2) := by decide +kernel
theorem dX6_pack_11 : decode cX6_pack 11 = .ok (.invokevirtual 72, 3) := by decide +kernel
theorem dX6_pack_14 : decode cX6_pack 14 = .ok (.ireturn, 1) := by decide +kernel
theorem dX6_pack_15 : decode cX6_pack 15 = .ok (.aload_n 0, 1) := by decide +kernel
theorem dX6_pack_16 : decode cX6_pack 16 = .ok (.getfield 39, 3) := by decide +kernel
theorem dX6_pack_19 : decode cX6_pack 19 = .ok (.aload_n 0, 1) := by decide +kernel
theorem dX6_pack_20 : decode cX6_pack 20 = .ok (.getfield 12, 3) := by decide +kernel
theorem dX6_pack_23 : decode cX6_pack 23 = .ok (.iload_n 1, 1) := by decide +kernel
theorem dX6_pack_24 : decode cX6_pack 24 = .ok (.invokevirtual 260, 3) := by decide +kernel
theorem dX6_pack_27 : decode cX6_pack 27 = .ok (.ireturn, 1) := by decide +kernel
theorem dX6_lean_0 : decode cX6_lean 0 = .ok (.aload_n 0, 1) := by decide +kernel
theorem dX6_lean_1 : decode cX6_lean 1 = .ok (.iload_n 1, 1) := by decide +kernel
theorem dX6_lean_2 : decode cX6_lean 2 = .ok (.invokevirtual 257, 3) := by decide +kernel
theorem dX6_lean_5 : decode cX6_lean 5 = .ok (.ifCond .ne 10, 3) := by decide +kernel
theorem dX6_lean_8 : decode cX6_lean 8 = .ok (.aload_n 0, 1) := by decide +kernel
theorem dX6_lean_9 : decode cX6_lean 9 = .ok (.ldc 71, 2) := by decide +kernel
theorem dX6_lean_11 : decode cX6_lean 11 = .ok (.invokevirtual 72, 3) := by decide +kernel
theorem dX6_lean_14 : decode cX6_lean 14 = .ok (.ireturn, 1) := by decide +kernel
theorem dX6_lean_15 : decode cX6_lean 15 = .ok (.aload_n 0, 1) := by decide +kernel
theorem dX6_lean_16 : decode cX6_lean 16 = .ok (.getfield 39, 3) := by decide +kernel
theorem dX6_lean_19 : decode cX6_lean 19 = .ok (.iload_n 1, 1) := by decide +kernel
theorem dX6_lean_20 : decode cX6_lean 20 = .ok (.aload_n 0, 1) := by decide +kernel
theorem dX6_lean_21 : decode cX6_lean 21 = .ok (.getfield 39, 3) := by decide +kernel
theorem dX6_lean_24 : decode cX6_lean 24 = .ok (.aload_n 0, 1) := by decide +kernel
theorem dX6_lean_25 : decode cX6_lean 25 = .ok (.getfield 12, 3) := by decide +kernel
theorem dX6_lean_28 : decode cX6_lean 28 = .ok (.iload_n 1, 1) := by decide +kernel
theorem dX6_lean_29 : decode cX6_lean 29 = .ok (.invokevirtual 260, 3) := by decide +kernel
theorem dX6_lean_32 : decode cX6_lean 32 = .ok (.invokevirtual 264, 3) := by decide +kernel
theorem dX6_lean_35 : decode cX6_lean 35 = .ok (.ireturn, 1) := by decide +kernel
theorem dX6_drums_0 : decode cX6_drums 0 = .ok (.aload_n 0, 1) := by decide +kernel
theorem dX6_drums_1 : decode cX6_drums 1 = .ok (.iload_n 1, 1) := by decide +kernel
theorem dX6_drums_2 : decode cX6_drums 2 = .ok (.invokevirtual 257, 3) := by decide +kernel
theorem dX6_drums_5 : decode cX6_drums 5 = .ok (.ifCond .eq 14, 3) := by decide +kernel
theorem dX6_drums_8 : decode cX6_drums 8 = .ok (.iload_n 2, 1) := by decide +kernel
theorem dX6_drums_9 : decode cX6_drums 9 = .ok (.iconst 1, 1) := by decide +kernel
theorem dX6_drums_10 : decode cX6_drums 10 = .ok (.sipush 999, 3) := by decide +kernel
theorem dX6_drums_13 : decode cX6_drums 13 = .ok (.invokestatic 79, 3) := by decide +kernel
theorem dX6_drums_16 : decode cX6_drums 16 = .ok (.ifCond .ne 10, 3) := by decide +kernel
theorem dX6_drums_19 : decode cX6_drums 19 = .ok (.aload_n 0, 1) := by decide +kernel
theorem dX6_drums_20 : decode cX6_drums 20 = .ok (.ldc 71, 2) := by decide +kernel
theorem dX6_drums_22 : decode cX6_drums 22 = .ok (.invokevirtual 72, 3) := by decide +kernel
theorem dX6_drums_25 : decode cX6_drums 25 = .ok (.ireturn, 1) := by decide +kernel
theorem dX6_drums_26 : decode cX6_drums 26 = .ok (.aload_n 0, 1) := by decide +kernel
theorem dX6_drums_27 : decode cX6_drums 27 = .ok (.getfield 12, 3) := by decide +kernel
theorem dX6_drums_30 : decode cX6_drums 30 = .ok (.iload_n 1, 1) := by decide +kernel
theorem dX6_drums_31 : decode cX6_drums 31 = .ok (.invokevirtual 268, 3) := by decide +kernel
theorem dX6_drums_34 : decode cX6_drums 34 = .ok (.iload_n 2, 1) := by decide +kernel
theorem dX6_drums_35 : decode cX6_drums 35 = .ok (.if_icmp .le 10, 3) := by decide +kernel
theorem dX6_drums_38 : decode cX6_drums 38 = .ok (.aload_n 0, 1) := by decide +kernel
theorem dX6_drums_39 : decode cX6_drums 39 = .ok (.ldc 207, 2) := by decide +kernel
theorem dX6_drums_41 : decode cX6_drums 41 = .ok (.invokevirtual 72, 3) := by decide +kernel
theorem dX6_drums_44 : decode cX6_drums 44 = .ok (.ireturn, 1) := by decide +kernel
theorem dX6_drums_45 : decode cX6_drums 45 = .ok (.aload_n 0, 1) := by decide +kernel
theorem dX6_drums_46 : decode cX6_drums 46 = .ok (.getfield 39, 3) := by decide +kernel
theorem dX6_drums_49 : decode cX6_drums 49 = .ok (.aload_n 0, 1) := by decide +kernel
theorem dX6_drums_50 : decode cX6_drums 50 = .ok (.getfield 12, 3) := by decide +kernel
theorem dX6_drums_53 : decode cX6_drums 53 = .ok (.iload_n 1, 1) := by decide +kernel
theorem dX6_drums_54 : decode cX6_drums 54 = .ok (.iload_n 2, 1) := by decide +kernel
theorem dX6_drums_55 : decode cX6_drums 55 = .ok (.invokevirtual 271, 3) := by decide +kernel
theorem dX6_drums_58 : decode cX6_drums 58 = .ok (.ireturn, 1) := by decide +kernel
theorem dX6_waits_0 : decode cX6_waits 0 = .ok (.aload_n 0, 1) := by decide +kernel
theorem dX6_waits_1 : decode cX6_waits 1 = .ok (.aload_n 0, 1) := by decide +kernel
theorem dX6_waits_2 : decode cX6_waits 2 = .ok (.invokevirtual 275, 3) := by decide +kernel
theorem dX6_waits_5 : decode cX6_waits 5 = .ok (.invokevirtual 278, 3) := by decide +kernel
theorem dX6_waits_8 : decode cX6_waits 8 = .ok (.ireturn, 1) := by decide +kernel
theorem dX6_least_0 : decode cX6_least 0 = .ok (.aload_n 0, 1) := by decide +kernel
theorem dX6_least_1 : decode cX6_least 1 = .ok (.aload_n 0, 1) := by decide +kernel
theorem dX6_least_2 : decode cX6_least 2 = .ok (.invokevirtual 281, 3) := by decide +kernel
theorem dX6_least_5 : decode cX6_least 5 = .ok (.invokevirtual 278, 3) := by decide +kernel
theorem dX6_least_8 : decode cX6_least 8 = .ok (.ireturn, 1) := by decide +kernel
theorem dX6_order_0 : decode cX6_order 0 = .ok (.iload_n 1, 1) := by decide +kernel
theorem dX6_order_1 : decode cX6_order 1 = .ok (.iconst 0, 1) := by decide +kernel
theorem dX6_order_2 : decode cX6_order 2 = .ok (.bipush 9, 2) := by decide +kernel
theorem dX6_order_4 : decode cX6_order 4 = .ok (.invokestatic 79, 3) := by decide +kernel
theorem dX6_order_7 : decode cX6_order 7 = .ok (.ifCond .ne 10, 3) := by decide +kernel
theorem dX6_order_10 : decode cX6_order 10 = .ok (.aload_n 0, 1) := by decide +kernel
theorem dX6_order_11 : decode cX6_order 11 = .ok (.ldc 71, 2) := by decide +kernel
theorem dX6_order_13 : decode cX6_order 13 = .ok (.invokevirtual 72, 3) := by decide +kernel
theorem dX6_order_16 : decode cX6_order 16 = .ok (.ireturn, 1) := by decide +kernel
theorem dX6_order_17 : decode cX6_order 17 = .ok (.iload_n 1, 1) := by decide +kernel
theorem dX6_order_18 : decode cX6_order 18 = .ok (.aload_n 0, 1) := by decide +kernel
theorem dX6_order_19 : decode cX6_order 19 = .ok (.invokevirtual 281, 3) := by decide +kernel
theorem dX6_order_22 : decode cX6_order 22 = .ok (.if_icmp .ge 12, 3) := by decide +kernel
theorem dX6_order_25 : decode cX6_order 25 = .ok (.aload_n 0, 1) := by decide +kernel
theorem dX6_order_26 : decode cX6_order 26 = .ok (.getfield 43, 3) := by decide +kernel
theorem dX6_order_29 : decode cX6_order 29 = .ok (.iload_n 1, 1) := by decide +kernel
theorem dX6_order_30 : decode cX6_order 30 = .ok (.iaload, 1) := by decide +kernel
theorem dX6_order_31 : decode cX6_order 31 = .ok (.goto 9, 3) := by decide +kernel
theorem dX6_order_34 : decode cX6_order 34 = .ok (.aload_n 0, 1) := by decide +kernel
theorem dX6_order_35 : decode cX6_order 35 = .ok (.ldc 207, 2) := by decide +kernel
theorem dX6_order_37 : decode cX6_order 37 = .ok (.invokevirtual 72, 3) := by decide +kernel
theorem dX6_order_40 : decode cX6_order 40 = .ok (.ireturn, 1) := by decide +kernel
theorem dX6_wheel_0 : decode cX6_wheel 0 = .ok (.iload_n 1, 1) := by decide +kernel
theorem dX6_wheel_1 : decode cX6_wheel 1 = .ok (.iconst 1, 1) := by decide +kernel
theorem dX6_wheel_2 : decode cX6_wheel 2 = .ok (.sipush 999, 3) := by decide +kernel
theorem dX6_wheel_5 : decode cX6_wheel 5 = .ok (.invokestatic 79, 3) := by decide +kernel
theorem dX6_wheel_8 : decode cX6_wheel 8 = .ok (.ifCond .ne 10, 3) := by decide +kernel
theorem dX6_wheel_11 : decode cX6_wheel 11 = .ok (.aload_n 0, 1) := by decide +kernel
theorem dX6_wheel_12 : decode cX6_wheel 12 = .ok (.ldc 71, 2) := by decide +kernel
theorem dX6_wheel_14 : decode cX6_wheel 14 = .ok (.invokevirtual 72, 3) := by decide +kernel
theorem dX6_wheel_17 : decode cX6_wheel 17 = .ok (.ireturn, 1) := by decide +kernel
theorem dX6_wheel_18 : decode cX6_wheel 18 = .ok (.aload_n 0, 1) := by decide +kernel
theorem dX6_wheel_19 : decode cX6_wheel 19 = .ok (.invokevirtual 281, 3) := by decide +kernel
theorem dX6_wheel_22 : decode cX6_wheel 22 = .ok (.istore_n 2, 1) := by decide +kernel
theorem dX6_wheel_23 : decode cX6_wheel 23 = .ok (.iload_n 1, 1) := by decide +kernel
theorem dX6_wheel_24 : decode cX6_wheel 24 = .ok (.istore_n 3, 1) := by decide +kernel
theorem dX6_wheel_25 : decode cX6_wheel 25 = .ok (.iconst 0, 1) := by decide +kernel
theorem dX6_wheel_26 : decode cX6_wheel 26 = .ok (.istore 4, 2) := by decide +kernel
theorem dX6_wheel_28 : decode cX6_wheel 28 = .ok (.iload 4, 2) := by decide +kernel
theorem dX6_wheel_30 : decode cX6_wheel 30 = .ok (.iload_n 2, 1) := by decide +kernel
theorem dX6_wheel_31 : decode cX6_wheel 31 = .ok (.if_icmp .ge 71, 3) := by decide +kernel
theorem dX6_wheel_34 : decode cX6_wheel 34 = .ok (.aload_n 0, 1) := by decide +kernel
theorem dX6_wheel_35 : decode cX6_wheel 35 = .ok (.getfield 12, 3) := by decide +kernel
theorem dX6_wheel_38 : decode cX6_wheel 38 = .ok (.getfield 120, 3) := by decide +kernel
theorem dX6_wheel_41 : decode cX6_wheel 41 = .ok (.aload_n 0, 1) := by decide +kernel
theorem dX6_wheel_42 : decode cX6_wheel 42 = .ok (.getfield 43, 3) := by decide +kernel
theorem dX6_wheel_45 : decode cX6_wheel 45 = .ok (.iload 4, 2) := by decide +kernel
theorem dX6_wheel_47 : decode cX6_wheel 47 = .ok (.iaload, 1) := by decide +kernel
theorem dX6_wheel_48 : decode cX6_wheel 48 = .ok (.aaload, 1) := by decide +kernel
theorem dX6_wheel_49 : decode cX6_wheel 49 = .ok (.invokevirtual 284, 3) := by decide +kernel
theorem dX6_wheel_52 : decode cX6_wheel 52 = .ok (.iload_n 3, 1) := by decide +kernel
theorem dX6_wheel_53 : decode cX6_wheel 53 = .ok (.if_icmp .gt 49, 3) := by decide +kernel
theorem dX6_wheel_56 : decode cX6_wheel 56 = .ok (.iload_n 3, 1) := by decide +kernel
theorem dX6_wheel_57 : decode cX6_wheel 57 = .ok (.aload_n 0, 1) := by decide +kernel
theorem dX6_wheel_58 : decode cX6_wheel 58 = .ok (.getfield 12, 3) := by decide +kernel
theorem dX6_wheel_61 : decode cX6_wheel 61 = .ok (.getfield 120, 3) := by decide +kernel
theorem dX6_wheel_64 : decode cX6_wheel 64 = .ok (.aload_n 0, 1) := by decide +kernel
theorem dX6_wheel_65 : decode cX6_wheel 65 = .ok (.getfield 43, 3) := by decide +kernel
theorem dX6_wheel_68 : decode cX6_wheel 68 = .ok (.iload 4, 2) := by decide +kernel
theorem dX6_wheel_70 : decode cX6_wheel 70 = .ok (.iaload, 1) := by decide +kernel
theorem dX6_wheel_71 : decode cX6_wheel 71 = .ok (.aaload, 1) := by decide +kernel
theorem dX6_wheel_72 : decode cX6_wheel 72 = .ok (.invokevirtual 284, 3) := by decide +kernel
theorem dX6_wheel_75 : decode cX6_wheel 75 = .ok (.isub, 1) := by decide +kernel
theorem dX6_wheel_76 : decode cX6_wheel 76 = .ok (.istore_n 3, 1) := by decide +kernel
theorem dX6_wheel_77 : decode cX6_wheel 77 = .ok (.aload_n 0, 1) := by decide +kernel
theorem dX6_wheel_78 : decode cX6_wheel 78 = .ok (.getfield 12, 3) := by decide +kernel
theorem dX6_wheel_81 : decode cX6_wheel 81 = .ok (.getfield 120, 3) := by decide +kernel
theorem dX6_wheel_84 : decode cX6_wheel 84 = .ok (.aload_n 0, 1) := by decide +kernel
theorem dX6_wheel_85 : decode cX6_wheel 85 = .ok (.getfield 43, 3) := by decide +kernel
theorem dX6_wheel_88 : decode cX6_wheel 88 = .ok (.iload 4, 2) := by decide +kernel
theorem dX6_wheel_90 : decode cX6_wheel 90 = .ok (.iaload, 1) := by decide +kernel
theorem dX6_wheel_91 : decode cX6_wheel 91 = .ok (.aaload, 1) := by decide +kernel
theorem dX6_wheel_92 : decode cX6_wheel 92 = .ok (.iconst 3, 1) := by decide +kernel
theorem dX6_wheel_93 : decode cX6_wheel 93 = .ok (.putfield 144, 3) := by decide +kernel
theorem dX6_wheel_96 : decode cX6_wheel 96 = .ok (.iinc 4 1, 3) := by decide +kernel
theorem dX6_wheel_99 : decode cX6_wheel 99 = .ok (.goto (-71), 3) := by decide +kernel
theorem dX6_wheel_102 : decode cX6_wheel 102 = .ok (.iload 4, 2) := by decide +kernel
theorem dX6_wheel_104 : decode cX6_wheel 104 = .ok (.ireturn, 1) := by decide +kernel
theorem dX6_odds_0 : decode cX6_odds 0 = .ok (.aload_n 0, 1) := by decide +kernel
theorem dX6_odds_1 : decode cX6_odds 1 = .ok (.iload_n 1, 1) := by decide +kernel
theorem dX6_odds_2 : decode cX6_odds 2 = .ok (.invokevirtual 117, 3) := by decide +kernel
theorem dX6_odds_5 : decode cX6_odds 5 = .ok (.ifCond .eq 13, 3) := by decide +kernel
theorem dX6_odds_8 : decode cX6_odds 8 = .ok (.iload_n 2, 1) := by decide +kernel
theorem dX6_odds_9 : decode cX6_odds 9 = .ok (.iconst 1, 1) := by decide +kernel
theorem dX6_odds_10 : decode cX6_odds 10 = .ok (.bipush 20, 2) := by decide +kernel
theorem dX6_odds_12 : decode cX6_odds 12 = .ok (.invokestatic 79, 3) := by decide +kernel
theorem dX6_odds_15 : decode cX6_odds 15 = .ok (.ifCond .ne 10, 3) := by decide +kernel
theorem dX6_odds_18 : decode cX6_odds 18 = .ok (.aload_n 0, 1) := by decide +kernel
theorem dX6_odds_19 : decode cX6_odds 19 = .ok (.ldc 71, 2) := by decide +kernel
theorem dX6_odds_21 : decode cX6_odds 21 = .ok (.invokevirtual 72, 3) := by decide +kernel
theorem dX6_odds_24 : decode cX6_odds 24 = .ok (.ireturn, 1) := by decide +kernel
theorem dX6_odds_25 : decode cX6_odds 25 = .ok (.aload_n 0, 1) := by decide +kernel
theorem dX6_odds_26 : decode cX6_odds 26 = .ok (.getfield 12, 3) := by decide +kernel
theorem dX6_odds_29 : decode cX6_odds 29 = .ok (.getfield 120, 3) := by decide +kernel
theorem dX6_odds_32 : decode cX6_odds 32 = .ok (.iload_n 1, 1) := by decide +kernel
theorem dX6_odds_33 : decode cX6_odds 33 = .ok (.aaload, 1) := by decide +kernel
theorem dX6_odds_34 : decode cX6_odds 34 = .ok (.invokevirtual 166, 3) := by decide +kernel
theorem dX6_odds_37 : decode cX6_odds 37 = .ok (.ifCond .eq 10, 3) := by decide +kernel
theorem dX6_odds_40 : decode cX6_odds 40 = .ok (.aload_n 0, 1) := by decide +kernel
theorem dX6_odds_41 : decode cX6_odds 41 = .ok (.invokevirtual 250, 3) := by decide +kernel
theorem dX6_odds_44 : decode cX6_odds 44 = .ok (.ifCond .eq 10, 3) := by decide +kernel
theorem dX6_odds_47 : decode cX6_odds 47 = .ok (.aload_n 0, 1) := by decide +kernel
theorem dX6_odds_48 : decode cX6_odds 48 = .ok (.ldc 169, 2) := by decide +kernel
theorem dX6_odds_50 : decode cX6_odds 50 = .ok (.invokevirtual 72, 3) := by decide +kernel
theorem dX6_odds_53 : decode cX6_odds 53 = .ok (.ireturn, 1) := by decide +kernel
theorem dX6_odds_54 : decode cX6_odds 54 = .ok (.iconst 0, 1) := by decide +kernel
theorem dX6_odds_55 : decode cX6_odds 55 = .ok (.istore_n 3, 1) := by decide +kernel
theorem dX6_odds_56 : decode cX6_odds 56 = .ok (.iconst 0, 1) := by decide +kernel
theorem dX6_odds_57 : decode cX6_odds 57 = .ok (.istore 4, 2) := by decide +kernel
theorem dX6_odds_59 : decode cX6_odds 59 = .ok (.iload 4, 2) := by decide +kernel
theorem dX6_odds_61 : decode cX6_odds 61 = .ok (.iload_n 2, 1) := by decide +kernel
theorem dX6_odds_62 : decode cX6_odds 62 = .ok (.if_icmp .ge 60, 3) := by decide +kernel
theorem dX6_odds_65 : decode cX6_odds 65 = .ok (.aload_n 0, 1) := by decide +kernel
theorem dX6_odds_66 : decode cX6_odds 66 = .ok (.getfield 32, 3) := by decide +kernel
theorem dX6_odds_69 : decode cX6_odds 69 = .ok (.aload_n 0, 1) := by decide +kernel
theorem dX6_odds_70 : decode cX6_odds 70 = .ok (.getfield 12, 3) := by decide +kernel
theorem dX6_odds_73 : decode cX6_odds 73 = .ok (.aload_n 0, 1) := by decide +kernel
theorem dX6_odds_74 : decode cX6_odds 74 = .ok (.getfield 12, 3) := by decide +kernel
theorem dX6_odds_77 : decode cX6_odds 77 = .ok (.getfield 120, 3) := by decide +kernel
theorem dX6_odds_80 : decode cX6_odds 80 = .ok (.iload_n 1, 1) := by decide +kernel
theorem dX6_odds_81 : decode cX6_odds 81 = .ok (.aaload, 1) := by decide +kernel
theorem dX6_odds_82 : decode cX6_odds 82 = .ok (.bipush 10, 2) := by decide +kernel
theorem dX6_odds_84 : decode cX6_odds 84 = .ok (.aload_n 0, 1) := by decide +kernel
theorem dX6_odds_85 : decode cX6_odds 85 = .ok (.getfield 12, 3) := by decide +kernel
theorem dX6_odds_88 : decode cX6_odds 88 = .ok (.invokevirtual 287, 3) := by decide +kernel
theorem dX6_odds_91 : decode cX6_odds 91 = .ok (.bipush 30, 2) := by decide +kernel
theorem dX6_odds_93 : decode cX6_odds 93 = .ok (.irem, 1) := by decide +kernel
theorem dX6_odds_94 : decode cX6_odds 94 = .ok (.iadd, 1) := by decide +kernel
theorem dX6_odds_95 : decode cX6_odds 95 = .ok (.invokevirtual 290, 3) := by decide +kernel
theorem dX6_odds_98 : decode cX6_odds 98 = .ok (.iload_n 3, 1) := by decide +kernel
theorem dX6_odds_99 : decode cX6_odds 99 = .ok (.aload_n 0, 1) := by decide +kernel
theorem dX6_odds_100 : decode cX6_odds 100 = .ok (.getfield 32, 3) := by decide +kernel
theorem dX6_odds_103 : decode cX6_odds 103 = .ok (.invokevirtual 218, 3) := by decide +kernel
theorem dX6_odds_106 : decode cX6_odds 106 = .ok (.ifCond .ge 7, 3) := by decide +kernel
theorem dX6_odds_109 : decode cX6_odds 109 = .ok (.iconst 1, 1) := by decide +kernel
theorem dX6_odds_110 : decode cX6_odds 110 = .ok (.goto 4, 3) := by decide +kernel
theorem dX6_odds_113 : decode cX6_odds 113 = .ok (.iconst 0, 1) := by decide +kernel
theorem dX6_odds_114 : decode cX6_odds 114 = .ok (.iadd, 1) := by decide +kernel
theorem dX6_odds_115 : decode cX6_odds 115 = .ok (.istore_n 3, 1) := by decide +kernel
theorem dX6_odds_116 : decode cX6_odds 116 = .ok (.iinc 4 1, 3) := by decide +kernel
theorem dX6_odds_119 : decode cX6_odds 119 = .ok (.goto (-60), 3) := by decide +kernel
theorem dX6_odds_122 : decode cX6_odds 122 = .ok (.iload_n 3, 1) := by decide +kernel
theorem dX6_odds_123 : decode cX6_odds 123 = .ok (.ireturn, 1) := by decide +kernel
theorem dX6_worst_0 : decode cX6_worst 0 = .ok (.iconst (-1), 1) := by decide +kernel
theorem dX6_worst_1 : decode cX6_worst 1 = .ok (.istore_n 1, 1) := by decide +kernel
theorem dX6_worst_2 : decode cX6_worst 2 = .ok (.iconst 0, 1) := by decide +kernel
theorem dX6_worst_3 : decode cX6_worst 3 = .ok (.istore_n 2, 1) := by decide +kernel
theorem dX6_worst_4 : decode cX6_worst 4 = .ok (.iconst 0, 1) := by decide +kernel
theorem dX6_worst_5 : decode cX6_worst 5 = .ok (.istore_n 3, 1) := by decide +kernel
theorem dX6_worst_6 : decode cX6_worst 6 = .ok (.iload_n 3, 1) := by decide +kernel
theorem dX6_worst_7 : decode cX6_worst 7 = .ok (.aload_n 0, 1) := by decide +kernel
theorem dX6_worst_8 : decode cX6_worst 8 = .ok (.getfield 12, 3) := by decide +kernel
theorem dX6_worst_11 : decode cX6_worst 11 = .ok (.getfield 114, 3) := by decide +kernel
theorem dX6_worst_14 : decode cX6_worst 14 = .ok (.if_icmp .ge 40, 3) := by decide +kernel
theorem dX6_worst_17 : decode cX6_worst 17 = .ok (.aload_n 0, 1) := by decide +kernel
theorem dX6_worst_18 : decode cX6_worst 18 = .ok (.getfield 12, 3) := by decide +kernel
theorem dX6_worst_21 : decode cX6_worst 21 = .ok (.getfield 120, 3) := by decide +kernel
theorem dX6_worst_24 : decode cX6_worst 24 = .ok (.iload_n 3, 1) := by decide +kernel
theorem dX6_worst_25 : decode cX6_worst 25 = .ok (.aaload, 1) := by decide +kernel
theorem dX6_worst_26 : decode cX6_worst 26 = .ok (.getfield 147, 3) := by decide +kernel
theorem dX6_worst_29 : decode cX6_worst 29 = .ok (.iload_n 2, 1) := by decide +kernel
theorem dX6_worst_30 : decode cX6_worst 30 = .ok (.if_icmp .le 18, 3) := by decide +kernel
theorem dX6_worst_33 : decode cX6_worst 33 = .ok (.aload_n 0, 1) := by decide +kernel
theorem dX6_worst_34 : decode cX6_worst 34 = .ok (.getfield 12, 3) := by decide +kernel
theorem dX6_worst_37 : decode cX6_worst 37 = .ok (.getfield 120, 3) := by decide +kernel
theorem dX6_worst_40 : decode cX6_worst 40 = .ok (.iload_n 3, 1) := by decide +kernel
theorem dX6_worst_41 : decode cX6_worst 41 = .ok (.aaload, 1) := by decide +kernel
theorem dX6_worst_42 : decode cX6_worst 42 = .ok (.getfield 147, 3) := by decide +kernel
theorem dX6_worst_45 : decode cX6_worst 45 = .ok (.istore_n 2, 1) := by decide +kernel
theorem dX6_worst_46 : decode cX6_worst 46 = .ok (.iload_n 3, 1) := by decide +kernel
theorem dX6_worst_47 : decode cX6_worst 47 = .ok (.istore_n 1, 1) := by decide +kernel
theorem dX6_worst_48 : decode cX6_worst 48 = .ok (.iinc 3 1, 3) := by decide +kernel
theorem dX6_worst_51 : decode cX6_worst 51 = .ok (.goto (-45), 3) := by decide +kernel
theorem dX6_worst_54 : decode cX6_worst 54 = .ok (.iload_n 1, 1) := by decide +kernel
theorem dX6_worst_55 : decode cX6_worst 55 = .ok (.ifCond .ge 12, 3) := by decide +kernel
theorem dX6_worst_58 : decode cX6_worst 58 = .ok (.aload_n 0, 1) := by decide +kernel
theorem dX6_worst_59 : decode cX6_worst 59 = .ok (.ldc 207, 2) := by decide +kernel
theorem dX6_worst_61 : decode cX6_worst 61 = .ok (.invokevirtual 72, 3) := by decide +kernel
theorem dX6_worst_64 : decode cX6_worst 64 = .ok (.goto 4, 3) := by decide +kernel
theorem dX6_worst_67 : decode cX6_worst 67 = .ok (.iload_n 1, 1) := by decide +kernel
theorem dX6_worst_68 : decode cX6_worst 68 = .ok (.ireturn, 1) := by decide +kernel
theorem dX6_seed_0 : decode cX6_seed 0 = .ok (.aload_n 0, 1) := by decide +kernel
theorem dX6_seed_1 : decode cX6_seed 1 = .ok (.getfield 12, 3) := by decide +kernel
theorem dX6_seed_4 : decode cX6_seed 4 = .ok (.getfield 294, 3) := by decide +kernel
theorem dX6_seed_7 : decode cX6_seed 7 = .ok (.istore_n 2, 1) := by decide +kernel
theorem dX6_seed_8 : decode cX6_seed 8 = .ok (.aload_n 0, 1) := by decide +kernel
theorem dX6_seed_9 : decode cX6_seed 9 = .ok (.getfield 12, 3) := by decide +kernel
theorem dX6_seed_12 : decode cX6_seed 12 = .ok (.iload_n 1, 1) := by decide +kernel
theorem dX6_seed_13 : decode cX6_seed 13 = .ok (.putfield 294, 3) := by decide +kernel
theorem dX6_seed_16 : decode cX6_seed 16 = .ok (.iload_n 2, 1) := by decide +kernel
theorem dX6_seed_17 : decode cX6_seed 17 = .ok (.ireturn, 1) := by decide +kernel
theorem dX6_feed_0 : decode cX6_feed 0 = .ok (.iload_n 2, 1) := by decide +kernel
theorem dX6_feed_1 : decode cX6_feed 1 = .ok (.iconst 1, 1) := by decide +kernel
theorem dX6_feed_2 : decode cX6_feed 2 = .ok (.iconst 4, 1) := by decide +kernel
theorem dX6_feed_3 : decode cX6_feed 3 = .ok (.invokestatic 79, 3) := by decide +kernel
theorem dX6_feed_6 : decode cX6_feed 6 = .ok (.ifCond .ne 10, 3) := by decide +kernel
theorem dX6_feed_9 : decode cX6_feed 9 = .ok (.aload_n 0, 1) := by decide +kernel
theorem dX6_feed_10 : decode cX6_feed 10 = .ok (.ldc 71, 2) := by decide +kernel
theorem dX6_feed_12 : decode cX6_feed 12 = .ok (.invokevirtual 72, 3) := by decide +kernel
theorem dX6_feed_15 : decode cX6_feed 15 = .ok (.ireturn, 1) := by decide +kernel
theorem dX6_feed_16 : decode cX6_feed 16 = .ok (.aload_n 0, 1) := by decide +kernel
theorem dX6_feed_17 : decode cX6_feed 17 = .ok (.getfield 50, 3) := by decide +kernel
theorem dX6_feed_20 : decode cX6_feed 20 = .ok (.getfield 297, 3) := by decide +kernel
theorem dX6_feed_23 : decode cX6_feed 23 = .ok (.bipush 120, 2) := by decide +kernel
theorem dX6_feed_25 : decode cX6_feed 25 = .ok (.iload_n 2, 1) := by decide +kernel
theorem dX6_feed_26 : decode cX6_feed 26 = .ok (.isub, 1) := by decide +kernel
theorem dX6_feed_27 : decode cX6_feed 27 = .ok (.if_icmp .le 10, 3) := by decide +kernel
theorem dX6_feed_30 : decode cX6_feed 30 = .ok (.aload_n 0, 1) := by decide +kernel
theorem dX6_feed_31 : decode cX6_feed 31 = .ok (.ldc 109, 2) := by decide +kernel
theorem dX6_feed_33 : decode cX6_feed 33 = .ok (.invokevirtual 72, 3) := by decide +kernel
theorem dX6_feed_36 : decode cX6_feed 36 = .ok (.ireturn, 1) := by decide +kernel
theorem dX6_feed_37 : decode cX6_feed 37 = .ok (.iload_n 2, 1) := by decide +kernel
theorem dX6_feed_38 : decode cX6_feed 38 = .ok (.iconst 1, 1) := by decide +kernel
theorem dX6_feed_39 : decode cX6_feed 39 = .ok (.isub, 1) := by decide +kernel
theorem dX6_feed_40 : decode cX6_feed 40 = .ok (.istore_n 3, 1) := by decide +kernel
theorem dX6_feed_41 : decode cX6_feed 41 = .ok (.iload_n 3, 1) := by decide +kernel
theorem dX6_feed_42 : decode cX6_feed 42 = .ok (.ifCond .lt 26, 3) := by decide +kernel
theorem dX6_feed_45 : decode cX6_feed 45 = .ok (.aload_n 0, 1) := by decide +kernel
theorem dX6_feed_46 : decode cX6_feed 46 = .ok (.getfield 50, 3) := by decide +kernel
theorem dX6_feed_49 : decode cX6_feed 49 = .ok (.iload_n 1, 1) := by decide +kernel
theorem dX6_feed_50 : decode cX6_feed 50 = .ok (.bipush 8, 2) := by decide +kernel
theorem dX6_feed_52 : decode cX6_feed 52 = .ok (.iload_n 3, 1) := by decide +kernel
theorem dX6_feed_53 : decode cX6_feed 53 = .ok (.imul, 1) := by decide +kernel
theorem dX6_feed_54 : decode cX6_feed 54 = .ok (.iushr, 1) := by decide +kernel
theorem dX6_feed_55 : decode cX6_feed 55 = .ok (.sipush 255, 3) := by decide +kernel
theorem dX6_feed_58 : decode cX6_feed 58 = .ok (.iand, 1) := by decide +kernel
theorem dX6_feed_59 : decode cX6_feed 59 = .ok (.invokevirtual 298, 3) := by decide +kernel
theorem dX6_feed_62 : decode cX6_feed 62 = .ok (.iinc 3 (-1), 3) := by decide +kernel
theorem dX6_feed_65 : decode cX6_feed 65 = .ok (.goto (-24), 3) := by decide +kernel
theorem dX6_feed_68 : decode cX6_feed 68 = .ok (.aload_n 0, 1) := by decide +kernel
theorem dX6_feed_69 : decode cX6_feed 69 = .ok (.getfield 50, 3) := by decide +kernel
theorem dX6_feed_72 : decode cX6_feed 72 = .ok (.getfield 297, 3) := by decide +kernel
theorem dX6_feed_75 : decode cX6_feed 75 = .ok (.ireturn, 1) := by decide +kernel
theorem dX6_wipe_0 : decode cX6_wipe 0 = .ok (.aload_n 0, 1) := by decide +kernel
theorem dX6_wipe_1 : decode cX6_wipe 1 = .ok (.getfield 50, 3) := by decide +kernel
theorem dX6_wipe_4 : decode cX6_wipe 4 = .ok (.getfield 297, 3) := by decide +kernel
theorem dX6_wipe_7 : decode cX6_wipe 7 = .ok (.istore_n 1, 1) := by decide +kernel
theorem dX6_wipe_8 : decode cX6_wipe 8 = .ok (.aload_n 0, 1) := by decide +kernel
theorem dX6_wipe_9 : decode cX6_wipe 9 = .ok (.getfield 50, 3) := by decide +kernel
theorem dX6_wipe_12 : decode cX6_wipe 12 = .ok (.iconst 0, 1) := by decide +kernel
theorem dX6_wipe_13 : decode cX6_wipe 13 = .ok (.putfield 297, 3) := by decide +kernel
theorem dX6_wipe_16 : decode cX6_wipe 16 = .ok (.iload_n 1, 1) := by decide +kernel
theorem dX6_wipe_17 : decode cX6_wipe 17 = .ok (.ireturn, 1) := by decide +kernel
theorem dX6_text_0 : decode cX6_text 0 = .ok (.aload_n 0, 1) := by decide +kernel
theorem dX6_text_1 : decode cX6_text 1 = .ok (.getfield 23, 3) := by decide +kernel
theorem dX6_text_4 : decode cX6_text 4 = .ok (.aload_n 0, 1) := by decide +kernel
theorem dX6_text_5 : decode cX6_text 5 = .ok (.getfield 12, 3) := by decide +kernel
theorem dX6_text_8 : decode cX6_text 8 = .ok (.invokevirtual 194, 3) := by decide +kernel
theorem dX6_text_11 : decode cX6_text 11 = .ok (.aload_n 0, 1) := by decide +kernel
theorem dX6_text_12 : decode cX6_text 12 = .ok (.getfield 50, 3) := by decide +kernel
theorem dX6_text_15 : decode cX6_text 15 = .ok (.aload_n 0, 1) := by decide +kernel
theorem dX6_text_16 : decode cX6_text 16 = .ok (.getfield 23, 3) := by decide +kernel
theorem dX6_text_19 : decode cX6_text 19 = .ok (.invokevirtual 301, 3) := by decide +kernel
theorem dX6_text_22 : decode cX6_text 22 = .ok (.istore_n 1, 1) := by decide +kernel
theorem dX6_text_23 : decode cX6_text 23 = .ok (.iload_n 1, 1) := by decide +kernel
theorem dX6_text_24 : decode cX6_text 24 = .ok (.ifCond .le 14, 3) := by decide +kernel
theorem dX6_text_27 : decode cX6_text 27 = .ok (.aload_n 0, 1) := by decide +kernel
theorem dX6_text_28 : decode cX6_text 28 = .ok (.getfield 12, 3) := by decide +kernel
theorem dX6_text_31 : decode cX6_text 31 = .ok (.aload_n 0, 1) := by decide +kernel
theorem dX6_text_32 : decode cX6_text 32 = .ok (.getfield 23, 3) := by decide +kernel
theorem dX6_text_35 : decode cX6_text 35 = .ok (.invokevirtual 194, 3) := by decide +kernel
theorem dX6_text_38 : decode cX6_text 38 = .ok (.aload_n 0, 1) := by decide +kernel
theorem dX6_text_39 : decode cX6_text 39 = .ok (.getfield 50, 3) := by decide +kernel
theorem dX6_text_42 : decode cX6_text 42 = .ok (.iconst 0, 1) := by decide +kernel
theorem dX6_text_43 : decode cX6_text 43 = .ok (.putfield 297, 3) := by decide +kernel
theorem dX6_text_46 : decode cX6_text 46 = .ok (.iload_n 1, 1) := by decide +kernel
theorem dX6_text_47 : decode cX6_text 47 = .ok (.ireturn, 1) := by decide +kernel
theorem dX6_hold_0 : decode cX6_hold 0 = .ok (.iload_n 1, 1) := by decide +kernel
theorem dX6_hold_1 : decode cX6_hold 1 = .ok (.iconst 0, 1) := by decide +kernel
theorem dX6_hold_2 : decode cX6_hold 2 = .ok (.bipush 9, 2) := by decide +kernel
theorem dX6_hold_4 : decode cX6_hold 4 = .ok (.invokestatic 79, 3) := by decide +kernel
theorem dX6_hold_7 : decode cX6_hold 7 = .ok (.ifCond .eq 16, 3) := by decide +kernel
theorem dX6_hold_10 : decode cX6_hold 10 = .ok (.iload_n 2, 1) := by decide +kernel
theorem dX6_hold_11 : decode cX6_hold 11 = .ok (.iconst (-1), 1) := by decide +kernel
theorem dX6_hold_12 : decode cX6_hold 12 = .ok (.if_icmp .eq 18, 3) := by decide +kernel
theorem dX6_hold_15 : decode cX6_hold 15 = .ok (.aload_n 0, 1) := by decide +kernel
theorem dX6_hold_16 : decode cX6_hold 16 = .ok (.iload_n 2, 1) := by decide +kernel
theorem dX6_hold_17 : decode cX6_hold 17 = .ok (.invokevirtual 117, 3) := by decide +kernel
theorem dX6_hold_20 : decode cX6_hold 20 = .ok (.ifCond .ne 10, 3) := by decide +kernel
theorem dX6_hold_23 : decode cX6_hold 23 = .ok (.aload_n 0, 1) := by decide +kernel
theorem dX6_hold_24 : decode cX6_hold 24 = .ok (.ldc 71, 2) := by decide +kernel
theorem dX6_hold_26 : decode cX6_hold 26 = .ok (.invokevirtual 72, 3) := by decide +kernel
theorem dX6_hold_29 : decode cX6_hold 29 = .ok (.ireturn, 1) := by decide +kernel
theorem dX6_hold_30 : decode cX6_hold 30 = .ok (.aload_n 0, 1) := by decide +kernel
theorem dX6_hold_31 : decode cX6_hold 31 = .ok (.getfield 12, 3) := by decide +kernel
theorem dX6_hold_34 : decode cX6_hold 34 = .ok (.getfield 305, 3) := by decide +kernel
theorem dX6_hold_37 : decode cX6_hold 37 = .ok (.iload_n 1, 1) := by decide +kernel
theorem dX6_hold_38 : decode cX6_hold 38 = .ok (.iload_n 2, 1) := by decide +kernel
theorem dX6_hold_39 : decode cX6_hold 39 = .ok (.iastore, 1) := by decide +kernel
theorem dX6_hold_40 : decode cX6_hold 40 = .ok (.iconst 1, 1) := by decide +kernel
theorem dX6_hold_41 : decode cX6_hold 41 = .ok (.ireturn, 1) := by decide +kernel
theorem dX6_as_0 : decode cX6_as 0 = .ok (.iload_n 1, 1) := by decide +kernel
theorem dX6_as_1 : decode cX6_as 1 = .ok (.iconst 0, 1) := by decide +kernel
theorem dX6_as_2 : decode cX6_as 2 = .ok (.bipush 9, 2) := by decide +kernel
theorem dX6_as_4 : decode cX6_as 4 = .ok (.invokestatic 79, 3) := by decide +kernel
theorem dX6_as_7 : decode cX6_as 7 = .ok (.ifCond .eq 10, 3) := by decide +kernel
theorem dX6_as_10 : decode cX6_as 10 = .ok (.iload_n 2, 1) := by decide +kernel
theorem dX6_as_11 : decode cX6_as 11 = .ok (.invokestatic 99, 3) := by decide +kernel
theorem dX6_as_14 : decode cX6_as 14 = .ok (.ifCond .ne 10, 3) := by decide +kernel
theorem dX6_as_17 : decode cX6_as 17 = .ok (.aload_n 0, 1) := by decide +kernel
theorem dX6_as_18 : decode cX6_as 18 = .ok (.ldc 71, 2) := by decide +kernel
theorem dX6_as_20 : decode cX6_as 20 = .ok (.invokevirtual 72, 3) := by decide +kernel
theorem dX6_as_23 : decode cX6_as 23 = .ok (.ireturn, 1) := by decide +kernel
theorem dX6_as_24 : decode cX6_as 24 = .ok (.aload_n 0, 1) := by decide +kernel
theorem dX6_as_25 : decode cX6_as 25 = .ok (.getfield 12, 3) := by decide +kernel
theorem dX6_as_28 : decode cX6_as 28 = .ok (.getfield 305, 3) := by decide +kernel
theorem dX6_as_31 : decode cX6_as 31 = .ok (.iload_n 1, 1) := by decide +kernel
theorem dX6_as_32 : decode cX6_as 32 = .ok (.iaload, 1) := by decide +kernel
theorem dX6_as_33 : decode cX6_as 33 = .ok (.istore_n 3, 1) := by decide +kernel
theorem dX6_as_34 : decode cX6_as 34 = .ok (.aload_n 0, 1) := by decide +kernel
theorem dX6_as_35 : decode cX6_as 35 = .ok (.iload_n 3, 1) := by decide +kernel
theorem dX6_as_36 : decode cX6_as 36 = .ok (.invokevirtual 117, 3) := by decide +kernel
theorem dX6_as_39 : decode cX6_as 39 = .ok (.ifCond .ne 11, 3) := by decide +kernel
theorem dX6_as_42 : decode cX6_as 42 = .ok (.aload_n 0, 1) := by decide +kernel
theorem dX6_as_43 : decode cX6_as 43 = .ok (.ldc_w 308, 3) := by decide +kernel
theorem dX6_as_46 : decode cX6_as 46 = .ok (.invokevirtual 72, 3) := by decide +kernel
theorem dX6_as_49 : decode cX6_as 49 = .ok (.ireturn, 1) := by decide +kernel
theorem dX6_as_50 : decode cX6_as 50 = .ok (.aload_n 0, 1) := by decide +kernel
theorem dX6_as_51 : decode cX6_as 51 = .ok (.getfield 12, 3) := by decide +kernel
theorem dX6_as_54 : decode cX6_as 54 = .ok (.getfield 120, 3) := by decide +kernel
theorem dX6_as_57 : decode cX6_as 57 = .ok (.iload_n 3, 1) := by decide +kernel
end
section
theorem dX6_as_58 : decode cX6_as 58 = .ok (.aaload, 1) := by decide +kernel
theorem dX6_as_59 : decode cX6_as 59 = .ok (.iload_n 2, 1) := by decide +kernel
theorem dX6_as_60 : decode cX6_as 60 = .ok (.invokevirtual 309, 3) := by decide +kernel
theorem dX6_as_63 : decode cX6_as 63 = .ok (.ifCond .eq 7, 3) := by decide +kernel
theorem dX6_as_66 : decode cX6_as 66 = .ok (.iload_n 3, 1) := by decide +kernel
theorem dX6_as_67 : decode cX6_as 67 = .ok (.goto 10, 3) := by decide +kernel
theorem dX6_as_70 : decode cX6_as 70 = .ok (.aload_n 0, 1) := by decide +kernel
theorem dX6_as_71 : decode cX6_as 71 = .ok (.ldc_w 312, 3) := by decide +kernel
theorem dX6_as_74 : decode cX6_as 74 = .ok (.invokevirtual 72, 3) := by decide +kernel
theorem dX6_as_77 : decode cX6_as 77 = .ok (.ireturn, 1) := by decide +kernel
theorem dX6_sheet_0 : decode cX6_sheet 0 = .ok (.iload_n 1, 1) := by decide +kernel
theorem dX6_sheet_1 : decode cX6_sheet 1 = .ok (.invokestatic 313, 3) := by decide +kernel
theorem dX6_sheet_4 : decode cX6_sheet 4 = .ok (.ifCond .eq 25, 3) := by decide +kernel
theorem dX6_sheet_7 : decode cX6_sheet 7 = .ok (.iload_n 2, 1) := by decide +kernel
theorem dX6_sheet_8 : decode cX6_sheet 8 = .ok (.ifCond .eq 28, 3) := by decide +kernel
theorem dX6_sheet_11 : decode cX6_sheet 11 = .ok (.iload_n 2, 1) := by decide +kernel
theorem dX6_sheet_12 : decode cX6_sheet 12 = .ok (.bipush 8, 2) := by decide +kernel
theorem dX6_sheet_14 : decode cX6_sheet 14 = .ok (.if_icmp .eq 22, 3) := by decide +kernel
theorem dX6_sheet_17 : decode cX6_sheet 17 = .ok (.iload_n 2, 1) := by decide +kernel
theorem dX6_sheet_18 : decode cX6_sheet 18 = .ok (.bipush 16, 2) := by decide +kernel
theorem dX6_sheet_20 : decode cX6_sheet 20 = .ok (.if_icmp .eq 16, 3) := by decide +kernel
theorem dX6_sheet_23 : decode cX6_sheet 23 = .ok (.iload_n 2, 1) := by decide +kernel
theorem dX6_sheet_24 : decode cX6_sheet 24 = .ok (.bipush 32, 2) := by decide +kernel
theorem dX6_sheet_26 : decode cX6_sheet 26 = .ok (.if_icmp .eq 10, 3) := by decide +kernel
theorem dX6_sheet_29 : decode cX6_sheet 29 = .ok (.aload_n 0, 1) := by decide +kernel
theorem dX6_sheet_30 : decode cX6_sheet 30 = .ok (.ldc 71, 2) := by decide +kernel
theorem dX6_sheet_32 : decode cX6_sheet 32 = .ok (.invokevirtual 72, 3) := by decide +kernel
theorem dX6_sheet_35 : decode cX6_sheet 35 = .ok (.ireturn, 1) := by decide +kernel
theorem dX6_sheet_36 : decode cX6_sheet 36 = .ok (.iload_n 3, 1) := by decide +kernel
theorem dX6_sheet_37 : decode cX6_sheet 37 = .ok (.ifCond .ge 11, 3) := by decide +kernel
theorem dX6_sheet_40 : decode cX6_sheet 40 = .ok (.aload_n 0, 1) := by decide +kernel
theorem dX6_sheet_41 : decode cX6_sheet 41 = .ok (.ldc_w 316, 3) := by decide +kernel
theorem dX6_sheet_44 : decode cX6_sheet 44 = .ok (.invokevirtual 72, 3) := by decide +kernel
theorem dX6_sheet_47 : decode cX6_sheet 47 = .ok (.ireturn, 1) := by decide +kernel
theorem dX6_sheet_48 : decode cX6_sheet 48 = .ok (.iload_n 3, 1) := by decide +kernel
theorem dX6_sheet_49 : decode cX6_sheet 49 = .ok (.bipush 40, 2) := by decide +kernel
theorem dX6_sheet_51 : decode cX6_sheet 51 = .ok (.if_icmp .le 10, 3) := by decide +kernel
theorem dX6_sheet_54 : decode cX6_sheet 54 = .ok (.aload_n 0, 1) := by decide +kernel
theorem dX6_sheet_55 : decode cX6_sheet 55 = .ok (.ldc 71, 2) := by decide +kernel
theorem dX6_sheet_57 : decode cX6_sheet 57 = .ok (.invokevirtual 72, 3) := by decide +kernel
theorem dX6_sheet_60 : decode cX6_sheet 60 = .ok (.ireturn, 1) := by decide +kernel
theorem dX6_sheet_61 : decode cX6_sheet 61 = .ok (.aload_n 0, 1) := by decide +kernel
theorem dX6_sheet_62 : decode cX6_sheet 62 = .ok (.getfield 56, 3) := by decide +kernel
theorem dX6_sheet_65 : decode cX6_sheet 65 = .ok (.iload_n 1, 1) := by decide +kernel
theorem dX6_sheet_66 : decode cX6_sheet 66 = .ok (.aaload, 1) := by decide +kernel
theorem dX6_sheet_67 : decode cX6_sheet 67 = .ok (.iload_n 2, 1) := by decide +kernel
theorem dX6_sheet_68 : decode cX6_sheet 68 = .ok (.iload_n 3, 1) := by decide +kernel
theorem dX6_sheet_69 : decode cX6_sheet 69 = .ok (.invokevirtual 317, 3) := by decide +kernel
theorem dX6_sheet_72 : decode cX6_sheet 72 = .ok (.aload_n 0, 1) := by decide +kernel
theorem dX6_sheet_73 : decode cX6_sheet 73 = .ok (.getfield 56, 3) := by decide +kernel
theorem dX6_sheet_76 : decode cX6_sheet 76 = .ok (.iload_n 1, 1) := by decide +kernel
theorem dX6_sheet_77 : decode cX6_sheet 77 = .ok (.aaload, 1) := by decide +kernel
theorem dX6_sheet_78 : decode cX6_sheet 78 = .ok (.getfield 320, 3) := by decide +kernel
theorem dX6_sheet_81 : decode cX6_sheet 81 = .ok (.ireturn, 1) := by decide +kernel
theorem dX6_write_0 : decode cX6_write 0 = .ok (.iload_n 1, 1) := by decide +kernel
theorem dX6_write_1 : decode cX6_write 1 = .ok (.invokestatic 313, 3) := by decide +kernel
theorem dX6_write_4 : decode cX6_write 4 = .ok (.ifCond .ne 10, 3) := by decide +kernel
theorem dX6_write_7 : decode cX6_write 7 = .ok (.aload_n 0, 1) := by decide +kernel
theorem dX6_write_8 : decode cX6_write 8 = .ok (.ldc 71, 2) := by decide +kernel
theorem dX6_write_10 : decode cX6_write 10 = .ok (.invokevirtual 72, 3) := by decide +kernel
theorem dX6_write_13 : decode cX6_write 13 = .ok (.ireturn, 1) := by decide +kernel
theorem dX6_write_14 : decode cX6_write 14 = .ok (.aload_n 0, 1) := by decide +kernel
theorem dX6_write_15 : decode cX6_write 15 = .ok (.getfield 56, 3) := by decide +kernel
theorem dX6_write_18 : decode cX6_write 18 = .ok (.iload_n 1, 1) := by decide +kernel
theorem dX6_write_19 : decode cX6_write 19 = .ok (.aaload, 1) := by decide +kernel
theorem dX6_write_20 : decode cX6_write 20 = .ok (.invokevirtual 321, 3) := by decide +kernel
theorem dX6_write_23 : decode cX6_write 23 = .ok (.ifCond .eq 11, 3) := by decide +kernel
theorem dX6_write_26 : decode cX6_write 26 = .ok (.aload_n 0, 1) := by decide +kernel
theorem dX6_write_27 : decode cX6_write 27 = .ok (.ldc_w 308, 3) := by decide +kernel
theorem dX6_write_30 : decode cX6_write 30 = .ok (.invokevirtual 72, 3) := by decide +kernel
theorem dX6_write_33 : decode cX6_write 33 = .ok (.ireturn, 1) := by decide +kernel
theorem dX6_write_34 : decode cX6_write 34 = .ok (.iload_n 2, 1) := by decide +kernel
theorem dX6_write_35 : decode cX6_write 35 = .ok (.iconst 0, 1) := by decide +kernel
theorem dX6_write_36 : decode cX6_write 36 = .ok (.aload_n 0, 1) := by decide +kernel
theorem dX6_write_37 : decode cX6_write 37 = .ok (.getfield 56, 3) := by decide +kernel
theorem dX6_write_40 : decode cX6_write 40 = .ok (.iload_n 1, 1) := by decide +kernel
theorem dX6_write_41 : decode cX6_write 41 = .ok (.aaload, 1) := by decide +kernel
theorem dX6_write_42 : decode cX6_write 42 = .ok (.getfield 320, 3) := by decide +kernel
theorem dX6_write_45 : decode cX6_write 45 = .ok (.iconst 1, 1) := by decide +kernel
theorem dX6_write_46 : decode cX6_write 46 = .ok (.isub, 1) := by decide +kernel
theorem dX6_write_47 : decode cX6_write 47 = .ok (.invokestatic 79, 3) := by decide +kernel
theorem dX6_write_50 : decode cX6_write 50 = .ok (.ifCond .ne 10, 3) := by decide +kernel
theorem dX6_write_53 : decode cX6_write 53 = .ok (.aload_n 0, 1) := by decide +kernel
theorem dX6_write_54 : decode cX6_write 54 = .ok (.ldc 71, 2) := by decide +kernel
theorem dX6_write_56 : decode cX6_write 56 = .ok (.invokevirtual 72, 3) := by decide +kernel
theorem dX6_write_59 : decode cX6_write 59 = .ok (.ireturn, 1) := by decide +kernel
theorem dX6_write_60 : decode cX6_write 60 = .ok (.aload_n 0, 1) := by decide +kernel
theorem dX6_write_61 : decode cX6_write 61 = .ok (.getfield 56, 3) := by decide +kernel
theorem dX6_write_64 : decode cX6_write 64 = .ok (.iload_n 1, 1) := by decide +kernel
theorem dX6_write_65 : decode cX6_write 65 = .ok (.aaload, 1) := by decide +kernel
theorem dX6_write_66 : decode cX6_write 66 = .ok (.getfield 324, 3) := by decide +kernel
theorem dX6_write_69 : decode cX6_write 69 = .ok (.iload_n 2, 1) := by decide +kernel
theorem dX6_write_70 : decode cX6_write 70 = .ok (.aload_n 0, 1) := by decide +kernel
theorem dX6_write_71 : decode cX6_write 71 = .ok (.getfield 56, 3) := by decide +kernel
theorem dX6_write_74 : decode cX6_write 74 = .ok (.iload_n 1, 1) := by decide +kernel
theorem dX6_write_75 : decode cX6_write 75 = .ok (.aaload, 1) := by decide +kernel
theorem dX6_write_76 : decode cX6_write 76 = .ok (.iload_n 3, 1) := by decide +kernel
theorem dX6_write_77 : decode cX6_write 77 = .ok (.invokevirtual 327, 3) := by decide +kernel
theorem dX6_write_80 : decode cX6_write 80 = .ok (.iastore, 1) := by decide +kernel
theorem dX6_write_81 : decode cX6_write 81 = .ok (.iconst 1, 1) := by decide +kernel
theorem dX6_write_82 : decode cX6_write 82 = .ok (.ireturn, 1) := by decide +kernel
theorem dX6_copy_0 : decode cX6_copy 0 = .ok (.iload_n 1, 1) := by decide +kernel
theorem dX6_copy_1 : decode cX6_copy 1 = .ok (.invokestatic 313, 3) := by decide +kernel
theorem dX6_copy_4 : decode cX6_copy 4 = .ok (.ifCond .eq 10, 3) := by decide +kernel
theorem dX6_copy_7 : decode cX6_copy 7 = .ok (.iload_n 3, 1) := by decide +kernel
theorem dX6_copy_8 : decode cX6_copy 8 = .ok (.invokestatic 313, 3) := by decide +kernel
theorem dX6_copy_11 : decode cX6_copy 11 = .ok (.ifCond .ne 10, 3) := by decide +kernel
theorem dX6_copy_14 : decode cX6_copy 14 = .ok (.aload_n 0, 1) := by decide +kernel
theorem dX6_copy_15 : decode cX6_copy 15 = .ok (.ldc 71, 2) := by decide +kernel
theorem dX6_copy_17 : decode cX6_copy 17 = .ok (.invokevirtual 72, 3) := by decide +kernel
theorem dX6_copy_20 : decode cX6_copy 20 = .ok (.ireturn, 1) := by decide +kernel
theorem dX6_copy_21 : decode cX6_copy 21 = .ok (.aload_n 0, 1) := by decide +kernel
theorem dX6_copy_22 : decode cX6_copy 22 = .ok (.getfield 56, 3) := by decide +kernel
theorem dX6_copy_25 : decode cX6_copy 25 = .ok (.iload_n 1, 1) := by decide +kernel
theorem dX6_copy_26 : decode cX6_copy 26 = .ok (.aaload, 1) := by decide +kernel
theorem dX6_copy_27 : decode cX6_copy 27 = .ok (.invokevirtual 321, 3) := by decide +kernel
theorem dX6_copy_30 : decode cX6_copy 30 = .ok (.ifCond .ne 15, 3) := by decide +kernel
theorem dX6_copy_33 : decode cX6_copy 33 = .ok (.aload_n 0, 1) := by decide +kernel
theorem dX6_copy_34 : decode cX6_copy 34 = .ok (.getfield 56, 3) := by decide +kernel
theorem dX6_copy_37 : decode cX6_copy 37 = .ok (.iload_n 3, 1) := by decide +kernel
theorem dX6_copy_38 : decode cX6_copy 38 = .ok (.aaload, 1) := by decide +kernel
theorem dX6_copy_39 : decode cX6_copy 39 = .ok (.invokevirtual 321, 3) := by decide +kernel
theorem dX6_copy_42 : decode cX6_copy 42 = .ok (.ifCond .eq 11, 3) := by decide +kernel
theorem dX6_copy_45 : decode cX6_copy 45 = .ok (.aload_n 0, 1) := by decide +kernel
theorem dX6_copy_46 : decode cX6_copy 46 = .ok (.ldc_w 308, 3) := by decide +kernel
theorem dX6_copy_49 : decode cX6_copy 49 = .ok (.invokevirtual 72, 3) := by decide +kernel
theorem dX6_copy_52 : decode cX6_copy 52 = .ok (.ireturn, 1) := by decide +kernel
theorem dX6_copy_53 : decode cX6_copy 53 = .ok (.aload_n 0, 1) := by decide +kernel
theorem dX6_copy_54 : decode cX6_copy 54 = .ok (.getfield 56, 3) := by decide +kernel
theorem dX6_copy_57 : decode cX6_copy 57 = .ok (.iload_n 1, 1) := by decide +kernel
theorem dX6_copy_58 : decode cX6_copy 58 = .ok (.aaload, 1) := by decide +kernel
theorem dX6_copy_59 : decode cX6_copy 59 = .ok (.getfield 330, 3) := by decide +kernel
theorem dX6_copy_62 : decode cX6_copy 62 = .ok (.aload_n 0, 1) := by decide +kernel
theorem dX6_copy_63 : decode cX6_copy 63 = .ok (.getfield 56, 3) := by decide +kernel
theorem dX6_copy_66 : decode cX6_copy 66 = .ok (.iload_n 3, 1) := by decide +kernel
theorem dX6_copy_67 : decode cX6_copy 67 = .ok (.aaload, 1) := by decide +kernel
theorem dX6_copy_68 : decode cX6_copy 68 = .ok (.getfield 330, 3) := by decide +kernel
theorem dX6_copy_71 : decode cX6_copy 71 = .ok (.if_icmp .eq 11, 3) := by decide +kernel
theorem dX6_copy_74 : decode cX6_copy 74 = .ok (.aload_n 0, 1) := by decide +kernel
theorem dX6_copy_75 : decode cX6_copy 75 = .ok (.ldc_w 312, 3) := by decide +kernel
theorem dX6_copy_78 : decode cX6_copy 78 = .ok (.invokevirtual 72, 3) := by decide +kernel
theorem dX6_copy_81 : decode cX6_copy 81 = .ok (.ireturn, 1) := by decide +kernel
theorem dX6_copy_82 : decode cX6_copy 82 = .ok (.aload_n 0, 1) := by decide +kernel
theorem dX6_copy_83 : decode cX6_copy 83 = .ok (.getfield 56, 3) := by decide +kernel
theorem dX6_copy_86 : decode cX6_copy 86 = .ok (.iload_n 1, 1) := by decide +kernel
theorem dX6_copy_87 : decode cX6_copy 87 = .ok (.aaload, 1) := by decide +kernel
theorem dX6_copy_88 : decode cX6_copy 88 = .ok (.iload_n 2, 1) := by decide +kernel
theorem dX6_copy_89 : decode cX6_copy 89 = .ok (.iload 5, 2) := by decide +kernel
theorem dX6_copy_91 : decode cX6_copy 91 = .ok (.invokevirtual 333, 3) := by decide +kernel
theorem dX6_copy_94 : decode cX6_copy 94 = .ok (.ifCond .eq 19, 3) := by decide +kernel
theorem dX6_copy_97 : decode cX6_copy 97 = .ok (.aload_n 0, 1) := by decide +kernel
theorem dX6_copy_98 : decode cX6_copy 98 = .ok (.getfield 56, 3) := by decide +kernel
theorem dX6_copy_101 : decode cX6_copy 101 = .ok (.iload_n 3, 1) := by decide +kernel
theorem dX6_copy_102 : decode cX6_copy 102 = .ok (.aaload, 1) := by decide +kernel
theorem dX6_copy_103 : decode cX6_copy 103 = .ok (.iload 4, 2) := by decide +kernel
theorem dX6_copy_105 : decode cX6_copy 105 = .ok (.iload 5, 2) := by decide +kernel
theorem dX6_copy_107 : decode cX6_copy 107 = .ok (.invokevirtual 333, 3) := by decide +kernel
theorem dX6_copy_110 : decode cX6_copy 110 = .ok (.ifCond .ne 10, 3) := by decide +kernel
theorem dX6_copy_113 : decode cX6_copy 113 = .ok (.aload_n 0, 1) := by decide +kernel
theorem dX6_copy_114 : decode cX6_copy 114 = .ok (.ldc 71, 2) := by decide +kernel
theorem dX6_copy_116 : decode cX6_copy 116 = .ok (.invokevirtual 72, 3) := by decide +kernel
theorem dX6_copy_119 : decode cX6_copy 119 = .ok (.ireturn, 1) := by decide +kernel
theorem dX6_copy_120 : decode cX6_copy 120 = .ok (.aload_n 0, 1) := by decide +kernel
theorem dX6_copy_121 : decode cX6_copy 121 = .ok (.getfield 56, 3) := by decide +kernel
theorem dX6_copy_124 : decode cX6_copy 124 = .ok (.iload_n 1, 1) := by decide +kernel
theorem dX6_copy_125 : decode cX6_copy 125 = .ok (.aaload, 1) := by decide +kernel
theorem dX6_copy_126 : decode cX6_copy 126 = .ok (.getfield 324, 3) := by decide +kernel
theorem dX6_copy_129 : decode cX6_copy 129 = .ok (.iload_n 2, 1) := by decide +kernel
theorem dX6_copy_130 : decode cX6_copy 130 = .ok (.aload_n 0, 1) := by decide +kernel
theorem dX6_copy_131 : decode cX6_copy 131 = .ok (.getfield 56, 3) := by decide +kernel
theorem dX6_copy_134 : decode cX6_copy 134 = .ok (.iload_n 3, 1) := by decide +kernel
theorem dX6_copy_135 : decode cX6_copy 135 = .ok (.aaload, 1) := by decide +kernel
theorem dX6_copy_136 : decode cX6_copy 136 = .ok (.getfield 324, 3) := by decide +kernel
theorem dX6_copy_139 : decode cX6_copy 139 = .ok (.iload 4, 2) := by decide +kernel
theorem dX6_copy_141 : decode cX6_copy 141 = .ok (.iload 5, 2) := by decide +kernel
theorem dX6_copy_143 : decode cX6_copy 143 = .ok (.invokestatic 336, 3) := by decide +kernel
theorem dX6_copy_146 : decode cX6_copy 146 = .ok (.iload 5, 2) := by decide +kernel
theorem dX6_copy_148 : decode cX6_copy 148 = .ok (.ireturn, 1) := by decide +kernel
theorem dX6_load_0 : decode cX6_load 0 = .ok (.iload_n 1, 1) := by decide +kernel
theorem dX6_load_1 : decode cX6_load 1 = .ok (.invokestatic 313, 3) := by decide +kernel
theorem dX6_load_4 : decode cX6_load 4 = .ok (.ifCond .ne 10, 3) := by decide +kernel
theorem dX6_load_7 : decode cX6_load 7 = .ok (.aload_n 0, 1) := by decide +kernel
theorem dX6_load_8 : decode cX6_load 8 = .ok (.ldc 71, 2) := by decide +kernel
theorem dX6_load_10 : decode cX6_load 10 = .ok (.invokevirtual 72, 3) := by decide +kernel
theorem dX6_load_13 : decode cX6_load 13 = .ok (.ireturn, 1) := by decide +kernel
theorem dX6_load_14 : decode cX6_load 14 = .ok (.aload_n 0, 1) := by decide +kernel
theorem dX6_load_15 : decode cX6_load 15 = .ok (.getfield 56, 3) := by decide +kernel
theorem dX6_load_18 : decode cX6_load 18 = .ok (.iload_n 1, 1) := by decide +kernel
theorem dX6_load_19 : decode cX6_load 19 = .ok (.aaload, 1) := by decide +kernel
theorem dX6_load_20 : decode cX6_load 20 = .ok (.invokevirtual 321, 3) := by decide +kernel
theorem dX6_load_23 : decode cX6_load 23 = .ok (.ifCond .eq 11, 3) := by decide +kernel
theorem dX6_load_26 : decode cX6_load 26 = .ok (.aload_n 0, 1) := by decide +kernel
theorem dX6_load_27 : decode cX6_load 27 = .ok (.ldc_w 308, 3) := by decide +kernel
theorem dX6_load_30 : decode cX6_load 30 = .ok (.invokevirtual 72, 3) := by decide +kernel
theorem dX6_load_33 : decode cX6_load 33 = .ok (.ireturn, 1) := by decide +kernel
theorem dX6_load_34 : decode cX6_load 34 = .ok (.iload_n 2, 1) := by decide +kernel
theorem dX6_load_35 : decode cX6_load 35 = .ok (.invokestatic 64, 3) := by decide +kernel
theorem dX6_load_38 : decode cX6_load 38 = .ok (.ifCond .ne 10, 3) := by decide +kernel
theorem dX6_load_41 : decode cX6_load 41 = .ok (.aload_n 0, 1) := by decide +kernel
theorem dX6_load_42 : decode cX6_load 42 = .ok (.ldc 71, 2) := by decide +kernel
theorem dX6_load_44 : decode cX6_load 44 = .ok (.invokevirtual 72, 3) := by decide +kernel
theorem dX6_load_47 : decode cX6_load 47 = .ok (.ireturn, 1) := by decide +kernel
theorem dX6_load_48 : decode cX6_load 48 = .ok (.aload_n 0, 1) := by decide +kernel
theorem dX6_load_49 : decode cX6_load 49 = .ok (.getfield 56, 3) := by decide +kernel
theorem dX6_load_52 : decode cX6_load 52 = .ok (.iload_n 1, 1) := by decide +kernel
theorem dX6_load_53 : decode cX6_load 53 = .ok (.aaload, 1) := by decide +kernel
theorem dX6_load_54 : decode cX6_load 54 = .ok (.getfield 320, 3) := by decide +kernel
theorem dX6_load_57 : decode cX6_load 57 = .ok (.bipush 31, 2) := by decide +kernel
theorem dX6_load_59 : decode cX6_load 59 = .ok (.iload_n 2, 1) := by decide +kernel
theorem dX6_load_60 : decode cX6_load 60 = .ok (.isub, 1) := by decide +kernel
theorem dX6_load_61 : decode cX6_load 61 = .ok (.invokestatic 342, 3) := by decide +kernel
theorem dX6_load_64 : decode cX6_load 64 = .ok (.istore_n 3, 1) := by decide +kernel
theorem dX6_load_65 : decode cX6_load 65 = .ok (.iconst 0, 1) := by decide +kernel
theorem dX6_load_66 : decode cX6_load 66 = .ok (.istore 4, 2) := by decide +kernel
theorem dX6_load_68 : decode cX6_load 68 = .ok (.iload 4, 2) := by decide +kernel
theorem dX6_load_70 : decode cX6_load 70 = .ok (.iload_n 3, 1) := by decide +kernel
theorem dX6_load_71 : decode cX6_load 71 = .ok (.if_icmp .ge 51, 3) := by decide +kernel
theorem dX6_load_74 : decode cX6_load 74 = .ok (.aload_n 0, 1) := by decide +kernel
theorem dX6_load_75 : decode cX6_load 75 = .ok (.getfield 56, 3) := by decide +kernel
theorem dX6_load_78 : decode cX6_load 78 = .ok (.iload_n 1, 1) := by decide +kernel
theorem dX6_load_79 : decode cX6_load 79 = .ok (.aaload, 1) := by decide +kernel
theorem dX6_load_80 : decode cX6_load 80 = .ok (.getfield 324, 3) := by decide +kernel
theorem dX6_load_83 : decode cX6_load 83 = .ok (.iload 4, 2) := by decide +kernel
theorem dX6_load_85 : decode cX6_load 85 = .ok (.iaload, 1) := by decide +kernel
theorem dX6_load_86 : decode cX6_load 86 = .ok (.invokestatic 68, 3) := by decide +kernel
theorem dX6_load_89 : decode cX6_load 89 = .ok (.ifCond .eq 33, 3) := by decide +kernel
theorem dX6_load_92 : decode cX6_load 92 = .ok (.aload_n 0, 1) := by decide +kernel
theorem dX6_load_93 : decode cX6_load 93 = .ok (.getfield 12, 3) := by decide +kernel
theorem dX6_load_96 : decode cX6_load 96 = .ok (.getfield 76, 3) := by decide +kernel
theorem dX6_load_99 : decode cX6_load 99 = .ok (.iload_n 2, 1) := by decide +kernel
theorem dX6_load_100 : decode cX6_load 100 = .ok (.iload 4, 2) := by decide +kernel
theorem dX6_load_102 : decode cX6_load 102 = .ok (.iadd, 1) := by decide +kernel
theorem dX6_load_103 : decode cX6_load 103 = .ok (.aload_n 0, 1) := by decide +kernel
theorem dX6_load_104 : decode cX6_load 104 = .ok (.getfield 56, 3) := by decide +kernel
theorem dX6_load_107 : decode cX6_load 107 = .ok (.iload_n 1, 1) := by decide +kernel
theorem dX6_load_108 : decode cX6_load 108 = .ok (.aaload, 1) := by decide +kernel
theorem dX6_load_109 : decode cX6_load 109 = .ok (.getfield 324, 3) := by decide +kernel
theorem dX6_load_112 : decode cX6_load 112 = .ok (.iload 4, 2) := by decide +kernel
theorem dX6_load_114 : decode cX6_load 114 = .ok (.iaload, 1) := by decide +kernel
theorem dX6_load_115 : decode cX6_load 115 = .ok (.iastore, 1) := by decide +kernel
theorem dX6_load_116 : decode cX6_load 116 = .ok (.iinc 4 1, 3) := by decide +kernel
theorem dX6_load_119 : decode cX6_load 119 = .ok (.goto (-51), 3) := by decide +kernel
theorem dX6_load_122 : decode cX6_load 122 = .ok (.iload 4, 2) := by decide +kernel
theorem dX6_load_124 : decode cX6_load 124 = .ok (.ireturn, 1) := by decide +kernel
theorem dX6_judge_0 : decode cX6_judge 0 = .ok (.iload_n 1, 1) := by decide +kernel
theorem dX6_judge_1 : decode cX6_judge 1 = .ok (.invokestatic 313, 3) := by decide +kernel
theorem dX6_judge_4 : decode cX6_judge 4 = .ok (.ifCond .ne 10, 3) := by decide +kernel
theorem dX6_judge_7 : decode cX6_judge 7 = .ok (.aload_n 0, 1) := by decide +kernel
theorem dX6_judge_8 : decode cX6_judge 8 = .ok (.ldc 71, 2) := by decide +kernel
theorem dX6_judge_10 : decode cX6_judge 10 = .ok (.invokevirtual 72, 3) := by decide +kernel
theorem dX6_judge_13 : decode cX6_judge 13 = .ok (.ireturn, 1) := by decide +kernel
theorem dX6_judge_14 : decode cX6_judge 14 = .ok (.aload_n 0, 1) := by decide +kernel
theorem dX6_judge_15 : decode cX6_judge 15 = .ok (.getfield 56, 3) := by decide +kernel
theorem dX6_judge_18 : decode cX6_judge 18 = .ok (.iload_n 1, 1) := by decide +kernel
theorem dX6_judge_19 : decode cX6_judge 19 = .ok (.aaload, 1) := by decide +kernel
theorem dX6_judge_20 : decode cX6_judge 20 = .ok (.invokevirtual 321, 3) := by decide +kernel
theorem dX6_judge_23 : decode cX6_judge 23 = .ok (.ifCond .eq 11, 3) := by decide +kernel
theorem dX6_judge_26 : decode cX6_judge 26 = .ok (.aload_n 0, 1) := by decide +kernel
theorem dX6_judge_27 : decode cX6_judge 27 = .ok (.ldc_w 308, 3) := by decide +kernel
theorem dX6_judge_30 : decode cX6_judge 30 = .ok (.invokevirtual 72, 3) := by decide +kernel
theorem dX6_judge_33 : decode cX6_judge 33 = .ok (.ireturn, 1) := by decide +kernel
theorem dX6_judge_34 : decode cX6_judge 34 = .ok (.aload_n 0, 1) := by decide +kernel
theorem dX6_judge_35 : decode cX6_judge 35 = .ok (.iload_n 2, 1) := by decide +kernel
theorem dX6_judge_36 : decode cX6_judge 36 = .ok (.invokevirtual 117, 3) := by decide +kernel
theorem dX6_judge_39 : decode cX6_judge 39 = .ok (.ifCond .ne 10, 3) := by decide +kernel
theorem dX6_judge_42 : decode cX6_judge 42 = .ok (.aload_n 0, 1) := by decide +kernel
theorem dX6_judge_43 : decode cX6_judge 43 = .ok (.ldc 71, 2) := by decide +kernel
theorem dX6_judge_45 : decode cX6_judge 45 = .ok (.invokevirtual 72, 3) := by decide +kernel
theorem dX6_judge_48 : decode cX6_judge 48 = .ok (.ireturn, 1) := by decide +kernel
theorem dX6_judge_49 : decode cX6_judge 49 = .ok (.aload_n 0, 1) := by decide +kernel
theorem dX6_judge_50 : decode cX6_judge 50 = .ok (.getfield 12, 3) := by decide +kernel
theorem dX6_judge_53 : decode cX6_judge 53 = .ok (.getfield 177, 3) := by decide +kernel
theorem dX6_judge_56 : decode cX6_judge 56 = .ok (.sipush 9999, 3) := by decide +kernel
theorem dX6_judge_59 : decode cX6_judge 59 = .ok (.aload_n 0, 1) := by decide +kernel
theorem dX6_judge_60 : decode cX6_judge 60 = .ok (.getfield 56, 3) := by decide +kernel
theorem dX6_judge_63 : decode cX6_judge 63 = .ok (.iload_n 1, 1) := by decide +kernel
theorem dX6_judge_64 : decode cX6_judge 64 = .ok (.aaload, 1) := by decide +kernel
theorem dX6_judge_65 : decode cX6_judge 65 = .ok (.getfield 320, 3) := by decide +kernel
theorem dX6_judge_68 : decode cX6_judge 68 = .ok (.isub, 1) := by decide +kernel
theorem dX6_judge_69 : decode cX6_judge 69 = .ok (.if_icmp .le 10, 3) := by decide +kernel
theorem dX6_judge_72 : decode cX6_judge 72 = .ok (.aload_n 0, 1) := by decide +kernel
theorem dX6_judge_73 : decode cX6_judge 73 = .ok (.ldc 169, 2) := by decide +kernel
theorem dX6_judge_75 : decode cX6_judge 75 = .ok (.invokevirtual 72, 3) := by decide +kernel
theorem dX6_judge_78 : decode cX6_judge 78 = .ok (.ireturn, 1) := by decide +kernel
theorem dX6_judge_79 : decode cX6_judge 79 = .ok (.aload_n 0, 1) := by decide +kernel
theorem dX6_judge_80 : decode cX6_judge 80 = .ok (.getfield 23, 3) := by decide +kernel
theorem dX6_judge_83 : decode cX6_judge 83 = .ok (.aload_n 0, 1) := by decide +kernel
theorem dX6_judge_84 : decode cX6_judge 84 = .ok (.getfield 12, 3) := by decide +kernel
theorem dX6_judge_87 : decode cX6_judge 87 = .ok (.invokevirtual 194, 3) := by decide +kernel
theorem dX6_judge_90 : decode cX6_judge 90 = .ok (.iconst 0, 1) := by decide +kernel
theorem dX6_judge_91 : decode cX6_judge 91 = .ok (.istore_n 3, 1) := by decide +kernel
theorem dX6_judge_92 : decode cX6_judge 92 = .ok (.iload_n 3, 1) := by decide +kernel
theorem dX6_judge_93 : decode cX6_judge 93 = .ok (.aload_n 0, 1) := by decide +kernel
theorem dX6_judge_94 : decode cX6_judge 94 = .ok (.getfield 56, 3) := by decide +kernel
theorem dX6_judge_97 : decode cX6_judge 97 = .ok (.iload_n 1, 1) := by decide +kernel
theorem dX6_judge_98 : decode cX6_judge 98 = .ok (.aaload, 1) := by decide +kernel
theorem dX6_judge_99 : decode cX6_judge 99 = .ok (.getfield 320, 3) := by decide +kernel
theorem dX6_judge_102 : decode cX6_judge 102 = .ok (.if_icmp .ge 47, 3) := by decide +kernel
theorem dX6_judge_105 : decode cX6_judge 105 = .ok (.aload_n 0, 1) := by decide +kernel
theorem dX6_judge_106 : decode cX6_judge 106 = .ok (.getfield 23, 3) := by decide +kernel
theorem dX6_judge_109 : decode cX6_judge 109 = .ok (.invokevirtual 240, 3) := by decide +kernel
theorem dX6_judge_112 : decode cX6_judge 112 = .ok (.pop, 1) := by decide +kernel
theorem dX6_judge_113 : decode cX6_judge 113 = .ok (.aload_n 0, 1) := by decide +kernel
theorem dX6_judge_114 : decode cX6_judge 114 = .ok (.getfield 23, 3) := by decide +kernel
theorem dX6_judge_117 : decode cX6_judge 117 = .ok (.getfield 120, 3) := by decide +kernel
theorem dX6_judge_120 : decode cX6_judge 120 = .ok (.iload_n 2, 1) := by decide +kernel
theorem dX6_judge_121 : decode cX6_judge 121 = .ok (.aaload, 1) := by decide +kernel
theorem dX6_judge_122 : decode cX6_judge 122 = .ok (.getfield 138, 3) := by decide +kernel
theorem dX6_judge_125 : decode cX6_judge 125 = .ok (.aload_n 0, 1) := by decide +kernel
theorem dX6_judge_126 : decode cX6_judge 126 = .ok (.getfield 56, 3) := by decide +kernel
theorem dX6_judge_129 : decode cX6_judge 129 = .ok (.iload_n 1, 1) := by decide +kernel
theorem dX6_judge_130 : decode cX6_judge 130 = .ok (.aaload, 1) := by decide +kernel
theorem dX6_judge_131 : decode cX6_judge 131 = .ok (.getfield 324, 3) := by decide +kernel
theorem dX6_judge_134 : decode cX6_judge 134 = .ok (.iload_n 3, 1) := by decide +kernel
theorem dX6_judge_135 : decode cX6_judge 135 = .ok (.iaload, 1) := by decide +kernel
theorem dX6_judge_136 : decode cX6_judge 136 = .ok (.if_icmp .eq 7, 3) := by decide +kernel
theorem dX6_judge_139 : decode cX6_judge 139 = .ok (.iconst 1, 1) := by decide +kernel
theorem dX6_judge_140 : decode cX6_judge 140 = .ok (.iload_n 3, 1) := by decide +kernel
theorem dX6_judge_141 : decode cX6_judge 141 = .ok (.iadd, 1) := by decide +kernel
theorem dX6_judge_142 : decode cX6_judge 142 = .ok (.ireturn, 1) := by decide +kernel
theorem dX6_judge_143 : decode cX6_judge 143 = .ok (.iinc 3 1, 3) := by decide +kernel
theorem dX6_judge_146 : decode cX6_judge 146 = .ok (.goto (-54), 3) := by decide +kernel
theorem dX6_judge_149 : decode cX6_judge 149 = .ok (.iconst 0, 1) := by decide +kernel
theorem dX6_judge_150 : decode cX6_judge 150 = .ok (.ireturn, 1) := by decide +kernel
theorem dX6_image_0 : decode cX6_image 0 = .ok (.aload_n 0, 1) := by decide +kernel
theorem dX6_image_1 : decode cX6_image 1 = .ok (.getfield 16, 3) := by decide +kernel
theorem dX6_image_4 : decode cX6_image 4 = .ok (.aload_n 0, 1) := by decide +kernel
theorem dX6_image_5 : decode cX6_image 5 = .ok (.getfield 12, 3) := by decide +kernel
theorem dX6_image_8 : decode cX6_image 8 = .ok (.invokevirtual 194, 3) := by decide +kernel
theorem dX6_image_11 : decode cX6_image 11 = .ok (.aload_n 0, 1) := by decide +kernel
theorem dX6_image_12 : decode cX6_image 12 = .ok (.iconst 1, 1) := by decide +kernel
theorem dX6_image_13 : decode cX6_image 13 = .ok (.putfield 19, 3) := by decide +kernel
theorem dX6_image_16 : decode cX6_image 16 = .ok (.iconst 1, 1) := by decide +kernel
theorem dX6_image_17 : decode cX6_image 17 = .ok (.ireturn, 1) := by decide +kernel
theorem dX6_undo_0 : decode cX6_undo 0 = .ok (.aload_n 0, 1) := by decide +kernel
theorem dX6_undo_1 : decode cX6_undo 1 = .ok (.getfield 19, 3) := by decide +kernel
theorem dX6_undo_4 : decode cX6_undo 4 = .ok (.ifCond .ne 10, 3) := by decide +kernel
theorem dX6_undo_7 : decode cX6_undo 7 = .ok (.aload_n 0, 1) := by decide +kernel
theorem dX6_undo_8 : decode cX6_undo 8 = .ok (.ldc 207, 2) := by decide +kernel
theorem dX6_undo_10 : decode cX6_undo 10 = .ok (.invokevirtual 72, 3) := by decide +kernel
theorem dX6_undo_13 : decode cX6_undo 13 = .ok (.ireturn, 1) := by decide +kernel
theorem dX6_undo_14 : decode cX6_undo 14 = .ok (.aload_n 0, 1) := by decide +kernel
theorem dX6_undo_15 : decode cX6_undo 15 = .ok (.getfield 12, 3) := by decide +kernel
theorem dX6_undo_18 : decode cX6_undo 18 = .ok (.aload_n 0, 1) := by decide +kernel
theorem dX6_undo_19 : decode cX6_undo 19 = .ok (.getfield 16, 3) := by decide +kernel
theorem dX6_undo_22 : decode cX6_undo 22 = .ok (.invokevirtual 194, 3) := by decide +kernel
theorem dX6_undo_25 : decode cX6_undo 25 = .ok (.aload_n 0, 1) := by decide +kernel
theorem dX6_undo_26 : decode cX6_undo 26 = .ok (.getfield 12, 3) := by decide +kernel
theorem dX6_undo_29 : decode cX6_undo 29 = .ok (.getfield 177, 3) := by decide +kernel
theorem dX6_undo_32 : decode cX6_undo 32 = .ok (.ireturn, 1) := by decide +kernel
theorem dX6_tear_0 : decode cX6_tear 0 = .ok (.aload_n 0, 1) := by decide +kernel
theorem dX6_tear_1 : decode cX6_tear 1 = .ok (.getfield 19, 3) := by decide +kernel
theorem dX6_tear_4 : decode cX6_tear 4 = .ok (.ifCond .eq 7, 3) := by decide +kernel
theorem dX6_tear_7 : decode cX6_tear 7 = .ok (.iconst 1, 1) := by decide +kernel
theorem dX6_tear_8 : decode cX6_tear 8 = .ok (.goto 4, 3) := by decide +kernel
theorem dX6_tear_11 : decode cX6_tear 11 = .ok (.iconst 0, 1) := by decide +kernel
theorem dX6_tear_12 : decode cX6_tear 12 = .ok (.istore_n 1, 1) := by decide +kernel
theorem dX6_tear_13 : decode cX6_tear 13 = .ok (.aload_n 0, 1) := by decide +kernel
theorem dX6_tear_14 : decode cX6_tear 14 = .ok (.iconst 0, 1) := by decide +kernel
theorem dX6_tear_15 : decode cX6_tear 15 = .ok (.putfield 19, 3) := by decide +kernel
theorem dX6_tear_18 : decode cX6_tear 18 = .ok (.iload_n 1, 1) := by decide +kernel
theorem dX6_tear_19 : decode cX6_tear 19 = .ok (.ireturn, 1) := by decide +kernel
theorem dX6_count_0 : decode cX6_count 0 = .ok (.iload_n 1, 1) := by decide +kernel
theorem dX6_count_1 : decode cX6_count 1 = .ok (.tableswitch 111 0 7 #[47, 55, 63, 71, 79, 87, 95, 103], 47) := by decide +kernel
theorem dX6_count_48 : decode cX6_count 48 = .ok (.aload_n 0, 1) := by decide +kernel
theorem dX6_count_49 : decode cX6_count 49 = .ok (.getfield 12, 3) := by decide +kernel
theorem dX6_count_52 : decode cX6_count 52 = .ok (.getfield 177, 3) := by decide +kernel
theorem dX6_count_55 : decode cX6_count 55 = .ok (.ireturn, 1) := by decide +kernel
theorem dX6_count_56 : decode cX6_count 56 = .ok (.aload_n 0, 1) := by decide +kernel
theorem dX6_count_57 : decode cX6_count 57 = .ok (.getfield 12, 3) := by decide +kernel
theorem dX6_count_60 : decode cX6_count 60 = .ok (.getfield 114, 3) := by decide +kernel
theorem dX6_count_63 : decode cX6_count 63 = .ok (.ireturn, 1) := by decide +kernel
theorem dX6_count_64 : decode cX6_count 64 = .ok (.aload_n 0, 1) := by decide +kernel
theorem dX6_count_65 : decode cX6_count 65 = .ok (.getfield 12, 3) := by decide +kernel
theorem dX6_count_68 : decode cX6_count 68 = .ok (.invokevirtual 201, 3) := by decide +kernel
theorem dX6_count_71 : decode cX6_count 71 = .ok (.ireturn, 1) := by decide +kernel
theorem dX6_count_72 : decode cX6_count 72 = .ok (.aload_n 0, 1) := by decide +kernel
theorem dX6_count_73 : decode cX6_count 73 = .ok (.getfield 12, 3) := by decide +kernel
theorem dX6_count_76 : decode cX6_count 76 = .ok (.invokevirtual 347, 3) := by decide +kernel
theorem dX6_count_79 : decode cX6_count 79 = .ok (.ireturn, 1) := by decide +kernel
theorem dX6_count_80 : decode cX6_count 80 = .ok (.aload_n 0, 1) := by decide +kernel
theorem dX6_count_81 : decode cX6_count 81 = .ok (.getfield 12, 3) := by decide +kernel
theorem dX6_count_84 : decode cX6_count 84 = .ok (.invokevirtual 350, 3) := by decide +kernel
theorem dX6_count_87 : decode cX6_count 87 = .ok (.ireturn, 1) := by decide +kernel
theorem dX6_count_88 : decode cX6_count 88 = .ok (.aload_n 0, 1) := by decide +kernel
theorem dX6_count_89 : decode cX6_count 89 = .ok (.getfield 50, 3) := by decide +kernel
theorem dX6_count_92 : decode cX6_count 92 = .ok (.getfield 297, 3) := by decide +kernel
theorem dX6_count_95 : decode cX6_count 95 = .ok (.ireturn, 1) := by decide +kernel
theorem dX6_count_96 : decode cX6_count 96 = .ok (.aload_n 0, 1) := by decide +kernel
theorem dX6_count_97 : decode cX6_count 97 = .ok (.getfield 12, 3) := by decide +kernel
theorem dX6_count_100 : decode cX6_count 100 = .ok (.getfield 294, 3) := by decide +kernel
theorem dX6_count_103 : decode cX6_count 103 = .ok (.ireturn, 1) := by decide +kernel
theorem dX6_count_104 : decode cX6_count 104 = .ok (.aload_n 0, 1) := by decide +kernel
theorem dX6_count_105 : decode cX6_count 105 = .ok (.getfield 12, 3) := by decide +kernel
theorem dX6_count_108 : decode cX6_count 108 = .ok (.invokevirtual 353, 3) := by decide +kernel
theorem dX6_count_111 : decode cX6_count 111 = .ok (.ireturn, 1) := by decide +kernel
theorem dX6_count_112 : decode cX6_count 112 = .ok (.aload_n 0, 1) := by decide +kernel
theorem dX6_count_113 : decode cX6_count 113 = .ok (.ldc 71, 2) := by decide +kernel
theorem dX6_count_115 : decode cX6_count 115 = .ok (.invokevirtual 72, 3) := by decide +kernel
theorem dX6_count_118 : decode cX6_count 118 = .ok (.ireturn, 1) := by decide +kernel
theorem dX6_status_0 : decode cX6_status 0 = .ok (.iload_n 1, 1) := by decide +kernel
theorem dX6_status_1 : decode cX6_status 1 = .ok (.iconst (-1), 1) := by decide +kernel
theorem dX6_status_2 : decode cX6_status 2 = .ok (.bipush 6, 2) := by decide +kernel
theorem dX6_status_4 : decode cX6_status 4 = .ok (.invokestatic 79, 3) := by decide +kernel
theorem dX6_status_7 : decode cX6_status 7 = .ok (.ifCond .ne 10, 3) := by decide +kernel
theorem dX6_status_10 : decode cX6_status 10 = .ok (.aload_n 0, 1) := by decide +kernel
theorem dX6_status_11 : decode cX6_status 11 = .ok (.ldc 71, 2) := by decide +kernel
theorem dX6_status_13 : decode cX6_status 13 = .ok (.invokevirtual 72, 3) := by decide +kernel
theorem dX6_status_16 : decode cX6_status 16 = .ok (.ireturn, 1) := by decide +kernel
theorem dX6_status_17 : decode cX6_status 17 = .ok (.iload_n 1, 1) := by decide +kernel
theorem dX6_status_18 : decode cX6_status 18 = .ok (.ifCond .lt 10, 3) := by decide +kernel
theorem dX6_status_21 : decode cX6_status 21 = .ok (.aload_n 0, 1) := by decide +kernel
theorem dX6_status_22 : decode cX6_status 22 = .ok (.getfield 60, 3) := by decide +kernel
theorem dX6_status_25 : decode cX6_status 25 = .ok (.iload_n 1, 1) := by decide +kernel
theorem dX6_status_26 : decode cX6_status 26 = .ok (.iaload, 1) := by decide +kernel
theorem dX6_status_27 : decode cX6_status 27 = .ok (.ireturn, 1) := by decide +kernel
theorem dX6_status_28 : decode cX6_status 28 = .ok (.iconst 0, 1) := by decide +kernel
theorem dX6_status_29 : decode cX6_status 29 = .ok (.istore_n 2, 1) := by decide +kernel
theorem dX6_status_30 : decode cX6_status 30 = .ok (.iconst 0, 1) := by decide +kernel
theorem dX6_status_31 : decode cX6_status 31 = .ok (.istore_n 3, 1) := by decide +kernel
theorem dX6_status_32 : decode cX6_status 32 = .ok (.iload_n 3, 1) := by decide +kernel
theorem dX6_status_33 : decode cX6_status 33 = .ok (.bipush 7, 2) := by decide +kernel
theorem dX6_status_35 : decode cX6_status 35 = .ok (.if_icmp .ge 18, 3) := by decide +kernel
theorem dX6_status_38 : decode cX6_status 38 = .ok (.iload_n 2, 1) := by decide +kernel
theorem dX6_status_39 : decode cX6_status 39 = .ok (.aload_n 0, 1) := by decide +kernel
theorem dX6_status_40 : decode cX6_status 40 = .ok (.getfield 60, 3) := by decide +kernel
theorem dX6_status_43 : decode cX6_status 43 = .ok (.iload_n 3, 1) := by decide +kernel
theorem dX6_status_44 : decode cX6_status 44 = .ok (.iaload, 1) := by decide +kernel
theorem dX6_status_45 : decode cX6_status 45 = .ok (.iadd, 1) := by decide +kernel
theorem dX6_status_46 : decode cX6_status 46 = .ok (.istore_n 2, 1) := by decide +kernel
theorem dX6_status_47 : decode cX6_status 47 = .ok (.iinc 3 1, 3) := by decide +kernel
theorem dX6_status_50 : decode cX6_status 50 = .ok (.goto (-18), 3) := by decide +kernel
theorem dX6_status_53 : decode cX6_status 53 = .ok (.iload_n 2, 1) := by decide +kernel
theorem dX6_status_54 : decode cX6_status 54 = .ok (.ireturn, 1) := by decide +kernel
theorem dX6_refuse_0 : decode cX6_refuse 0 = .ok (.ldc 71, 2) := by decide +kernel
theorem dX6_refuse_2 : decode cX6_refuse 2 = .ok (.iload_n 1, 1) := by decide +kernel
theorem dX6_refuse_3 : decode cX6_refuse 3 = .ok (.isub, 1) := by decide +kernel
theorem dX6_refuse_4 : decode cX6_refuse 4 = .ok (.istore_n 2, 1) := by decide +kernel
theorem dX6_refuse_5 : decode cX6_refuse 5 = .ok (.iload_n 2, 1) := by decide +kernel
theorem dX6_refuse_6 : decode cX6_refuse 6 = .ok (.iconst 0, 1) := by decide +kernel
theorem dX6_refuse_7 : decode cX6_refuse 7 = .ok (.bipush 6, 2) := by decide +kernel
theorem dX6_refuse_9 : decode cX6_refuse 9 = .ok (.invokestatic 79, 3) := by decide +kernel
theorem dX6_refuse_12 : decode cX6_refuse 12 = .ok (.ifCond .eq 13, 3) := by decide +kernel
theorem dX6_refuse_15 : decode cX6_refuse 15 = .ok (.aload_n 0, 1) := by decide +kernel
theorem dX6_refuse_16 : decode cX6_refuse 16 = .ok (.getfield 60, 3) := by decide +kernel
theorem dX6_refuse_19 : decode cX6_refuse 19 = .ok (.iload_n 2, 1) := by decide +kernel
theorem dX6_refuse_20 : decode cX6_refuse 20 = .ok (.dup2, 1) := by decide +kernel
theorem dX6_refuse_21 : decode cX6_refuse 21 = .ok (.iaload, 1) := by decide +kernel
theorem dX6_refuse_22 : decode cX6_refuse 22 = .ok (.iconst 1, 1) := by decide +kernel
theorem dX6_refuse_23 : decode cX6_refuse 23 = .ok (.iadd, 1) := by decide +kernel
theorem dX6_refuse_24 : decode cX6_refuse 24 = .ok (.iastore, 1) := by decide +kernel
theorem dX6_refuse_25 : decode cX6_refuse 25 = .ok (.iload_n 1, 1) := by decide +kernel
theorem dX6_refuse_26 : decode cX6_refuse 26 = .ok (.ireturn, 1) := by decide +kernel
theorem dX6_againstRoll_0 : decode cX6_againstRoll 0 = .ok (.aload_n 0, 1) := by decide +kernel
theorem dX6_againstRoll_1 : decode cX6_againstRoll 1 = .ok (.iload_n 1, 1) := by decide +kernel
theorem dX6_againstRoll_2 : decode cX6_againstRoll 2 = .ok (.invokevirtual 117, 3) := by decide +kernel
theorem dX6_againstRoll_5 : decode cX6_againstRoll 5 = .ok (.ifCond .ne 6, 3) := by decide +kernel
theorem dX6_againstRoll_8 : decode cX6_againstRoll 8 = .ok (.ldc 71, 2) := by decide +kernel
theorem dX6_againstRoll_10 : decode cX6_againstRoll 10 = .ok (.ireturn, 1) := by decide +kernel
theorem dX6_againstRoll_11 : decode cX6_againstRoll 11 = .ok (.aload_n 0, 1) := by decide +kernel
theorem dX6_againstRoll_12 : decode cX6_againstRoll 12 = .ok (.getfield 12, 3) := by decide +kernel
theorem dX6_againstRoll_15 : decode cX6_againstRoll 15 = .ok (.getfield 120, 3) := by decide +kernel
theorem dX6_againstRoll_18 : decode cX6_againstRoll 18 = .ok (.iload_n 1, 1) := by decide +kernel
theorem dX6_againstRoll_19 : decode cX6_againstRoll 19 = .ok (.aaload, 1) := by decide +kernel
theorem dX6_againstRoll_20 : decode cX6_againstRoll 20 = .ok (.astore_n 2, 1) := by decide +kernel
theorem dX6_againstRoll_21 : decode cX6_againstRoll 21 = .ok (.aload_n 2, 1) := by decide +kernel
theorem dX6_againstRoll_22 : decode cX6_againstRoll 22 = .ok (.invokevirtual 356, 3) := by decide +kernel
theorem dX6_againstRoll_25 : decode cX6_againstRoll 25 = .ok (.ifCond .eq 19, 3) := by decide +kernel
theorem dX6_againstRoll_28 : decode cX6_againstRoll 28 = .ok (.aload_n 2, 1) := by decide +kernel
theorem dX6_againstRoll_29 : decode cX6_againstRoll 29 = .ok (.getfield 138, 3) := by decide +kernel
theorem dX6_againstRoll_32 : decode cX6_againstRoll 32 = .ok (.bipush 30, 2) := by decide +kernel
theorem dX6_againstRoll_34 : decode cX6_againstRoll 34 = .ok (.if_icmp .eq 10, 3) := by decide +kernel
theorem dX6_againstRoll_37 : decode cX6_againstRoll 37 = .ok (.aload_n 0, 1) := by decide +kernel
theorem dX6_againstRoll_38 : decode cX6_againstRoll 38 = .ok (.invokevirtual 250, 3) := by decide +kernel
theorem dX6_againstRoll_41 : decode cX6_againstRoll 41 = .ok (.ifCond .eq 8, 3) := by decide +kernel
theorem dX6_againstRoll_44 : decode cX6_againstRoll 44 = .ok (.ldc 169, 2) := by decide +kernel
theorem dX6_againstRoll_46 : decode cX6_againstRoll 46 = .ok (.goto 4, 3) := by decide +kernel
theorem dX6_againstRoll_49 : decode cX6_againstRoll 49 = .ok (.iconst 0, 1) := by decide +kernel
theorem dX6_againstRoll_50 : decode cX6_againstRoll 50 = .ok (.ireturn, 1) := by decide +kernel
theorem dX6_rollWithGround_0 : decode cX6_rollWithGround 0 = .ok (.aload_n 0, 1) := by decide +kernel
theorem dX6_rollWithGround_1 : decode cX6_rollWithGround 1 = .ok (.getfield 12, 3) := by decide +kernel
theorem dX6_rollWithGround_4 : decode cX6_rollWithGround 4 = .ok (.getfield 83, 3) := by decide +kernel
theorem dX6_rollWithGround_7 : decode cX6_rollWithGround 7 = .ok (.iload_n 2, 1) := by decide +kernel
theorem dX6_rollWithGround_8 : decode cX6_rollWithGround 8 = .ok (.iaload, 1) := by decide +kernel
theorem dX6_rollWithGround_9 : decode cX6_rollWithGround 9 = .ok (.istore 4, 2) := by decide +kernel
theorem dX6_rollWithGround_11 : decode cX6_rollWithGround 11 = .ok (.aload_n 0, 1) := by decide +kernel
theorem dX6_rollWithGround_12 : decode cX6_rollWithGround 12 = .ok (.getfield 12, 3) := by decide +kernel
theorem dX6_rollWithGround_15 : decode cX6_rollWithGround 15 = .ok (.getfield 83, 3) := by decide +kernel
theorem dX6_rollWithGround_18 : decode cX6_rollWithGround 18 = .ok (.iload_n 2, 1) := by decide +kernel
theorem dX6_rollWithGround_19 : decode cX6_rollWithGround 19 = .ok (.iload_n 3, 1) := by decide +kernel
theorem dX6_rollWithGround_20 : decode cX6_rollWithGround 20 = .ok (.iastore, 1) := by decide +kernel
theorem dX6_rollWithGround_21 : decode cX6_rollWithGround 21 = .ok (.aload_n 0, 1) := by decide +kernel
theorem dX6_rollWithGround_22 : decode cX6_rollWithGround 22 = .ok (.getfield 32, 3) := by decide +kernel
theorem dX6_rollWithGround_25 : decode cX6_rollWithGround 25 = .ok (.aload_n 0, 1) := by decide +kernel
theorem dX6_rollWithGround_26 : decode cX6_rollWithGround 26 = .ok (.getfield 12, 3) := by decide +kernel
theorem dX6_rollWithGround_29 : decode cX6_rollWithGround 29 = .ok (.aload_n 0, 1) := by decide +kernel
theorem dX6_rollWithGround_30 : decode cX6_rollWithGround 30 = .ok (.getfield 12, 3) := by decide +kernel
theorem dX6_rollWithGround_33 : decode cX6_rollWithGround 33 = .ok (.getfield 120, 3) := by decide +kernel
theorem dX6_rollWithGround_36 : decode cX6_rollWithGround 36 = .ok (.iload_n 1, 1) := by decide +kernel
theorem dX6_rollWithGround_37 : decode cX6_rollWithGround 37 = .ok (.aaload, 1) := by decide +kernel
theorem dX6_rollWithGround_38 : decode cX6_rollWithGround 38 = .ok (.invokevirtual 211, 3) := by decide +kernel
theorem dX6_rollWithGround_41 : decode cX6_rollWithGround 41 = .ok (.aload_n 0, 1) := by decide +kernel
theorem dX6_rollWithGround_42 : decode cX6_rollWithGround 42 = .ok (.getfield 12, 3) := by decide +kernel
theorem dX6_rollWithGround_45 : decode cX6_rollWithGround 45 = .ok (.getfield 83, 3) := by decide +kernel
theorem dX6_rollWithGround_48 : decode cX6_rollWithGround 48 = .ok (.iload_n 2, 1) := by decide +kernel
theorem dX6_rollWithGround_49 : decode cX6_rollWithGround 49 = .ok (.iload 4, 2) := by decide +kernel
theorem dX6_rollWithGround_51 : decode cX6_rollWithGround 51 = .ok (.iastore, 1) := by decide +kernel
theorem dX6_rollWithGround_52 : decode cX6_rollWithGround 52 = .ok (.return_, 1) := by decide +kernel
theorem dX6_isTooLateToRoll_0 : decode cX6_isTooLateToRoll 0 = .ok (.aload_n 0, 1) := by decide +kernel
theorem dX6_isTooLateToRoll_1 : decode cX6_isTooLateToRoll 1 = .ok (.getfield 12, 3) := by decide +kernel
theorem dX6_isTooLateToRoll_4 : decode cX6_isTooLateToRoll 4 = .ok (.getfield 177, 3) := by decide +kernel
theorem dX6_isTooLateToRoll_7 : decode cX6_isTooLateToRoll 7 = .ok (.sipush 9799, 3) := by decide +kernel
theorem dX6_isTooLateToRoll_10 : decode cX6_isTooLateToRoll 10 = .ok (.if_icmp .le 7, 3) := by decide +kernel
theorem dX6_isTooLateToRoll_13 : decode cX6_isTooLateToRoll 13 = .ok (.iconst 1, 1) := by decide +kernel
theorem dX6_isTooLateToRoll_14 : decode cX6_isTooLateToRoll 14 = .ok (.goto 4, 3) := by decide +kernel
theorem dX6_isTooLateToRoll_17 : decode cX6_isTooLateToRoll 17 = .ok (.iconst 0, 1) := by decide +kernel
theorem dX6_isTooLateToRoll_18 : decode cX6_isTooLateToRoll 18 = .ok (.ireturn, 1) := by decide +kernel
theorem dX6_isTooLateToWait_0 : decode cX6_isTooLateToWait 0 = .ok (.aload_n 0, 1) := by decide +kernel
theorem dX6_isTooLateToWait_1 : decode cX6_isTooLateToWait 1 = .ok (.getfield 12, 3) := by decide +kernel
theorem dX6_isTooLateToWait_4 : decode cX6_isTooLateToWait 4 = .ok (.getfield 177, 3) := by decide +kernel
theorem dX6_isTooLateToWait_7 : decode cX6_isTooLateToWait 7 = .ok (.sipush 9740, 3) := by decide +kernel
theorem dX6_isTooLateToWait_10 : decode cX6_isTooLateToWait 10 = .ok (.if_icmp .le 7, 3) := by decide +kernel
theorem dX6_isTooLateToWait_13 : decode cX6_isTooLateToWait 13 = .ok (.iconst 1, 1) := by decide +kernel
theorem dX6_isTooLateToWait_14 : decode cX6_isTooLateToWait 14 = .ok (.goto 4, 3) := by decide +kernel
theorem dX6_isTooLateToWait_17 : decode cX6_isTooLateToWait 17 = .ok (.iconst 0, 1) := by decide +kernel
theorem dX6_isTooLateToWait_18 : decode cX6_isTooLateToWait 18 = .ok (.ireturn, 1) := by decide +kernel
theorem dX6_standTogether_0 : decode cX6_standTogether 0 = .ok (.aload_n 0, 1) := by decide +kernel
theorem dX6_standTogether_1 : decode cX6_standTogether 1 = .ok (.invokevirtual 166, 3) := by decide +kernel
theorem dX6_standTogether_4 : decode cX6_standTogether 4 = .ok (.ifCond .eq 25, 3) := by decide +kernel
theorem dX6_standTogether_7 : decode cX6_standTogether 7 = .ok (.aload_n 1, 1) := by decide +kernel
theorem dX6_standTogether_8 : decode cX6_standTogether 8 = .ok (.invokevirtual 166, 3) := by decide +kernel
theorem dX6_standTogether_11 : decode cX6_standTogether 11 = .ok (.ifCond .eq 18, 3) := by decide +kernel
theorem dX6_standTogether_14 : decode cX6_standTogether 14 = .ok (.aload_n 0, 1) := by decide +kernel
theorem dX6_standTogether_15 : decode cX6_standTogether 15 = .ok (.getfield 138, 3) := by decide +kernel
theorem dX6_standTogether_18 : decode cX6_standTogether 18 = .ok (.aload_n 1, 1) := by decide +kernel
theorem dX6_standTogether_19 : decode cX6_standTogether 19 = .ok (.getfield 138, 3) := by decide +kernel
theorem dX6_standTogether_22 : decode cX6_standTogether 22 = .ok (.if_icmp .ne 7, 3) := by decide +kernel
theorem dX6_standTogether_25 : decode cX6_standTogether 25 = .ok (.iconst 1, 1) := by decide +kernel
theorem dX6_standTogether_26 : decode cX6_standTogether 26 = .ok (.goto 4, 3) := by decide +kernel
theorem dX6_standTogether_29 : decode cX6_standTogether 29 = .ok (.iconst 0, 1) := by decide +kernel
theorem dX6_standTogether_30 : decode cX6_standTogether 30 = .ok (.ireturn, 1) := by decide +kernel
theorem dX6_lineUpByNumber_0 : decode cX6_lineUpByNumber 0 = .ok (.aload_n 0, 1) := by decide +kernel
theorem dX6_lineUpByNumber_1 : decode cX6_lineUpByNumber 1 = .ok (.getfield 12, 3) := by decide +kernel
theorem dX6_lineUpByNumber_4 : decode cX6_lineUpByNumber 4 = .ok (.invokevirtual 198, 3) := by decide +kernel
theorem dX6_lineUpByNumber_7 : decode cX6_lineUpByNumber 7 = .ok (.istore_n 1, 1) := by decide +kernel
theorem dX6_lineUpByNumber_8 : decode cX6_lineUpByNumber 8 = .ok (.iconst 0, 1) := by decide +kernel
theorem dX6_lineUpByNumber_9 : decode cX6_lineUpByNumber 9 = .ok (.istore_n 2, 1) := by decide +kernel
theorem dX6_lineUpByNumber_10 : decode cX6_lineUpByNumber 10 = .ok (.iconst 0, 1) := by decide +kernel
theorem dX6_lineUpByNumber_11 : decode cX6_lineUpByNumber 11 = .ok (.istore_n 3, 1) := by decide +kernel
theorem dX6_lineUpByNumber_12 : decode cX6_lineUpByNumber 12 = .ok (.iload_n 3, 1) := by decide +kernel
theorem dX6_lineUpByNumber_13 : decode cX6_lineUpByNumber 13 = .ok (.aload_n 0, 1) := by decide +kernel
theorem dX6_lineUpByNumber_14 : decode cX6_lineUpByNumber 14 = .ok (.getfield 12, 3) := by decide +kernel
theorem dX6_lineUpByNumber_17 : decode cX6_lineUpByNumber 17 = .ok (.getfield 114, 3) := by decide +kernel
theorem dX6_lineUpByNumber_20 : decode cX6_lineUpByNumber 20 = .ok (.if_icmp .ge 27, 3) := by decide +kernel
theorem dX6_lineUpByNumber_23 : decode cX6_lineUpByNumber 23 = .ok (.iload_n 1, 1) := by decide +kernel
theorem dX6_lineUpByNumber_24 : decode cX6_lineUpByNumber 24 = .ok (.iload_n 3, 1) := by decide +kernel
theorem dX6_lineUpByNumber_25 : decode cX6_lineUpByNumber 25 = .ok (.invokestatic 253, 3) := by decide +kernel
theorem dX6_lineUpByNumber_28 : decode cX6_lineUpByNumber 28 = .ok (.ifCond .eq 13, 3) := by decide +kernel
theorem dX6_lineUpByNumber_31 : decode cX6_lineUpByNumber 31 = .ok (.aload_n 0, 1) := by decide +kernel
theorem dX6_lineUpByNumber_32 : decode cX6_lineUpByNumber 32 = .ok (.getfield 43, 3) := by decide +kernel
theorem dX6_lineUpByNumber_35 : decode cX6_lineUpByNumber 35 = .ok (.iload_n 2, 1) := by decide +kernel
theorem dX6_lineUpByNumber_36 : decode cX6_lineUpByNumber 36 = .ok (.iload_n 3, 1) := by decide +kernel
theorem dX6_lineUpByNumber_37 : decode cX6_lineUpByNumber 37 = .ok (.iastore, 1) := by decide +kernel
theorem dX6_lineUpByNumber_38 : decode cX6_lineUpByNumber 38 = .ok (.iinc 2 1, 3) := by decide +kernel
theorem dX6_lineUpByNumber_41 : decode cX6_lineUpByNumber 41 = .ok (.iinc 3 1, 3) := by decide +kernel
theorem dX6_lineUpByNumber_44 : decode cX6_lineUpByNumber 44 = .ok (.goto (-32), 3) := by decide +kernel
theorem dX6_lineUpByNumber_47 : decode cX6_lineUpByNumber 47 = .ok (.iload_n 2, 1) := by decide +kernel
theorem dX6_lineUpByNumber_48 : decode cX6_lineUpByNumber 48 = .ok (.ireturn, 1) := by decide +kernel
theorem dX6_lineUpByWeight_0 : decode cX6_lineUpByWeight 0 = .ok (.aload_n 0, 1) := by decide +kernel
theorem dX6_lineUpByWeight_1 : decode cX6_lineUpByWeight 1 = .ok (.invokevirtual 275, 3) := by decide +kernel
theorem dX6_lineUpByWeight_4 : decode cX6_lineUpByWeight 4 = .ok (.istore_n 1, 1) := by decide +kernel
theorem dX6_lineUpByWeight_5 : decode cX6_lineUpByWeight 5 = .ok (.iconst 1, 1) := by decide +kernel
theorem dX6_lineUpByWeight_6 : decode cX6_lineUpByWeight 6 = .ok (.istore_n 2, 1) := by decide +kernel
theorem dX6_lineUpByWeight_7 : decode cX6_lineUpByWeight 7 = .ok (.iload_n 2, 1) := by decide +kernel
theorem dX6_lineUpByWeight_8 : decode cX6_lineUpByWeight 8 = .ok (.iload_n 1, 1) := by decide +kernel
theorem dX6_lineUpByWeight_9 : decode cX6_lineUpByWeight 9 = .ok (.if_icmp .ge 89, 3) := by decide +kernel
theorem dX6_lineUpByWeight_12 : decode cX6_lineUpByWeight 12 = .ok (.aload_n 0, 1) := by decide +kernel
theorem dX6_lineUpByWeight_13 : decode cX6_lineUpByWeight 13 = .ok (.getfield 43, 3) := by decide +kernel
theorem dX6_lineUpByWeight_16 : decode cX6_lineUpByWeight 16 = .ok (.iload_n 2, 1) := by decide +kernel
theorem dX6_lineUpByWeight_17 : decode cX6_lineUpByWeight 17 = .ok (.iaload, 1) := by decide +kernel
theorem dX6_lineUpByWeight_18 : decode cX6_lineUpByWeight 18 = .ok (.istore_n 3, 1) := by decide +kernel
theorem dX6_lineUpByWeight_19 : decode cX6_lineUpByWeight 19 = .ok (.iload_n 2, 1) := by decide +kernel
theorem dX6_lineUpByWeight_20 : decode cX6_lineUpByWeight 20 = .ok (.istore 4, 2) := by decide +kernel
theorem dX6_lineUpByWeight_22 : decode cX6_lineUpByWeight 22 = .ok (.iload 4, 2) := by decide +kernel
theorem dX6_lineUpByWeight_24 : decode cX6_lineUpByWeight 24 = .ok (.ifCond .le 60, 3) := by decide +kernel
theorem dX6_lineUpByWeight_27 : decode cX6_lineUpByWeight 27 = .ok (.aload_n 0, 1) := by decide +kernel
theorem dX6_lineUpByWeight_28 : decode cX6_lineUpByWeight 28 = .ok (.getfield 12, 3) := by decide +kernel
theorem dX6_lineUpByWeight_31 : decode cX6_lineUpByWeight 31 = .ok (.getfield 120, 3) := by decide +kernel
theorem dX6_lineUpByWeight_34 : decode cX6_lineUpByWeight 34 = .ok (.aload_n 0, 1) := by decide +kernel
theorem dX6_lineUpByWeight_35 : decode cX6_lineUpByWeight 35 = .ok (.getfield 43, 3) := by decide +kernel
theorem dX6_lineUpByWeight_38 : decode cX6_lineUpByWeight 38 = .ok (.iload 4, 2) := by decide +kernel
theorem dX6_lineUpByWeight_40 : decode cX6_lineUpByWeight 40 = .ok (.iconst 1, 1) := by decide +kernel
theorem dX6_lineUpByWeight_41 : decode cX6_lineUpByWeight 41 = .ok (.isub, 1) := by decide +kernel
theorem dX6_lineUpByWeight_42 : decode cX6_lineUpByWeight 42 = .ok (.iaload, 1) := by decide +kernel
theorem dX6_lineUpByWeight_43 : decode cX6_lineUpByWeight 43 = .ok (.aaload, 1) := by decide +kernel
theorem dX6_lineUpByWeight_44 : decode cX6_lineUpByWeight 44 = .ok (.getfield 129, 3) := by decide +kernel
theorem dX6_lineUpByWeight_47 : decode cX6_lineUpByWeight 47 = .ok (.aload_n 0, 1) := by decide +kernel
theorem dX6_lineUpByWeight_48 : decode cX6_lineUpByWeight 48 = .ok (.getfield 12, 3) := by decide +kernel
theorem dX6_lineUpByWeight_51 : decode cX6_lineUpByWeight 51 = .ok (.getfield 120, 3) := by decide +kernel
theorem dX6_lineUpByWeight_54 : decode cX6_lineUpByWeight 54 = .ok (.iload_n 3, 1) := by decide +kernel
theorem dX6_lineUpByWeight_55 : decode cX6_lineUpByWeight 55 = .ok (.aaload, 1) := by decide +kernel
theorem dX6_lineUpByWeight_56 : decode cX6_lineUpByWeight 56 = .ok (.getfield 129, 3) := by decide +kernel
theorem dX6_lineUpByWeight_59 : decode cX6_lineUpByWeight 59 = .ok (.if_icmp .le 25, 3) := by decide +kernel
theorem dX6_lineUpByWeight_62 : decode cX6_lineUpByWeight 62 = .ok (.aload_n 0, 1) := by decide +kernel
theorem dX6_lineUpByWeight_63 : decode cX6_lineUpByWeight 63 = .ok (.getfield 43, 3) := by decide +kernel
theorem dX6_lineUpByWeight_66 : decode cX6_lineUpByWeight 66 = .ok (.iload 4, 2) := by decide +kernel
theorem dX6_lineUpByWeight_68 : decode cX6_lineUpByWeight 68 = .ok (.aload_n 0, 1) := by decide +kernel
theorem dX6_lineUpByWeight_69 : decode cX6_lineUpByWeight 69 = .ok (.getfield 43, 3) := by decide +kernel
theorem dX6_lineUpByWeight_72 : decode cX6_lineUpByWeight 72 = .ok (.iload 4, 2) := by decide +kernel
theorem dX6_lineUpByWeight_74 : decode cX6_lineUpByWeight 74 = .ok (.iconst 1, 1) := by decide +kernel
theorem dX6_lineUpByWeight_75 : decode cX6_lineUpByWeight 75 = .ok (.isub, 1) := by decide +kernel
theorem dX6_lineUpByWeight_76 : decode cX6_lineUpByWeight 76 = .ok (.iaload, 1) := by decide +kernel
theorem dX6_lineUpByWeight_77 : decode cX6_lineUpByWeight 77 = .ok (.iastore, 1) := by decide +kernel
theorem dX6_lineUpByWeight_78 : decode cX6_lineUpByWeight 78 = .ok (.iinc 4 (-1), 3) := by decide +kernel
theorem dX6_lineUpByWeight_81 : decode cX6_lineUpByWeight 81 = .ok (.goto (-59), 3) := by decide +kernel
theorem dX6_lineUpByWeight_84 : decode cX6_lineUpByWeight 84 = .ok (.aload_n 0, 1) := by decide +kernel
theorem dX6_lineUpByWeight_85 : decode cX6_lineUpByWeight 85 = .ok (.getfield 43, 3) := by decide +kernel
theorem dX6_lineUpByWeight_88 : decode cX6_lineUpByWeight 88 = .ok (.iload 4, 2) := by decide +kernel
theorem dX6_lineUpByWeight_90 : decode cX6_lineUpByWeight 90 = .ok (.iload_n 3, 1) := by decide +kernel
theorem dX6_lineUpByWeight_91 : decode cX6_lineUpByWeight 91 = .ok (.iastore, 1) := by decide +kernel
theorem dX6_lineUpByWeight_92 : decode cX6_lineUpByWeight 92 = .ok (.iinc 2 1, 3) := by decide +kernel
theorem dX6_lineUpByWeight_95 : decode cX6_lineUpByWeight 95 = .ok (.goto (-88), 3) := by decide +kernel
theorem dX6_lineUpByWeight_98 : decode cX6_lineUpByWeight 98 = .ok (.iload_n 1, 1) := by decide +kernel
theorem dX6_lineUpByWeight_99 : decode cX6_lineUpByWeight 99 = .ok (.ireturn, 1) := by decide +kernel
theorem dX6_waitsOfQueue_0 : decode cX6_waitsOfQueue 0 = .ok (.iconst 0, 1) := by decide +kernel
theorem dX6_waitsOfQueue_1 : decode cX6_waitsOfQueue 1 = .ok (.istore_n 2, 1) := by decide +kernel
theorem dX6_waitsOfQueue_2 : decode cX6_waitsOfQueue 2 = .ok (.iconst 0, 1) := by decide +kernel
theorem dX6_waitsOfQueue_3 : decode cX6_waitsOfQueue 3 = .ok (.istore_n 3, 1) := by decide +kernel
theorem dX6_waitsOfQueue_4 : decode cX6_waitsOfQueue 4 = .ok (.iconst 0, 1) := by decide +kernel
theorem dX6_waitsOfQueue_5 : decode cX6_waitsOfQueue 5 = .ok (.istore 4, 2) := by decide +kernel
theorem dX6_waitsOfQueue_7 : decode cX6_waitsOfQueue 7 = .ok (.iload 4, 2) := by decide +kernel
theorem dX6_waitsOfQueue_9 : decode cX6_waitsOfQueue 9 = .ok (.iload_n 1, 1) := by decide +kernel
theorem dX6_waitsOfQueue_10 : decode cX6_waitsOfQueue 10 = .ok (.if_icmp .ge 34, 3) := by decide +kernel
theorem dX6_waitsOfQueue_13 : decode cX6_waitsOfQueue 13 = .ok (.iload_n 2, 1) := by decide +kernel
theorem dX6_waitsOfQueue_14 : decode cX6_waitsOfQueue 14 = .ok (.aload_n 0, 1) := by decide +kernel
theorem dX6_waitsOfQueue_15 : decode cX6_waitsOfQueue 15 = .ok (.getfield 12, 3) := by decide +kernel
theorem dX6_waitsOfQueue_18 : decode cX6_waitsOfQueue 18 = .ok (.getfield 120, 3) := by decide +kernel
theorem dX6_waitsOfQueue_21 : decode cX6_waitsOfQueue 21 = .ok (.aload_n 0, 1) := by decide +kernel
theorem dX6_waitsOfQueue_22 : decode cX6_waitsOfQueue 22 = .ok (.getfield 43, 3) := by decide +kernel
theorem dX6_waitsOfQueue_25 : decode cX6_waitsOfQueue 25 = .ok (.iload 4, 2) := by decide +kernel
theorem dX6_waitsOfQueue_27 : decode cX6_waitsOfQueue 27 = .ok (.iaload, 1) := by decide +kernel
theorem dX6_waitsOfQueue_28 : decode cX6_waitsOfQueue 28 = .ok (.aaload, 1) := by decide +kernel
theorem dX6_waitsOfQueue_29 : decode cX6_waitsOfQueue 29 = .ok (.invokevirtual 284, 3) := by decide +kernel
theorem dX6_waitsOfQueue_32 : decode cX6_waitsOfQueue 32 = .ok (.iadd, 1) := by decide +kernel
theorem dX6_waitsOfQueue_33 : decode cX6_waitsOfQueue 33 = .ok (.istore_n 2, 1) := by decide +kernel
theorem dX6_waitsOfQueue_34 : decode cX6_waitsOfQueue 34 = .ok (.iload_n 3, 1) := by decide +kernel
theorem dX6_waitsOfQueue_35 : decode cX6_waitsOfQueue 35 = .ok (.iload_n 2, 1) := by decide +kernel
theorem dX6_waitsOfQueue_36 : decode cX6_waitsOfQueue 36 = .ok (.iadd, 1) := by decide +kernel
theorem dX6_waitsOfQueue_37 : decode cX6_waitsOfQueue 37 = .ok (.istore_n 3, 1) := by decide +kernel
theorem dX6_waitsOfQueue_38 : decode cX6_waitsOfQueue 38 = .ok (.iinc 4 1, 3) := by decide +kernel
theorem dX6_waitsOfQueue_41 : decode cX6_waitsOfQueue 41 = .ok (.goto (-34), 3) := by decide +kernel
theorem dX6_waitsOfQueue_44 : decode cX6_waitsOfQueue 44 = .ok (.iload_n 3, 1) := by decide +kernel
theorem dX6_waitsOfQueue_45 : decode cX6_waitsOfQueue 45 = .ok (.ireturn, 1) := by decide +kernel
theorem dX6_isThing_0 : decode cX6_isThing 0 = .ok (.iload_n 1, 1) := by decide +kernel
theorem dX6_isThing_1 : decode cX6_isThing 1 = .ok (.iconst 0, 1) := by decide +kernel
theorem dX6_isThing_2 : decode cX6_isThing 2 = .ok (.aload_n 0, 1) := by decide +kernel
theorem dX6_isThing_3 : decode cX6_isThing 3 = .ok (.getfield 12, 3) := by decide +kernel
theorem dX6_isThing_6 : decode cX6_isThing 6 = .ok (.getfield 114, 3) := by decide +kernel
theorem dX6_isThing_9 : decode cX6_isThing 9 = .ok (.iconst 1, 1) := by decide +kernel
theorem dX6_isThing_10 : decode cX6_isThing 10 = .ok (.isub, 1) := by decide +kernel
theorem dX6_isThing_11 : decode cX6_isThing 11 = .ok (.invokestatic 79, 3) := by decide +kernel
theorem dX6_isThing_14 : decode cX6_isThing 14 = .ok (.ireturn, 1) := by decide +kernel
theorem dX6_isSetOfThings_0 : decode cX6_isSetOfThings 0 = .ok (.iload_n 1, 1) := by decide +kernel
theorem dX6_isSetOfThings_1 : decode cX6_isSetOfThings 1 = .ok (.iconst 1, 1) := by decide +kernel
theorem dX6_isSetOfThings_2 : decode cX6_isSetOfThings 2 = .ok (.iconst 1, 1) := by decide +kernel
theorem dX6_isSetOfThings_3 : decode cX6_isSetOfThings 3 = .ok (.aload_n 0, 1) := by decide +kernel
theorem dX6_isSetOfThings_4 : decode cX6_isSetOfThings 4 = .ok (.getfield 12, 3) := by decide +kernel
theorem dX6_isSetOfThings_7 : decode cX6_isSetOfThings 7 = .ok (.getfield 114, 3) := by decide +kernel
theorem dX6_isSetOfThings_10 : decode cX6_isSetOfThings 10 = .ok (.ishl, 1) := by decide +kernel
theorem dX6_isSetOfThings_11 : decode cX6_isSetOfThings 11 = .ok (.iconst 1, 1) := by decide +kernel
theorem dX6_isSetOfThings_12 : decode cX6_isSetOfThings 12 = .ok (.isub, 1) := by decide +kernel
theorem dX6_isSetOfThings_13 : decode cX6_isSetOfThings 13 = .ok (.invokestatic 79, 3) := by decide +kernel
theorem dX6_isSetOfThings_16 : decode cX6_isSetOfThings 16 = .ok (.ireturn, 1) := by decide +kernel
theorem dX6_isCell_0 : decode cX6_isCell 0 = .ok (.iload_n 0, 1) := by decide +kernel
theorem dX6_isCell_1 : decode cX6_isCell 1 = .ok (.iconst 0, 1) := by decide +kernel
theorem dX6_isCell_2 : decode cX6_isCell 2 = .ok (.bipush 30, 2) := by decide +kernel
theorem dX6_isCell_4 : decode cX6_isCell 4 = .ok (.invokestatic 79, 3) := by decide +kernel
theorem dX6_isCell_7 : decode cX6_isCell 7 = .ok (.ireturn, 1) := by decide +kernel
theorem dX6_isFall_0 : decode cX6_isFall 0 = .ok (.iload_n 0, 1) := by decide +kernel
theorem dX6_isFall_1 : decode cX6_isFall 1 = .ok (.bipush (-9), 2) := by decide +kernel
theorem dX6_isFall_3 : decode cX6_isFall 3 = .ok (.bipush 9, 2) := by decide +kernel
theorem dX6_isFall_5 : decode cX6_isFall 5 = .ok (.invokestatic 79, 3) := by decide +kernel
theorem dX6_isFall_8 : decode cX6_isFall 8 = .ok (.ireturn, 1) := by decide +kernel
theorem dX6_isMinuteOfHour_0 : decode cX6_isMinuteOfHour 0 = .ok (.iload_n 0, 1) := by decide +kernel
theorem dX6_isMinuteOfHour_1 : decode cX6_isMinuteOfHour 1 = .ok (.iconst 0, 1) := by decide +kernel
theorem dX6_isMinuteOfHour_2 : decode cX6_isMinuteOfHour 2 = .ok (.bipush 59, 2) := by decide +kernel
theorem dX6_isMinuteOfHour_4 : decode cX6_isMinuteOfHour 4 = .ok (.invokestatic 79, 3) := by decide +kernel
theorem dX6_isMinuteOfHour_7 : decode cX6_isMinuteOfHour 7 = .ok (.ireturn, 1) := by decide +kernel
theorem dX6_isKind_0 : decode cX6_isKind 0 = .ok (.iload_n 0, 1) := by decide +kernel
theorem dX6_isKind_1 : decode cX6_isKind 1 = .ok (.iconst 0, 1) := by decide +kernel
theorem dX6_isKind_2 : decode cX6_isKind 2 = .ok (.bipush 6, 2) := by decide +kernel
theorem dX6_isKind_4 : decode cX6_isKind 4 = .ok (.invokestatic 79, 3) := by decide +kernel
theorem dX6_isKind_7 : decode cX6_isKind 7 = .ok (.ireturn, 1) := by decide +kernel
theorem dX6_isWeight_0 : decode cX6_isWeight 0 = .ok (.iload_n 0, 1) := by decide +kernel
theorem dX6_isWeight_1 : decode cX6_isWeight 1 = .ok (.iconst 1, 1) := by decide +kernel
theorem dX6_isWeight_2 : decode cX6_isWeight 2 = .ok (.bipush 99, 2) := by decide +kernel
theorem dX6_isWeight_4 : decode cX6_isWeight 4 = .ok (.invokestatic 79, 3) := by decide +kernel
theorem dX6_isWeight_7 : decode cX6_isWeight 7 = .ok (.ireturn, 1) := by decide +kernel
theorem dX6_isRolls_0 : decode cX6_isRolls 0 = .ok (.iload_n 0, 1) := by decide +kernel
theorem dX6_isRolls_1 : decode cX6_isRolls 1 = .ok (.iconst 1, 1) := by decide +kernel
theorem dX6_isRolls_2 : decode cX6_isRolls 2 = .ok (.bipush 9, 2) := by decide +kernel
theorem dX6_isRolls_4 : decode cX6_isRolls 4 = .ok (.invokestatic 79, 3) := by decide +kernel
theorem dX6_isRolls_7 : decode cX6_isRolls 7 = .ok (.ireturn, 1) := by decide +kernel
theorem dX6_isLean_0 : decode cX6_isLean 0 = .ok (.iload_n 0, 1) := by decide +kernel
theorem dX6_isLean_1 : decode cX6_isLean 1 = .ok (.iconst 0, 1) := by decide +kernel
theorem dX6_isLean_2 : decode cX6_isLean 2 = .ok (.bipush 9, 2) := by decide +kernel
theorem dX6_isLean_4 : decode cX6_isLean 4 = .ok (.invokestatic 79, 3) := by decide +kernel
theorem dX6_isLean_7 : decode cX6_isLean 7 = .ok (.ireturn, 1) := by decide +kernel
theorem dX6_isSheet_0 : decode cX6_isSheet 0 = .ok (.iload_n 0, 1) := by decide +kernel
theorem dX6_isSheet_1 : decode cX6_isSheet 1 = .ok (.iconst 0, 1) := by decide +kernel
theorem dX6_isSheet_2 : decode cX6_isSheet 2 = .ok (.iconst 3, 1) := by decide +kernel
theorem dX6_isSheet_3 : decode cX6_isSheet 3 = .ok (.invokestatic 79, 3) := by decide +kernel
theorem dX6_isSheet_6 : decode cX6_isSheet 6 = .ok (.ireturn, 1) := by decide +kernel
theorem dX6_within_0 : decode cX6_within 0 = .ok (.iload_n 0, 1) := by decide +kernel
theorem dX6_within_1 : decode cX6_within 1 = .ok (.iload_n 1, 1) := by decide +kernel
theorem dX6_within_2 : decode cX6_within 2 = .ok (.if_icmp .lt 12, 3) := by decide +kernel
theorem dX6_within_5 : decode cX6_within 5 = .ok (.iload_n 0, 1) := by decide +kernel
theorem dX6_within_6 : decode cX6_within 6 = .ok (.iload_n 2, 1) := by decide +kernel
theorem dX6_within_7 : decode cX6_within 7 = .ok (.if_icmp .gt 7, 3) := by decide +kernel
theorem dX6_within_10 : decode cX6_within 10 = .ok (.iconst 1, 1) := by decide +kernel
theorem dX6_within_11 : decode cX6_within 11 = .ok (.goto 4, 3) := by decide +kernel
theorem dX6_within_14 : decode cX6_within 14 = .ok (.iconst 0, 1) := by decide +kernel
theorem dX6_within_15 : decode cX6_within 15 = .ok (.ireturn, 1) := by decide +kernel
theorem dX6_has_0 : decode cX6_has 0 = .ok (.iload_n 0, 1) := by decide +kernel
theorem dX6_has_1 : decode cX6_has 1 = .ok (.iload_n 1, 1) := by decide +kernel
theorem dX6_has_2 : decode cX6_has 2 = .ok (.ishr, 1) := by decide +kernel
theorem dX6_has_3 : decode cX6_has 3 = .ok (.iconst 1, 1) := by decide +kernel
theorem dX6_has_4 : decode cX6_has 4 = .ok (.iand, 1) := by decide +kernel
theorem dX6_has_5 : decode cX6_has 5 = .ok (.ifCond .eq 7, 3) := by decide +kernel
theorem dX6_has_8 : decode cX6_has 8 = .ok (.iconst 1, 1) := by decide +kernel
theorem dX6_has_9 : decode cX6_has 9 = .ok (.goto 4, 3) := by decide +kernel
theorem dX6_has_12 : decode cX6_has 12 = .ok (.iconst 0, 1) := by decide +kernel
theorem dX6_has_13 : decode cX6_has 13 = .ok (.ireturn, 1) := by decide +kernel
end
section
theorem dX7_init_0 : decode cX7_init 0 = .ok (.aload_n 0, 1) := by decide +kernel
theorem dX7_init_1 : decode cX7_init 1 = .ok (.invokespecial 1, 3) := by decide +kernel
theorem dX7_init_4 : decode cX7_init 4 = .ok (.aload_n 0, 1) := by decide +kernel
theorem dX7_init_5 : decode cX7_init 5 = .ok (.sipush 167, 3) := by decide +kernel
theorem dX7_init_8 : decode cX7_init 8 = .ok (.newarray .int, 2) := by decide +kernel
theorem dX7_init_10 : decode cX7_init 10 = .ok (.putfield 7, 3) := by decide +kernel
theorem dX7_init_13 : decode cX7_init 13 = .ok (.aload_n 0, 1) := by decide +kernel
theorem dX7_init_14 : decode cX7_init 14 = .ok (.sipush 167, 3) := by decide +kernel
theorem dX7_init_17 : decode cX7_init 17 = .ok (.newarray .int, 2) := by decide +kernel
theorem dX7_init_19 : decode cX7_init 19 = .ok (.putfield 13, 3) := by decide +kernel
theorem dX7_init_22 : decode cX7_init 22 = .ok (.aload_n 0, 1) := by decide +kernel
theorem dX7_init_23 : decode cX7_init 23 = .ok (.sipush 167, 3) := by decide +kernel
theorem dX7_init_26 : decode cX7_init 26 = .ok (.newarray .int, 2) := by decide +kernel
theorem dX7_init_28 : decode cX7_init 28 = .ok (.putfield 16, 3) := by decide +kernel
theorem dX7_init_31 : decode cX7_init 31 = .ok (.aload_n 0, 1) := by decide +kernel
theorem dX7_init_32 : decode cX7_init 32 = .ok (.bipush 7, 2) := by decide +kernel
theorem dX7_init_34 : decode cX7_init 34 = .ok (.newarray .int, 2) := by decide +kernel
theorem dX7_init_36 : decode cX7_init 36 = .ok (.putfield 19, 3) := by decide +kernel
theorem dX7_init_39 : decode cX7_init 39 = .ok (.aload_n 0, 1) := by decide +kernel
theorem dX7_init_40 : decode cX7_init 40 = .ok (.sipush 1024, 3) := by decide +kernel
theorem dX7_init_43 : decode cX7_init 43 = .ok (.newarray .int, 2) := by decide +kernel
theorem dX7_init_45 : decode cX7_init 45 = .ok (.putfield 22, 3) := by decide +kernel
theorem dX7_init_48 : decode cX7_init 48 = .ok (.aload_n 0, 1) := by decide +kernel
theorem dX7_init_49 : decode cX7_init 49 = .ok (.bipush 10, 2) := by decide +kernel
theorem dX7_init_51 : decode cX7_init 51 = .ok (.newarray .int, 2) := by decide +kernel
theorem dX7_init_53 : decode cX7_init 53 = .ok (.putfield 25, 3) := by decide +kernel
theorem dX7_init_56 : decode cX7_init 56 = .ok (.aload_n 0, 1) := by decide +kernel
theorem dX7_init_57 : decode cX7_init 57 = .ok (.bipush 120, 2) := by decide +kernel
theorem dX7_init_59 : decode cX7_init 59 = .ok (.newarray .int, 2) := by decide +kernel
theorem dX7_init_61 : decode cX7_init 61 = .ok (.putfield 28, 3) := by decide +kernel
theorem dX7_init_64 : decode cX7_init 64 = .ok (.aload_n 0, 1) := by decide +kernel
theorem dX7_init_65 : decode cX7_init 65 = .ok (.iconst 4, 1) := by decide +kernel
theorem dX7_init_66 : decode cX7_init 66 = .ok (.newarray .int, 2) := by decide +kernel
theorem dX7_init_68 : decode cX7_init 68 = .ok (.putfield 31, 3) := by decide +kernel
theorem dX7_init_71 : decode cX7_init 71 = .ok (.aload_n 0, 1) := by decide +kernel
theorem dX7_init_72 : decode cX7_init 72 = .ok (.iconst 4, 1) := by decide +kernel
theorem dX7_init_73 : decode cX7_init 73 = .ok (.newarray .int, 2) := by decide +kernel
theorem dX7_init_75 : decode cX7_init 75 = .ok (.putfield 34, 3) := by decide +kernel
theorem dX7_init_78 : decode cX7_init 78 = .ok (.aload_n 0, 1) := by decide +kernel
theorem dX7_init_79 : decode cX7_init 79 = .ok (.sipush 160, 3) := by decide +kernel
theorem dX7_init_82 : decode cX7_init 82 = .ok (.newarray .int, 2) := by decide +kernel
theorem dX7_init_84 : decode cX7_init 84 = .ok (.putfield 37, 3) := by decide +kernel
theorem dX7_init_87 : decode cX7_init 87 = .ok (.aload_n 0, 1) := by decide +kernel
theorem dX7_init_88 : decode cX7_init 88 = .ok (.bipush 40, 2) := by decide +kernel
theorem dX7_init_90 : decode cX7_init 90 = .ok (.newarray .int, 2) := by decide +kernel
theorem dX7_init_92 : decode cX7_init 92 = .ok (.putfield 40, 3) := by decide +kernel
theorem dX7_init_95 : decode cX7_init 95 = .ok (.aload_n 0, 1) := by decide +kernel
theorem dX7_init_96 : decode cX7_init 96 = .ok (.getfield 7, 3) := by decide +kernel
theorem dX7_init_99 : decode cX7_init 99 = .ok (.iconst 3, 1) := by decide +kernel
theorem dX7_init_100 : decode cX7_init 100 = .ok (.bipush 14, 2) := by decide +kernel
theorem dX7_init_102 : decode cX7_init 102 = .ok (.iastore, 1) := by decide +kernel
theorem dX7_init_103 : decode cX7_init 103 = .ok (.aload_n 0, 1) := by decide +kernel
theorem dX7_init_104 : decode cX7_init 104 = .ok (.getfield 7, 3) := by decide +kernel
theorem dX7_init_107 : decode cX7_init 107 = .ok (.iconst 4, 1) := by decide +kernel
theorem dX7_init_108 : decode cX7_init 108 = .ok (.iconst 1, 1) := by decide +kernel
theorem dX7_init_109 : decode cX7_init 109 = .ok (.iastore, 1) := by decide +kernel
theorem dX7_init_110 : decode cX7_init 110 = .ok (.iconst 0, 1) := by decide +kernel
theorem dX7_init_111 : decode cX7_init 111 = .ok (.istore_n 1, 1) := by decide +kernel
theorem dX7_init_112 : decode cX7_init 112 = .ok (.iload_n 1, 1) := by decide +kernel
theorem dX7_init_113 : decode cX7_init 113 = .ok (.bipush 31, 2) := by decide +kernel
theorem dX7_init_115 : decode cX7_init 115 = .ok (.if_icmp .ge 18, 3) := by decide +kernel
theorem dX7_init_118 : decode cX7_init 118 = .ok (.aload_n 0, 1) := by decide +kernel
theorem dX7_init_119 : decode cX7_init 119 = .ok (.getfield 7, 3) := by decide +kernel
theorem dX7_init_122 : decode cX7_init 122 = .ok (.iconst 5, 1) := by decide +kernel
theorem dX7_init_123 : decode cX7_init 123 = .ok (.iload_n 1, 1) := by decide +kernel
theorem dX7_init_124 : decode cX7_init 124 = .ok (.iadd, 1) := by decide +kernel
theorem dX7_init_125 : decode cX7_init 125 = .ok (.iconst 2, 1) := by decide +kernel
theorem dX7_init_126 : decode cX7_init 126 = .ok (.iastore, 1) := by decide +kernel
theorem dX7_init_127 : decode cX7_init 127 = .ok (.iinc 1 1, 3) := by decide +kernel
theorem dX7_init_130 : decode cX7_init 130 = .ok (.goto (-18), 3) := by decide +kernel
theorem dX7_init_133 : decode cX7_init 133 = .ok (.iconst 0, 1) := by decide +kernel
theorem dX7_init_134 : decode cX7_init 134 = .ok (.istore_n 1, 1) := by decide +kernel
theorem dX7_init_135 : decode cX7_init 135 = .ok (.iload_n 1, 1) := by decide +kernel
theorem dX7_init_136 : decode cX7_init 136 = .ok (.bipush 10, 2) := by decide +kernel
theorem dX7_init_138 : decode cX7_init 138 = .ok (.if_icmp .ge 20, 3) := by decide +kernel
theorem dX7_init_141 : decode cX7_init 141 = .ok (.aload_n 0, 1) := by decide +kernel
theorem dX7_init_142 : decode cX7_init 142 = .ok (.getfield 7, 3) := by decide +kernel
theorem dX7_init_145 : decode cX7_init 145 = .ok (.sipush 157, 3) := by decide +kernel
theorem dX7_init_148 : decode cX7_init 148 = .ok (.iload_n 1, 1) := by decide +kernel
theorem dX7_init_149 : decode cX7_init 149 = .ok (.iadd, 1) := by decide +kernel
theorem dX7_init_150 : decode cX7_init 150 = .ok (.iconst (-1), 1) := by decide +kernel
theorem dX7_init_151 : decode cX7_init 151 = .ok (.iastore, 1) := by decide +kernel
theorem dX7_init_152 : decode cX7_init 152 = .ok (.iinc 1 1, 3) := by decide +kernel
theorem dX7_init_155 : decode cX7_init 155 = .ok (.goto (-20), 3) := by decide +kernel
theorem dX7_init_158 : decode cX7_init 158 = .ok (.return_, 1) := by decide +kernel
theorem dX7_in_0 : decode cX7_in 0 = .ok (.lload_n 0, 1) := by decide +kernel
theorem dX7_in_1 : decode cX7_in 1 = .ok (.lload_n 2, 1) := by decide +kernel
theorem dX7_in_2 : decode cX7_in 2 = .ok (.lcmp, 1) := by decide +kernel
theorem dX7_in_3 : decode cX7_in 3 = .ok (.ifCond .lt 14, 3) := by decide +kernel
theorem dX7_in_6 : decode cX7_in 6 = .ok (.lload_n 0, 1) := by decide +kernel
theorem dX7_in_7 : decode cX7_in 7 = .ok (.lload 4, 2) := by decide +kernel
theorem dX7_in_9 : decode cX7_in 9 = .ok (.lcmp, 1) := by decide +kernel
theorem dX7_in_10 : decode cX7_in 10 = .ok (.ifCond .gt 7, 3) := by decide +kernel
theorem dX7_in_13 : decode cX7_in 13 = .ok (.iconst 1, 1) := by decide +kernel
theorem dX7_in_14 : decode cX7_in 14 = .ok (.goto 4, 3) := by decide +kernel
theorem dX7_in_17 : decode cX7_in 17 = .ok (.iconst 0, 1) := by decide +kernel
theorem dX7_in_18 : decode cX7_in 18 = .ok (.ireturn, 1) := by decide +kernel
theorem dX7_finds_0 : decode cX7_finds 0 = .ok (.aload_n 0, 1) := by decide +kernel
theorem dX7_finds_1 : decode cX7_finds 1 = .ok (.getfield 19, 3) := by decide +kernel
theorem dX7_finds_4 : decode cX7_finds 4 = .ok (.ldc 43, 2) := by decide +kernel
theorem dX7_finds_6 : decode cX7_finds 6 = .ok (.iload_n 1, 1) := by decide +kernel
theorem dX7_finds_7 : decode cX7_finds 7 = .ok (.isub, 1) := by decide +kernel
theorem dX7_finds_8 : decode cX7_finds 8 = .ok (.dup2, 1) := by decide +kernel
theorem dX7_finds_9 : decode cX7_finds 9 = .ok (.iaload, 1) := by decide +kernel
theorem dX7_finds_10 : decode cX7_finds 10 = .ok (.iconst 1, 1) := by decide +kernel
theorem dX7_finds_11 : decode cX7_finds 11 = .ok (.iadd, 1) := by decide +kernel
theorem dX7_finds_12 : decode cX7_finds 12 = .ok (.iastore, 1) := by decide +kernel
theorem dX7_finds_13 : decode cX7_finds 13 = .ok (.iload_n 1, 1) := by decide +kernel
theorem dX7_finds_14 : decode cX7_finds 14 = .ok (.ireturn, 1) := by decide +kernel
theorem dX7_isCell_0 : decode cX7_isCell 0 = .ok (.iload_n 0, 1) := by decide +kernel
theorem dX7_isCell_1 : decode cX7_isCell 1 = .ok (.i2l, 1) := by decide +kernel
theorem dX7_isCell_2 : decode cX7_isCell 2 = .ok (.lconst 0, 1) := by decide +kernel
theorem dX7_isCell_3 : decode cX7_isCell 3 = .ok (.ldc2_w 44, 3) := by decide +kernel
theorem dX7_isCell_6 : decode cX7_isCell 6 = .ok (.invokestatic 46, 3) := by decide +kernel
theorem dX7_isCell_9 : decode cX7_isCell 9 = .ok (.ireturn, 1) := by decide +kernel
theorem dX7_isThing_0 : decode cX7_isThing 0 = .ok (.iload_n 1, 1) := by decide +kernel
theorem dX7_isThing_1 : decode cX7_isThing 1 = .ok (.i2l, 1) := by decide +kernel
theorem dX7_isThing_2 : decode cX7_isThing 2 = .ok (.lconst 0, 1) := by decide +kernel
theorem dX7_isThing_3 : decode cX7_isThing 3 = .ok (.aload_n 0, 1) := by decide +kernel
theorem dX7_isThing_4 : decode cX7_isThing 4 = .ok (.getfield 7, 3) := by decide +kernel
theorem dX7_isThing_7 : decode cX7_isThing 7 = .ok (.iconst 1, 1) := by decide +kernel
theorem dX7_isThing_8 : decode cX7_isThing 8 = .ok (.iaload, 1) := by decide +kernel
theorem dX7_isThing_9 : decode cX7_isThing 9 = .ok (.iconst 1, 1) := by decide +kernel
theorem dX7_isThing_10 : decode cX7_isThing 10 = .ok (.isub, 1) := by decide +kernel
theorem dX7_isThing_11 : decode cX7_isThing 11 = .ok (.i2l, 1) := by decide +kernel
theorem dX7_isThing_12 : decode cX7_isThing 12 = .ok (.invokestatic 46, 3) := by decide +kernel
theorem dX7_isThing_15 : decode cX7_isThing 15 = .ok (.ireturn, 1) := by decide +kernel
theorem dX7_has_0 : decode cX7_has 0 = .ok (.iload_n 0, 1) := by decide +kernel
theorem dX7_has_1 : decode cX7_has 1 = .ok (.iload_n 1, 1) := by decide +kernel
theorem dX7_has_2 : decode cX7_has 2 = .ok (.ishr, 1) := by decide +kernel
theorem dX7_has_3 : decode cX7_has 3 = .ok (.iconst 1, 1) := by decide +kernel
theorem dX7_has_4 : decode cX7_has 4 = .ok (.iand, 1) := by decide +kernel
theorem dX7_has_5 : decode cX7_has 5 = .ok (.iconst 1, 1) := by decide +kernel
theorem dX7_has_6 : decode cX7_has 6 = .ok (.if_icmp .ne 7, 3) := by decide +kernel
theorem dX7_has_9 : decode cX7_has 9 = .ok (.iconst 1, 1) := by decide +kernel
theorem dX7_has_10 : decode cX7_has 10 = .ok (.goto 4, 3) := by decide +kernel
theorem dX7_has_13 : decode cX7_has 13 = .ok (.iconst 0, 1) := by decide +kernel
theorem dX7_has_14 : decode cX7_has 14 = .ok (.ireturn, 1) := by decide +kernel
theorem dX7_draw_0 : decode cX7_draw 0 = .ok (.aload_n 0, 1) := by decide +kernel
theorem dX7_draw_1 : decode cX7_draw 1 = .ok (.getfield 7, 3) := by decide +kernel
theorem dX7_draw_4 : decode cX7_draw 4 = .ok (.iconst 4, 1) := by decide +kernel
theorem dX7_draw_5 : decode cX7_draw 5 = .ok (.aload_n 0, 1) := by decide +kernel
theorem dX7_draw_6 : decode cX7_draw 6 = .ok (.getfield 7, 3) := by decide +kernel
theorem dX7_draw_9 : decode cX7_draw 9 = .ok (.iconst 4, 1) := by decide +kernel
theorem dX7_draw_10 : decode cX7_draw 10 = .ok (.iaload, 1) := by decide +kernel
theorem dX7_draw_11 : decode cX7_draw 11 = .ok (.ldc 50, 2) := by decide +kernel
theorem dX7_draw_13 : decode cX7_draw 13 = .ok (.imul, 1) := by decide +kernel
theorem dX7_draw_14 : decode cX7_draw 14 = .ok (.sipush 12345, 3) := by decide +kernel
theorem dX7_draw_17 : decode cX7_draw 17 = .ok (.iadd, 1) := by decide +kernel
theorem dX7_draw_18 : decode cX7_draw 18 = .ok (.iastore, 1) := by decide +kernel
theorem dX7_draw_19 : decode cX7_draw 19 = .ok (.aload_n 0, 1) := by decide +kernel
theorem dX7_draw_20 : decode cX7_draw 20 = .ok (.getfield 7, 3) := by decide +kernel
theorem dX7_draw_23 : decode cX7_draw 23 = .ok (.iconst 4, 1) := by decide +kernel
theorem dX7_draw_24 : decode cX7_draw 24 = .ok (.iaload, 1) := by decide +kernel
theorem dX7_draw_25 : decode cX7_draw 25 = .ok (.bipush 8, 2) := by decide +kernel
theorem dX7_draw_27 : decode cX7_draw 27 = .ok (.iushr, 1) := by decide +kernel
theorem dX7_draw_28 : decode cX7_draw 28 = .ok (.ireturn, 1) := by decide +kernel
theorem dX7_puts_0 : decode cX7_puts 0 = .ok (.iconst 0, 1) := by decide +kernel
theorem dX7_puts_1 : decode cX7_puts 1 = .ok (.istore_n 1, 1) := by decide +kernel
theorem dX7_puts_2 : decode cX7_puts 2 = .ok (.iload_n 1, 1) := by decide +kernel
theorem dX7_puts_3 : decode cX7_puts 3 = .ok (.sipush 167, 3) := by decide +kernel
theorem dX7_puts_6 : decode cX7_puts 6 = .ok (.if_icmp .ge 21, 3) := by decide +kernel
theorem dX7_puts_9 : decode cX7_puts 9 = .ok (.aload_n 0, 1) := by decide +kernel
theorem dX7_puts_10 : decode cX7_puts 10 = .ok (.getfield 16, 3) := by decide +kernel
theorem dX7_puts_13 : decode cX7_puts 13 = .ok (.iload_n 1, 1) := by decide +kernel
theorem dX7_puts_14 : decode cX7_puts 14 = .ok (.aload_n 0, 1) := by decide +kernel
theorem dX7_puts_15 : decode cX7_puts 15 = .ok (.getfield 7, 3) := by decide +kernel
theorem dX7_puts_18 : decode cX7_puts 18 = .ok (.iload_n 1, 1) := by decide +kernel
theorem dX7_puts_19 : decode cX7_puts 19 = .ok (.iaload, 1) := by decide +kernel
theorem dX7_puts_20 : decode cX7_puts 20 = .ok (.iastore, 1) := by decide +kernel
theorem dX7_puts_21 : decode cX7_puts 21 = .ok (.iinc 1 1, 3) := by decide +kernel
theorem dX7_puts_24 : decode cX7_puts 24 = .ok (.goto (-22), 3) := by decide +kernel
theorem dX7_puts_27 : decode cX7_puts 27 = .ok (.return_, 1) := by decide +kernel
theorem dX7_putsBack_0 : decode cX7_putsBack 0 = .ok (.iconst 0, 1) := by decide +kernel
theorem dX7_putsBack_1 : decode cX7_putsBack 1 = .ok (.istore_n 1, 1) := by decide +kernel
theorem dX7_putsBack_2 : decode cX7_putsBack 2 = .ok (.iload_n 1, 1) := by decide +kernel
theorem dX7_putsBack_3 : decode cX7_putsBack 3 = .ok (.sipush 167, 3) := by decide +kernel
theorem dX7_putsBack_6 : decode cX7_putsBack 6 = .ok (.if_icmp .ge 21, 3) := by decide +kernel
theorem dX7_putsBack_9 : decode cX7_putsBack 9 = .ok (.aload_n 0, 1) := by decide +kernel
theorem dX7_putsBack_10 : decode cX7_putsBack 10 = .ok (.getfield 7, 3) := by decide +kernel
theorem dX7_putsBack_13 : decode cX7_putsBack 13 = .ok (.iload_n 1, 1) := by decide +kernel
theorem dX7_putsBack_14 : decode cX7_putsBack 14 = .ok (.aload_n 0, 1) := by decide +kernel
theorem dX7_putsBack_15 : decode cX7_putsBack 15 = .ok (.getfield 16, 3) := by decide +kernel
theorem dX7_putsBack_18 : decode cX7_putsBack 18 = .ok (.iload_n 1, 1) := by decide +kernel
theorem dX7_putsBack_19 : decode cX7_putsBack 19 = .ok (.iaload, 1) := by decide +kernel
theorem dX7_putsBack_20 : decode cX7_putsBack 20 = .ok (.iastore, 1) := by decide +kernel
theorem dX7_putsBack_21 : decode cX7_putsBack 21 = .ok (.iinc 1 1, 3) := by decide +kernel
theorem dX7_putsBack_24 : decode cX7_putsBack 24 = .ok (.goto (-22), 3) := by decide +kernel
theorem dX7_putsBack_27 : decode cX7_putsBack 27 = .ok (.return_, 1) := by decide +kernel
theorem dX7_fall_0 : decode cX7_fall 0 = .ok (.iload_n 1, 1) := by decide +kernel
theorem dX7_fall_1 : decode cX7_fall 1 = .ok (.invokestatic 51, 3) := by decide +kernel
theorem dX7_fall_4 : decode cX7_fall 4 = .ok (.ifCond .eq 17, 3) := by decide +kernel
theorem dX7_fall_7 : decode cX7_fall 7 = .ok (.iload_n 2, 1) := by decide +kernel
theorem dX7_fall_8 : decode cX7_fall 8 = .ok (.i2l, 1) := by decide +kernel
theorem dX7_fall_9 : decode cX7_fall 9 = .ok (.ldc2_w 55, 3) := by decide +kernel
theorem dX7_fall_12 : decode cX7_fall 12 = .ok (.ldc2_w 57, 3) := by decide +kernel
theorem dX7_fall_15 : decode cX7_fall 15 = .ok (.invokestatic 46, 3) := by decide +kernel
theorem dX7_fall_18 : decode cX7_fall 18 = .ok (.ifCond .ne 10, 3) := by decide +kernel
theorem dX7_fall_21 : decode cX7_fall 21 = .ok (.aload_n 0, 1) := by decide +kernel
theorem dX7_fall_22 : decode cX7_fall 22 = .ok (.ldc 43, 2) := by decide +kernel
theorem dX7_fall_24 : decode cX7_fall 24 = .ok (.invokevirtual 59, 3) := by decide +kernel
theorem dX7_fall_27 : decode cX7_fall 27 = .ok (.ireturn, 1) := by decide +kernel
theorem dX7_fall_28 : decode cX7_fall 28 = .ok (.aload_n 0, 1) := by decide +kernel
theorem dX7_fall_29 : decode cX7_fall 29 = .ok (.getfield 7, 3) := by decide +kernel
theorem dX7_fall_32 : decode cX7_fall 32 = .ok (.iconst 5, 1) := by decide +kernel
theorem dX7_fall_33 : decode cX7_fall 33 = .ok (.iload_n 1, 1) := by decide +kernel
theorem dX7_fall_34 : decode cX7_fall 34 = .ok (.iadd, 1) := by decide +kernel
theorem dX7_fall_35 : decode cX7_fall 35 = .ok (.iaload, 1) := by decide +kernel
theorem dX7_fall_36 : decode cX7_fall 36 = .ok (.istore_n 3, 1) := by decide +kernel
theorem dX7_fall_37 : decode cX7_fall 37 = .ok (.aload_n 0, 1) := by decide +kernel
theorem dX7_fall_38 : decode cX7_fall 38 = .ok (.getfield 7, 3) := by decide +kernel
theorem dX7_fall_41 : decode cX7_fall 41 = .ok (.iconst 5, 1) := by decide +kernel
theorem dX7_fall_42 : decode cX7_fall 42 = .ok (.iload_n 1, 1) := by decide +kernel
theorem dX7_fall_43 : decode cX7_fall 43 = .ok (.iadd, 1) := by decide +kernel
theorem dX7_fall_44 : decode cX7_fall 44 = .ok (.iload_n 2, 1) := by decide +kernel
theorem dX7_fall_45 : decode cX7_fall 45 = .ok (.iastore, 1) := by decide +kernel
theorem dX7_fall_46 : decode cX7_fall 46 = .ok (.iload_n 3, 1) := by decide +kernel
theorem dX7_fall_47 : decode cX7_fall 47 = .ok (.ireturn, 1) := by decide +kernel
theorem dX7_ground_0 : decode cX7_ground 0 = .ok (.iload_n 1, 1) := by decide +kernel
theorem dX7_ground_1 : decode cX7_ground 1 = .ok (.invokestatic 51, 3) := by decide +kernel
theorem dX7_ground_4 : decode cX7_ground 4 = .ok (.ifCond .eq 15, 3) := by decide +kernel
theorem dX7_ground_7 : decode cX7_ground 7 = .ok (.iload_n 2, 1) := by decide +kernel
theorem dX7_ground_8 : decode cX7_ground 8 = .ok (.i2l, 1) := by decide +kernel
theorem dX7_ground_9 : decode cX7_ground 9 = .ok (.lconst 0, 1) := by decide +kernel
theorem dX7_ground_10 : decode cX7_ground 10 = .ok (.ldc2_w 63, 3) := by decide +kernel
theorem dX7_ground_13 : decode cX7_ground 13 = .ok (.invokestatic 46, 3) := by decide +kernel
theorem dX7_ground_16 : decode cX7_ground 16 = .ok (.ifCond .ne 10, 3) := by decide +kernel
theorem dX7_ground_19 : decode cX7_ground 19 = .ok (.aload_n 0, 1) := by decide +kernel
theorem dX7_ground_20 : decode cX7_ground 20 = .ok (.ldc 43, 2) := by decide +kernel
theorem dX7_ground_22 : decode cX7_ground 22 = .ok (.invokevirtual 59, 3) := by decide +kernel
theorem dX7_ground_25 : decode cX7_ground 25 = .ok (.ireturn, 1) := by decide +kernel
theorem dX7_ground_26 : decode cX7_ground 26 = .ok (.aload_n 0, 1) := by decide +kernel
theorem dX7_ground_27 : decode cX7_ground 27 = .ok (.getfield 7, 3) := by decide +kernel
theorem dX7_ground_30 : decode cX7_ground 30 = .ok (.bipush 36, 2) := by decide +kernel
theorem dX7_ground_32 : decode cX7_ground 32 = .ok (.iload_n 1, 1) := by decide +kernel
theorem dX7_ground_33 : decode cX7_ground 33 = .ok (.iadd, 1) := by decide +kernel
theorem dX7_ground_34 : decode cX7_ground 34 = .ok (.iaload, 1) := by decide +kernel
theorem dX7_ground_35 : decode cX7_ground 35 = .ok (.istore_n 3, 1) := by decide +kernel
theorem dX7_ground_36 : decode cX7_ground 36 = .ok (.aload_n 0, 1) := by decide +kernel
theorem dX7_ground_37 : decode cX7_ground 37 = .ok (.getfield 7, 3) := by decide +kernel
theorem dX7_ground_40 : decode cX7_ground 40 = .ok (.bipush 36, 2) := by decide +kernel
theorem dX7_ground_42 : decode cX7_ground 42 = .ok (.iload_n 1, 1) := by decide +kernel
theorem dX7_ground_43 : decode cX7_ground 43 = .ok (.iadd, 1) := by decide +kernel
theorem dX7_ground_44 : decode cX7_ground 44 = .ok (.iload_n 2, 1) := by decide +kernel
theorem dX7_ground_45 : decode cX7_ground 45 = .ok (.iastore, 1) := by decide +kernel
theorem dX7_ground_46 : decode cX7_ground 46 = .ok (.iload_n 3, 1) := by decide +kernel
theorem dX7_ground_47 : decode cX7_ground 47 = .ok (.ireturn, 1) := by decide +kernel
theorem dX7_gate_0 : decode cX7_gate 0 = .ok (.iload_n 1, 1) := by decide +kernel
theorem dX7_gate_1 : decode cX7_gate 1 = .ok (.i2l, 1) := by decide +kernel
theorem dX7_gate_2 : decode cX7_gate 2 = .ok (.lconst 0, 1) := by decide +kernel
theorem dX7_gate_3 : decode cX7_gate 3 = .ok (.lconst 1, 1) := by decide +kernel
theorem dX7_gate_4 : decode cX7_gate 4 = .ok (.invokestatic 46, 3) := by decide +kernel
theorem dX7_gate_7 : decode cX7_gate 7 = .ok (.ifCond .eq 15, 3) := by decide +kernel
theorem dX7_gate_10 : decode cX7_gate 10 = .ok (.iload_n 2, 1) := by decide +kernel
theorem dX7_gate_11 : decode cX7_gate 11 = .ok (.i2l, 1) := by decide +kernel
theorem dX7_gate_12 : decode cX7_gate 12 = .ok (.lconst 0, 1) := by decide +kernel
theorem dX7_gate_13 : decode cX7_gate 13 = .ok (.ldc2_w 65, 3) := by decide +kernel
theorem dX7_gate_16 : decode cX7_gate 16 = .ok (.invokestatic 46, 3) := by decide +kernel
theorem dX7_gate_19 : decode cX7_gate 19 = .ok (.ifCond .ne 10, 3) := by decide +kernel
theorem dX7_gate_22 : decode cX7_gate 22 = .ok (.aload_n 0, 1) := by decide +kernel
theorem dX7_gate_23 : decode cX7_gate 23 = .ok (.ldc 43, 2) := by decide +kernel
theorem dX7_gate_25 : decode cX7_gate 25 = .ok (.invokevirtual 59, 3) := by decide +kernel
theorem dX7_gate_28 : decode cX7_gate 28 = .ok (.ireturn, 1) := by decide +kernel
theorem dX7_gate_29 : decode cX7_gate 29 = .ok (.aload_n 0, 1) := by decide +kernel
theorem dX7_gate_30 : decode cX7_gate 30 = .ok (.getfield 7, 3) := by decide +kernel
theorem dX7_gate_33 : decode cX7_gate 33 = .ok (.iconst 2, 1) := by decide +kernel
theorem dX7_gate_34 : decode cX7_gate 34 = .ok (.iload_n 1, 1) := by decide +kernel
theorem dX7_gate_35 : decode cX7_gate 35 = .ok (.iadd, 1) := by decide +kernel
theorem dX7_gate_36 : decode cX7_gate 36 = .ok (.iaload, 1) := by decide +kernel
theorem dX7_gate_37 : decode cX7_gate 37 = .ok (.istore_n 3, 1) := by decide +kernel
theorem dX7_gate_38 : decode cX7_gate 38 = .ok (.aload_n 0, 1) := by decide +kernel
theorem dX7_gate_39 : decode cX7_gate 39 = .ok (.getfield 7, 3) := by decide +kernel
theorem dX7_gate_42 : decode cX7_gate 42 = .ok (.iconst 2, 1) := by decide +kernel
theorem dX7_gate_43 : decode cX7_gate 43 = .ok (.iload_n 1, 1) := by decide +kernel
theorem dX7_gate_44 : decode cX7_gate 44 = .ok (.iadd, 1) := by decide +kernel
theorem dX7_gate_45 : decode cX7_gate 45 = .ok (.iload_n 2, 1) := by decide +kernel
theorem dX7_gate_46 : decode cX7_gate 46 = .ok (.iastore, 1) := by decide +kernel
theorem dX7_gate_47 : decode cX7_gate 47 = .ok (.iload_n 3, 1) := by decide +kernel
theorem dX7_gate_48 : decode cX7_gate 48 = .ok (.ireturn, 1) := by decide +kernel
theorem dX7_isShut_0 : decode cX7_isShut 0 = .ok (.iload_n 1, 1) := by decide +kernel
theorem dX7_isShut_1 : decode cX7_isShut 1 = .ok (.bipush 60, 2) := by decide +kernel
theorem dX7_isShut_3 : decode cX7_isShut 3 = .ok (.irem, 1) := by decide +kernel
theorem dX7_isShut_4 : decode cX7_isShut 4 = .ok (.istore_n 2, 1) := by decide +kernel
theorem dX7_isShut_5 : decode cX7_isShut 5 = .ok (.aload_n 0, 1) := by decide +kernel
theorem dX7_isShut_6 : decode cX7_isShut 6 = .ok (.getfield 7, 3) := by decide +kernel
theorem dX7_isShut_9 : decode cX7_isShut 9 = .ok (.iconst 2, 1) := by decide +kernel
theorem dX7_isShut_10 : decode cX7_isShut 10 = .ok (.iaload, 1) := by decide +kernel
theorem dX7_isShut_11 : decode cX7_isShut 11 = .ok (.aload_n 0, 1) := by decide +kernel
theorem dX7_isShut_12 : decode cX7_isShut 12 = .ok (.getfield 7, 3) := by decide +kernel
theorem dX7_isShut_15 : decode cX7_isShut 15 = .ok (.iconst 3, 1) := by decide +kernel
theorem dX7_isShut_16 : decode cX7_isShut 16 = .ok (.iaload, 1) := by decide +kernel
theorem dX7_isShut_17 : decode cX7_isShut 17 = .ok (.if_icmp .le 31, 3) := by decide +kernel
theorem dX7_isShut_20 : decode cX7_isShut 20 = .ok (.iload_n 2, 1) := by decide +kernel
theorem dX7_isShut_21 : decode cX7_isShut 21 = .ok (.aload_n 0, 1) := by decide +kernel
theorem dX7_isShut_22 : decode cX7_isShut 22 = .ok (.getfield 7, 3) := by decide +kernel
theorem dX7_isShut_25 : decode cX7_isShut 25 = .ok (.iconst 2, 1) := by decide +kernel
theorem dX7_isShut_26 : decode cX7_isShut 26 = .ok (.iaload, 1) := by decide +kernel
theorem dX7_isShut_27 : decode cX7_isShut 27 = .ok (.if_icmp .ge 13, 3) := by decide +kernel
theorem dX7_isShut_30 : decode cX7_isShut 30 = .ok (.iload_n 2, 1) := by decide +kernel
theorem dX7_isShut_31 : decode cX7_isShut 31 = .ok (.aload_n 0, 1) := by decide +kernel
theorem dX7_isShut_32 : decode cX7_isShut 32 = .ok (.getfield 7, 3) := by decide +kernel
theorem dX7_isShut_35 : decode cX7_isShut 35 = .ok (.iconst 3, 1) := by decide +kernel
theorem dX7_isShut_36 : decode cX7_isShut 36 = .ok (.iaload, 1) := by decide +kernel
theorem dX7_isShut_37 : decode cX7_isShut 37 = .ok (.if_icmp .gt 7, 3) := by decide +kernel
theorem dX7_isShut_40 : decode cX7_isShut 40 = .ok (.iconst 1, 1) := by decide +kernel
theorem dX7_isShut_41 : decode cX7_isShut 41 = .ok (.goto 26, 3) := by decide +kernel
theorem dX7_isShut_44 : decode cX7_isShut 44 = .ok (.iconst 0, 1) := by decide +kernel
theorem dX7_isShut_45 : decode cX7_isShut 45 = .ok (.goto 22, 3) := by decide +kernel
theorem dX7_isShut_48 : decode cX7_isShut 48 = .ok (.iload_n 2, 1) := by decide +kernel
theorem dX7_isShut_49 : decode cX7_isShut 49 = .ok (.i2l, 1) := by decide +kernel
theorem dX7_isShut_50 : decode cX7_isShut 50 = .ok (.aload_n 0, 1) := by decide +kernel
theorem dX7_isShut_51 : decode cX7_isShut 51 = .ok (.getfield 7, 3) := by decide +kernel
theorem dX7_isShut_54 : decode cX7_isShut 54 = .ok (.iconst 2, 1) := by decide +kernel
theorem dX7_isShut_55 : decode cX7_isShut 55 = .ok (.iaload, 1) := by decide +kernel
theorem dX7_isShut_56 : decode cX7_isShut 56 = .ok (.i2l, 1) := by decide +kernel
theorem dX7_isShut_57 : decode cX7_isShut 57 = .ok (.aload_n 0, 1) := by decide +kernel
theorem dX7_isShut_58 : decode cX7_isShut 58 = .ok (.getfield 7, 3) := by decide +kernel
theorem dX7_isShut_61 : decode cX7_isShut 61 = .ok (.iconst 3, 1) := by decide +kernel
theorem dX7_isShut_62 : decode cX7_isShut 62 = .ok (.iaload, 1) := by decide +kernel
theorem dX7_isShut_63 : decode cX7_isShut 63 = .ok (.i2l, 1) := by decide +kernel
theorem dX7_isShut_64 : decode cX7_isShut 64 = .ok (.invokestatic 46, 3) := by decide +kernel
theorem dX7_isShut_67 : decode cX7_isShut 67 = .ok (.ireturn, 1) := by decide +kernel
theorem dX7_shut_0 : decode cX7_shut 0 = .ok (.iload_n 1, 1) := by decide +kernel
theorem dX7_shut_1 : decode cX7_shut 1 = .ok (.i2l, 1) := by decide +kernel
theorem dX7_shut_2 : decode cX7_shut 2 = .ok (.lconst 0, 1) := by decide +kernel
theorem dX7_shut_3 : decode cX7_shut 3 = .ok (.ldc2_w 67, 3) := by decide +kernel
theorem dX7_shut_6 : decode cX7_shut 6 = .ok (.invokestatic 46, 3) := by decide +kernel
theorem dX7_shut_9 : decode cX7_shut 9 = .ok (.ifCond .eq 19, 3) := by decide +kernel
theorem dX7_shut_12 : decode cX7_shut 12 = .ok (.aload_n 0, 1) := by decide +kernel
theorem dX7_shut_13 : decode cX7_shut 13 = .ok (.iload_n 1, 1) := by decide +kernel
theorem dX7_shut_14 : decode cX7_shut 14 = .ok (.invokevirtual 69, 3) := by decide +kernel
theorem dX7_shut_17 : decode cX7_shut 17 = .ok (.ifCond .eq 7, 3) := by decide +kernel
theorem dX7_shut_20 : decode cX7_shut 20 = .ok (.iconst 1, 1) := by decide +kernel
theorem dX7_shut_21 : decode cX7_shut 21 = .ok (.goto 13, 3) := by decide +kernel
theorem dX7_shut_24 : decode cX7_shut 24 = .ok (.iconst 0, 1) := by decide +kernel
theorem dX7_shut_25 : decode cX7_shut 25 = .ok (.goto 9, 3) := by decide +kernel
theorem dX7_shut_28 : decode cX7_shut 28 = .ok (.aload_n 0, 1) := by decide +kernel
theorem dX7_shut_29 : decode cX7_shut 29 = .ok (.ldc 43, 2) := by decide +kernel
theorem dX7_shut_31 : decode cX7_shut 31 = .ok (.invokevirtual 59, 3) := by decide +kernel
theorem dX7_shut_34 : decode cX7_shut 34 = .ok (.ireturn, 1) := by decide +kernel
theorem dX7_at_0 : decode cX7_at 0 = .ok (.bipush 67, 2) := by decide +kernel
theorem dX7_at_2 : decode cX7_at 2 = .ok (.bipush 9, 2) := by decide +kernel
theorem dX7_at_4 : decode cX7_at 4 = .ok (.iload_n 0, 1) := by decide +kernel
theorem dX7_at_5 : decode cX7_at 5 = .ok (.imul, 1) := by decide +kernel
theorem dX7_at_6 : decode cX7_at 6 = .ok (.iadd, 1) := by decide +kernel
theorem dX7_at_7 : decode cX7_at 7 = .ok (.iload_n 1, 1) := by decide +kernel
theorem dX7_at_8 : decode cX7_at 8 = .ok (.iadd, 1) := by decide +kernel
theorem dX7_at_9 : decode cX7_at 9 = .ok (.ireturn, 1) := by decide +kernel
theorem dX7_its_0 : decode cX7_its 0 = .ok (.aload_n 0, 1) := by decide +kernel
theorem dX7_its_1 : decode cX7_its 1 = .ok (.getfield 7, 3) := by decide +kernel
theorem dX7_its_4 : decode cX7_its 4 = .ok (.iload_n 1, 1) := by decide +kernel
theorem dX7_its_5 : decode cX7_its 5 = .ok (.iload_n 2, 1) := by decide +kernel
theorem dX7_its_6 : decode cX7_its 6 = .ok (.invokestatic 72, 3) := by decide +kernel
theorem dX7_its_9 : decode cX7_its 9 = .ok (.iaload, 1) := by decide +kernel
theorem dX7_its_10 : decode cX7_its 10 = .ok (.ireturn, 1) := by decide +kernel
theorem dX7_newThing_0 : decode cX7_newThing 0 = .ok (.aload_n 0, 1) := by decide +kernel
theorem dX7_newThing_1 : decode cX7_newThing 1 = .ok (.getfield 7, 3) := by decide +kernel
theorem dX7_newThing_4 : decode cX7_newThing 4 = .ok (.iconst 1, 1) := by decide +kernel
theorem dX7_newThing_5 : decode cX7_newThing 5 = .ok (.iaload, 1) := by decide +kernel
theorem dX7_newThing_6 : decode cX7_newThing 6 = .ok (.istore 5, 2) := by decide +kernel
theorem dX7_newThing_8 : decode cX7_newThing 8 = .ok (.iconst 0, 1) := by decide +kernel
theorem dX7_newThing_9 : decode cX7_newThing 9 = .ok (.istore 6, 2) := by decide +kernel
theorem dX7_newThing_11 : decode cX7_newThing 11 = .ok (.iload 6, 2) := by decide +kernel
theorem dX7_newThing_13 : decode cX7_newThing 13 = .ok (.bipush 9, 2) := by decide +kernel
theorem dX7_newThing_15 : decode cX7_newThing 15 = .ok (.if_icmp .ge 22, 3) := by decide +kernel
theorem dX7_newThing_18 : decode cX7_newThing 18 = .ok (.aload_n 0, 1) := by decide +kernel
theorem dX7_newThing_19 : decode cX7_newThing 19 = .ok (.getfield 7, 3) := by decide +kernel
theorem dX7_newThing_22 : decode cX7_newThing 22 = .ok (.iload 5, 2) := by decide +kernel
theorem dX7_newThing_24 : decode cX7_newThing 24 = .ok (.iload 6, 2) := by decide +kernel
theorem dX7_newThing_26 : decode cX7_newThing 26 = .ok (.invokestatic 72, 3) := by decide +kernel
theorem dX7_newThing_29 : decode cX7_newThing 29 = .ok (.iconst 0, 1) := by decide +kernel
theorem dX7_newThing_30 : decode cX7_newThing 30 = .ok (.iastore, 1) := by decide +kernel
theorem dX7_newThing_31 : decode cX7_newThing 31 = .ok (.iinc 6 1, 3) := by decide +kernel
theorem dX7_newThing_34 : decode cX7_newThing 34 = .ok (.goto (-23), 3) := by decide +kernel
theorem dX7_newThing_37 : decode cX7_newThing 37 = .ok (.aload_n 0, 1) := by decide +kernel
theorem dX7_newThing_38 : decode cX7_newThing 38 = .ok (.getfield 7, 3) := by decide +kernel
theorem dX7_newThing_41 : decode cX7_newThing 41 = .ok (.iload 5, 2) := by decide +kernel
theorem dX7_newThing_43 : decode cX7_newThing 43 = .ok (.iconst 0, 1) := by decide +kernel
theorem dX7_newThing_44 : decode cX7_newThing 44 = .ok (.invokestatic 72, 3) := by decide +kernel
theorem dX7_newThing_47 : decode cX7_newThing 47 = .ok (.iload_n 1, 1) := by decide +kernel
theorem dX7_newThing_48 : decode cX7_newThing 48 = .ok (.iastore, 1) := by decide +kernel
theorem dX7_newThing_49 : decode cX7_newThing 49 = .ok (.aload_n 0, 1) := by decide +kernel
theorem dX7_newThing_50 : decode cX7_newThing 50 = .ok (.getfield 7, 3) := by decide +kernel
theorem dX7_newThing_53 : decode cX7_newThing 53 = .ok (.iload 5, 2) := by decide +kernel
theorem dX7_newThing_55 : decode cX7_newThing 55 = .ok (.iconst 1, 1) := by decide +kernel
theorem dX7_newThing_56 : decode cX7_newThing 56 = .ok (.invokestatic 72, 3) := by decide +kernel
theorem dX7_newThing_59 : decode cX7_newThing 59 = .ok (.iload_n 2, 1) := by decide +kernel
theorem dX7_newThing_60 : decode cX7_newThing 60 = .ok (.iastore, 1) := by decide +kernel
theorem dX7_newThing_61 : decode cX7_newThing 61 = .ok (.aload_n 0, 1) := by decide +kernel
theorem dX7_newThing_62 : decode cX7_newThing 62 = .ok (.getfield 7, 3) := by decide +kernel
theorem dX7_newThing_65 : decode cX7_newThing 65 = .ok (.iload 5, 2) := by decide +kernel
theorem dX7_newThing_67 : decode cX7_newThing 67 = .ok (.iconst 2, 1) := by decide +kernel
theorem dX7_newThing_68 : decode cX7_newThing 68 = .ok (.invokestatic 72, 3) := by decide +kernel
theorem dX7_newThing_71 : decode cX7_newThing 71 = .ok (.iload_n 3, 1) := by decide +kernel
theorem dX7_newThing_72 : decode cX7_newThing 72 = .ok (.iastore, 1) := by decide +kernel
theorem dX7_newThing_73 : decode cX7_newThing 73 = .ok (.aload_n 0, 1) := by decide +kernel
theorem dX7_newThing_74 : decode cX7_newThing 74 = .ok (.getfield 7, 3) := by decide +kernel
theorem dX7_newThing_77 : decode cX7_newThing 77 = .ok (.iload 5, 2) := by decide +kernel
theorem dX7_newThing_79 : decode cX7_newThing 79 = .ok (.iconst 3, 1) := by decide +kernel
theorem dX7_newThing_80 : decode cX7_newThing 80 = .ok (.invokestatic 72, 3) := by decide +kernel
theorem dX7_newThing_83 : decode cX7_newThing 83 = .ok (.iload 4, 2) := by decide +kernel
theorem dX7_newThing_85 : decode cX7_newThing 85 = .ok (.iastore, 1) := by decide +kernel
theorem dX7_newThing_86 : decode cX7_newThing 86 = .ok (.aload_n 0, 1) := by decide +kernel
theorem dX7_newThing_87 : decode cX7_newThing 87 = .ok (.getfield 7, 3) := by decide +kernel
theorem dX7_newThing_90 : decode cX7_newThing 90 = .ok (.iconst 1, 1) := by decide +kernel
theorem dX7_newThing_91 : decode cX7_newThing 91 = .ok (.dup2, 1) := by decide +kernel
theorem dX7_newThing_92 : decode cX7_newThing 92 = .ok (.iaload, 1) := by decide +kernel
theorem dX7_newThing_93 : decode cX7_newThing 93 = .ok (.iconst 1, 1) := by decide +kernel
theorem dX7_newThing_94 : decode cX7_newThing 94 = .ok (.iadd, 1) := by decide +kernel
theorem dX7_newThing_95 : decode cX7_newThing 95 = .ok (.iastore, 1) := by decide +kernel
theorem dX7_newThing_96 : decode cX7_newThing 96 = .ok (.iload 5, 2) := by decide +kernel
theorem dX7_newThing_98 : decode cX7_newThing 98 = .ok (.ireturn, 1) := by decide +kernel
theorem dX7_isPart_0 : decode cX7_isPart 0 = .ok (.iload_n 0, 1) := by decide +kernel
theorem dX7_isPart_1 : decode cX7_isPart 1 = .ok (.tableswitch 57 0 2 #[27, 37, 47], 27) := by decide +kernel
theorem dX7_isPart_28 : decode cX7_isPart 28 = .ok (.iload_n 1, 1) := by decide +kernel
theorem dX7_isPart_29 : decode cX7_isPart 29 = .ok (.i2l, 1) := by decide +kernel
theorem dX7_isPart_30 : decode cX7_isPart 30 = .ok (.lconst 0, 1) := by decide +kernel
theorem dX7_isPart_31 : decode cX7_isPart 31 = .ok (.ldc2_w 76, 3) := by decide +kernel
theorem dX7_isPart_34 : decode cX7_isPart 34 = .ok (.invokestatic 46, 3) := by decide +kernel
theorem dX7_isPart_37 : decode cX7_isPart 37 = .ok (.ireturn, 1) := by decide +kernel
theorem dX7_isPart_38 : decode cX7_isPart 38 = .ok (.iload_n 1, 1) := by decide +kernel
theorem dX7_isPart_39 : decode cX7_isPart 39 = .ok (.i2l, 1) := by decide +kernel
theorem dX7_isPart_40 : decode cX7_isPart 40 = .ok (.lconst 1, 1) := by decide +kernel
theorem dX7_isPart_41 : decode cX7_isPart 41 = .ok (.ldc2_w 78, 3) := by decide +kernel
theorem dX7_isPart_44 : decode cX7_isPart 44 = .ok (.invokestatic 46, 3) := by decide +kernel
theorem dX7_isPart_47 : decode cX7_isPart 47 = .ok (.ireturn, 1) := by decide +kernel
theorem dX7_isPart_48 : decode cX7_isPart 48 = .ok (.iload_n 1, 1) := by decide +kernel
theorem dX7_isPart_49 : decode cX7_isPart 49 = .ok (.i2l, 1) := by decide +kernel
theorem dX7_isPart_50 : decode cX7_isPart 50 = .ok (.lconst 1, 1) := by decide +kernel
theorem dX7_isPart_51 : decode cX7_isPart 51 = .ok (.ldc2_w 57, 3) := by decide +kernel
theorem dX7_isPart_54 : decode cX7_isPart 54 = .ok (.invokestatic 46, 3) := by decide +kernel
theorem dX7_isPart_57 : decode cX7_isPart 57 = .ok (.ireturn, 1) := by decide +kernel
theorem dX7_isPart_58 : decode cX7_isPart 58 = .ok (.iload_n 0, 1) := by decide +kernel
theorem dX7_isPart_59 : decode cX7_isPart 59 = .ok (.iconst 3, 1) := by decide +kernel
theorem dX7_isPart_60 : decode cX7_isPart 60 = .ok (.if_icmp .ne 19, 3) := by decide +kernel
theorem dX7_isPart_63 : decode cX7_isPart 63 = .ok (.iload_n 1, 1) := by decide +kernel
theorem dX7_isPart_64 : decode cX7_isPart 64 = .ok (.i2l, 1) := by decide +kernel
theorem dX7_isPart_65 : decode cX7_isPart 65 = .ok (.lconst 0, 1) := by decide +kernel
theorem dX7_isPart_66 : decode cX7_isPart 66 = .ok (.ldc2_w 57, 3) := by decide +kernel
theorem dX7_isPart_69 : decode cX7_isPart 69 = .ok (.invokestatic 46, 3) := by decide +kernel
theorem dX7_isPart_72 : decode cX7_isPart 72 = .ok (.ifCond .eq 7, 3) := by decide +kernel
theorem dX7_isPart_75 : decode cX7_isPart 75 = .ok (.iconst 1, 1) := by decide +kernel
theorem dX7_isPart_76 : decode cX7_isPart 76 = .ok (.goto 4, 3) := by decide +kernel
theorem dX7_isPart_79 : decode cX7_isPart 79 = .ok (.iconst 0, 1) := by decide +kernel
theorem dX7_isPart_80 : decode cX7_isPart 80 = .ok (.ireturn, 1) := by decide +kernel
theorem dX7_thing_0 : decode cX7_thing 0 = .ok (.iconst 0, 1) := by decide +kernel
theorem dX7_thing_1 : decode cX7_thing 1 = .ok (.iload_n 1, 1) := by decide +kernel
theorem dX7_thing_2 : decode cX7_thing 2 = .ok (.invokestatic 80, 3) := by decide +kernel
theorem dX7_thing_5 : decode cX7_thing 5 = .ok (.ifCond .eq 11, 3) := by decide +kernel
theorem dX7_thing_8 : decode cX7_thing 8 = .ok (.iconst 1, 1) := by decide +kernel
theorem dX7_thing_9 : decode cX7_thing 9 = .ok (.iload_n 2, 1) := by decide +kernel
theorem dX7_thing_10 : decode cX7_thing 10 = .ok (.invokestatic 80, 3) := by decide +kernel
theorem dX7_thing_13 : decode cX7_thing 13 = .ok (.ifCond .ne 10, 3) := by decide +kernel
theorem dX7_thing_16 : decode cX7_thing 16 = .ok (.aload_n 0, 1) := by decide +kernel
theorem dX7_thing_17 : decode cX7_thing 17 = .ok (.ldc 43, 2) := by decide +kernel
theorem dX7_thing_19 : decode cX7_thing 19 = .ok (.invokevirtual 59, 3) := by decide +kernel
theorem dX7_thing_22 : decode cX7_thing 22 = .ok (.ireturn, 1) := by decide +kernel
theorem dX7_thing_23 : decode cX7_thing 23 = .ok (.aload_n 0, 1) := by decide +kernel
theorem dX7_thing_24 : decode cX7_thing 24 = .ok (.getfield 7, 3) := by decide +kernel
theorem dX7_thing_27 : decode cX7_thing 27 = .ok (.iconst 1, 1) := by decide +kernel
theorem dX7_thing_28 : decode cX7_thing 28 = .ok (.iaload, 1) := by decide +kernel
theorem dX7_thing_29 : decode cX7_thing 29 = .ok (.bipush 10, 2) := by decide +kernel
theorem dX7_thing_31 : decode cX7_thing 31 = .ok (.if_icmp .ne 12, 3) := by decide +kernel
theorem dX7_thing_34 : decode cX7_thing 34 = .ok (.aload_n 0, 1) := by decide +kernel
theorem dX7_thing_35 : decode cX7_thing 35 = .ok (.ldc 84, 2) := by decide +kernel
theorem dX7_thing_37 : decode cX7_thing 37 = .ok (.invokevirtual 59, 3) := by decide +kernel
theorem dX7_thing_40 : decode cX7_thing 40 = .ok (.goto 11, 3) := by decide +kernel
theorem dX7_thing_43 : decode cX7_thing 43 = .ok (.aload_n 0, 1) := by decide +kernel
theorem dX7_thing_44 : decode cX7_thing 44 = .ok (.iload_n 1, 1) := by decide +kernel
theorem dX7_thing_45 : decode cX7_thing 45 = .ok (.iload_n 2, 1) := by decide +kernel
theorem dX7_thing_46 : decode cX7_thing 46 = .ok (.iconst 4, 1) := by decide +kernel
theorem dX7_thing_47 : decode cX7_thing 47 = .ok (.iconst 0, 1) := by decide +kernel
theorem dX7_thing_48 : decode cX7_thing 48 = .ok (.invokevirtual 85, 3) := by decide +kernel
theorem dX7_thing_51 : decode cX7_thing 51 = .ok (.ireturn, 1) := by decide +kernel
theorem dX7_gain_0 : decode cX7_gain 0 = .ok (.aload_n 0, 1) := by decide +kernel
theorem dX7_gain_1 : decode cX7_gain 1 = .ok (.getfield 7, 3) := by decide +kernel
theorem dX7_gain_4 : decode cX7_gain 4 = .ok (.iconst 5, 1) := by decide +kernel
theorem dX7_gain_5 : decode cX7_gain 5 = .ok (.iload_n 2, 1) := by decide +kernel
theorem dX7_gain_6 : decode cX7_gain 6 = .ok (.iadd, 1) := by decide +kernel
theorem dX7_gain_7 : decode cX7_gain 7 = .ok (.iaload, 1) := by decide +kernel
theorem dX7_gain_8 : decode cX7_gain 8 = .ok (.aload_n 0, 1) := by decide +kernel
theorem dX7_gain_9 : decode cX7_gain 9 = .ok (.iload_n 1, 1) := by decide +kernel
theorem dX7_gain_10 : decode cX7_gain 10 = .ok (.iconst 2, 1) := by decide +kernel
theorem dX7_gain_11 : decode cX7_gain 11 = .ok (.invokevirtual 89, 3) := by decide +kernel
theorem dX7_gain_14 : decode cX7_gain 14 = .ok (.imul, 1) := by decide +kernel
theorem dX7_gain_15 : decode cX7_gain 15 = .ok (.istore_n 3, 1) := by decide +kernel
theorem dX7_gain_16 : decode cX7_gain 16 = .ok (.aload_n 0, 1) := by decide +kernel
theorem dX7_gain_17 : decode cX7_gain 17 = .ok (.iload_n 1, 1) := by decide +kernel
theorem dX7_gain_18 : decode cX7_gain 18 = .ok (.iconst 0, 1) := by decide +kernel
theorem dX7_gain_19 : decode cX7_gain 19 = .ok (.invokevirtual 89, 3) := by decide +kernel
theorem dX7_gain_22 : decode cX7_gain 22 = .ok (.tableswitch 66 1 6 #[38, 66, 42, 66, 38, 56], 38) := by decide +kernel
theorem dX7_gain_60 : decode cX7_gain 60 = .ok (.iload_n 3, 1) := by decide +kernel
theorem dX7_gain_61 : decode cX7_gain 61 = .ok (.iconst 2, 1) := by decide +kernel
theorem dX7_gain_62 : decode cX7_gain 62 = .ok (.iadd, 1) := by decide +kernel
theorem dX7_gain_63 : decode cX7_gain 63 = .ok (.ireturn, 1) := by decide +kernel
theorem dX7_gain_64 : decode cX7_gain 64 = .ok (.iload_n 3, 1) := by decide +kernel
theorem dX7_gain_65 : decode cX7_gain 65 = .ok (.iconst 2, 1) := by decide +kernel
theorem dX7_gain_66 : decode cX7_gain 66 = .ok (.iadd, 1) := by decide +kernel
theorem dX7_gain_67 : decode cX7_gain 67 = .ok (.aload_n 0, 1) := by decide +kernel
theorem dX7_gain_68 : decode cX7_gain 68 = .ok (.iload_n 1, 1) := by decide +kernel
theorem dX7_gain_69 : decode cX7_gain 69 = .ok (.iconst 1, 1) := by decide +kernel
theorem dX7_gain_70 : decode cX7_gain 70 = .ok (.invokevirtual 89, 3) := by decide +kernel
theorem dX7_gain_73 : decode cX7_gain 73 = .ok (.bipush 10, 2) := by decide +kernel
theorem dX7_gain_75 : decode cX7_gain 75 = .ok (.idiv, 1) := by decide +kernel
theorem dX7_gain_76 : decode cX7_gain 76 = .ok (.iadd, 1) := by decide +kernel
theorem dX7_gain_77 : decode cX7_gain 77 = .ok (.ireturn, 1) := by decide +kernel
theorem dX7_gain_78 : decode cX7_gain 78 = .ok (.iload_n 3, 1) := by decide +kernel
theorem dX7_gain_79 : decode cX7_gain 79 = .ok (.ifCond .le 7, 3) := by decide +kernel
theorem dX7_gain_82 : decode cX7_gain 82 = .ok (.iconst 0, 1) := by decide +kernel
theorem dX7_gain_83 : decode cX7_gain 83 = .ok (.goto 4, 3) := by decide +kernel
theorem dX7_gain_86 : decode cX7_gain 86 = .ok (.iload_n 3, 1) := by decide +kernel
theorem dX7_gain_87 : decode cX7_gain 87 = .ok (.ireturn, 1) := by decide +kernel
theorem dX7_gain_88 : decode cX7_gain 88 = .ok (.iload_n 3, 1) := by decide +kernel
theorem dX7_gain_89 : decode cX7_gain 89 = .ok (.ireturn, 1) := by decide +kernel
theorem dX7_drag_0 : decode cX7_drag 0 = .ok (.aload_n 0, 1) := by decide +kernel
theorem dX7_drag_1 : decode cX7_drag 1 = .ok (.getfield 7, 3) := by decide +kernel
theorem dX7_drag_4 : decode cX7_drag 4 = .ok (.bipush 36, 2) := by decide +kernel
theorem dX7_drag_6 : decode cX7_drag 6 = .ok (.iload_n 2, 1) := by decide +kernel
theorem dX7_drag_7 : decode cX7_drag 7 = .ok (.iadd, 1) := by decide +kernel
theorem dX7_drag_8 : decode cX7_drag 8 = .ok (.iaload, 1) := by decide +kernel
theorem dX7_drag_9 : decode cX7_drag 9 = .ok (.istore_n 3, 1) := by decide +kernel
theorem dX7_drag_10 : decode cX7_drag 10 = .ok (.iload_n 3, 1) := by decide +kernel
theorem dX7_drag_11 : decode cX7_drag 11 = .ok (.iconst 1, 1) := by decide +kernel
theorem dX7_drag_12 : decode cX7_drag 12 = .ok (.if_icmp .ne 8, 3) := by decide +kernel
theorem dX7_drag_15 : decode cX7_drag 15 = .ok (.bipush 12, 2) := by decide +kernel
theorem dX7_drag_17 : decode cX7_drag 17 = .ok (.goto 23, 3) := by decide +kernel
theorem dX7_drag_20 : decode cX7_drag 20 = .ok (.iload_n 3, 1) := by decide +kernel
theorem dX7_drag_21 : decode cX7_drag 21 = .ok (.iconst 2, 1) := by decide +kernel
theorem dX7_drag_22 : decode cX7_drag 22 = .ok (.if_icmp .ne 8, 3) := by decide +kernel
theorem dX7_drag_25 : decode cX7_drag 25 = .ok (.bipush 30, 2) := by decide +kernel
theorem dX7_drag_27 : decode cX7_drag 27 = .ok (.goto 13, 3) := by decide +kernel
theorem dX7_drag_30 : decode cX7_drag 30 = .ok (.iload_n 3, 1) := by decide +kernel
theorem dX7_drag_31 : decode cX7_drag 31 = .ok (.iconst 3, 1) := by decide +kernel
theorem dX7_drag_32 : decode cX7_drag 32 = .ok (.if_icmp .ne 7, 3) := by decide +kernel
theorem dX7_drag_35 : decode cX7_drag 35 = .ok (.iconst 4, 1) := by decide +kernel
theorem dX7_drag_36 : decode cX7_drag 36 = .ok (.goto 4, 3) := by decide +kernel
theorem dX7_drag_39 : decode cX7_drag 39 = .ok (.iconst 2, 1) := by decide +kernel
theorem dX7_drag_40 : decode cX7_drag 40 = .ok (.istore 4, 2) := by decide +kernel
theorem dX7_drag_42 : decode cX7_drag 42 = .ok (.aload_n 0, 1) := by decide +kernel
theorem dX7_drag_43 : decode cX7_drag 43 = .ok (.iload_n 1, 1) := by decide +kernel
theorem dX7_drag_44 : decode cX7_drag 44 = .ok (.iconst 0, 1) := by decide +kernel
theorem dX7_drag_45 : decode cX7_drag 45 = .ok (.invokevirtual 89, 3) := by decide +kernel
theorem dX7_drag_48 : decode cX7_drag 48 = .ok (.tableswitch 69 2 5 #[32, 69, 42, 64], 32) := by decide +kernel
theorem dX7_drag_80 : decode cX7_drag 80 = .ok (.iload 4, 2) := by decide +kernel
theorem dX7_drag_82 : decode cX7_drag 82 = .ok (.aload_n 0, 1) := by decide +kernel
theorem dX7_drag_83 : decode cX7_drag 83 = .ok (.iload_n 1, 1) := by decide +kernel
theorem dX7_drag_84 : decode cX7_drag 84 = .ok (.iconst 3, 1) := by decide +kernel
theorem dX7_drag_85 : decode cX7_drag 85 = .ok (.invokevirtual 89, 3) := by decide +kernel
theorem dX7_drag_88 : decode cX7_drag 88 = .ok (.iadd, 1) := by decide +kernel
theorem dX7_drag_89 : decode cX7_drag 89 = .ok (.ireturn, 1) := by decide +kernel
theorem dX7_drag_90 : decode cX7_drag 90 = .ok (.iload 4, 2) := by decide +kernel
theorem dX7_drag_92 : decode cX7_drag 92 = .ok (.aload_n 0, 1) := by decide +kernel
theorem dX7_drag_93 : decode cX7_drag 93 = .ok (.iload_n 1, 1) := by decide +kernel
theorem dX7_drag_94 : decode cX7_drag 94 = .ok (.iconst 3, 1) := by decide +kernel
theorem dX7_drag_95 : decode cX7_drag 95 = .ok (.invokevirtual 89, 3) := by decide +kernel
theorem dX7_drag_98 : decode cX7_drag 98 = .ok (.iadd, 1) := by decide +kernel
theorem dX7_drag_99 : decode cX7_drag 99 = .ok (.iload_n 3, 1) := by decide +kernel
theorem dX7_drag_100 : decode cX7_drag 100 = .ok (.iconst 2, 1) := by decide +kernel
theorem dX7_drag_101 : decode cX7_drag 101 = .ok (.if_icmp .ne 8, 3) := by decide +kernel
theorem dX7_drag_104 : decode cX7_drag 104 = .ok (.bipush 10, 2) := by decide +kernel
theorem dX7_drag_106 : decode cX7_drag 106 = .ok (.goto 4, 3) := by decide +kernel
theorem dX7_drag_109 : decode cX7_drag 109 = .ok (.iconst 0, 1) := by decide +kernel
theorem dX7_drag_110 : decode cX7_drag 110 = .ok (.isub, 1) := by decide +kernel
theorem dX7_drag_111 : decode cX7_drag 111 = .ok (.ireturn, 1) := by decide +kernel
theorem dX7_drag_112 : decode cX7_drag 112 = .ok (.iload 4, 2) := by decide +kernel
theorem dX7_drag_114 : decode cX7_drag 114 = .ok (.iconst 2, 1) := by decide +kernel
theorem dX7_drag_115 : decode cX7_drag 115 = .ok (.idiv, 1) := by decide +kernel
theorem dX7_drag_116 : decode cX7_drag 116 = .ok (.ireturn, 1) := by decide +kernel
theorem dX7_drag_117 : decode cX7_drag 117 = .ok (.iload 4, 2) := by decide +kernel
theorem dX7_drag_119 : decode cX7_drag 119 = .ok (.ireturn, 1) := by decide +kernel
theorem dX7_top_0 : decode cX7_top 0 = .ok (.aload_n 0, 1) := by decide +kernel
theorem dX7_top_1 : decode cX7_top 1 = .ok (.iload_n 1, 1) := by decide +kernel
theorem dX7_top_2 : decode cX7_top 2 = .ok (.iconst 0, 1) := by decide +kernel
theorem dX7_top_3 : decode cX7_top 3 = .ok (.invokevirtual 89, 3) := by decide +kernel
theorem dX7_top_6 : decode cX7_top 6 = .ok (.istore_n 2, 1) := by decide +kernel
theorem dX7_top_7 : decode cX7_top 7 = .ok (.iload_n 2, 1) := by decide +kernel
theorem dX7_top_8 : decode cX7_top 8 = .ok (.iconst 1, 1) := by decide +kernel
theorem dX7_top_9 : decode cX7_top 9 = .ok (.if_icmp .eq 8, 3) := by decide +kernel
theorem dX7_top_12 : decode cX7_top 12 = .ok (.iload_n 2, 1) := by decide +kernel
theorem dX7_top_13 : decode cX7_top 13 = .ok (.iconst 5, 1) := by decide +kernel
theorem dX7_top_14 : decode cX7_top 14 = .ok (.if_icmp .ne 8, 3) := by decide +kernel
theorem dX7_top_17 : decode cX7_top 17 = .ok (.bipush 30, 2) := by decide +kernel
theorem dX7_top_19 : decode cX7_top 19 = .ok (.goto 39, 3) := by decide +kernel
theorem dX7_top_22 : decode cX7_top 22 = .ok (.iload_n 2, 1) := by decide +kernel
theorem dX7_top_23 : decode cX7_top 23 = .ok (.iconst 3, 1) := by decide +kernel
theorem dX7_top_24 : decode cX7_top 24 = .ok (.if_icmp .ne 8, 3) := by decide +kernel
theorem dX7_top_27 : decode cX7_top 27 = .ok (.bipush 55, 2) := by decide +kernel
theorem dX7_top_29 : decode cX7_top 29 = .ok (.goto 29, 3) := by decide +kernel
theorem dX7_top_32 : decode cX7_top 32 = .ok (.iload_n 2, 1) := by decide +kernel
theorem dX7_top_33 : decode cX7_top 33 = .ok (.iconst 2, 1) := by decide +kernel
theorem dX7_top_34 : decode cX7_top 34 = .ok (.if_icmp .eq 8, 3) := by decide +kernel
theorem dX7_top_37 : decode cX7_top 37 = .ok (.iload_n 2, 1) := by decide +kernel
theorem dX7_top_38 : decode cX7_top 38 = .ok (.iconst 4, 1) := by decide +kernel
theorem dX7_top_39 : decode cX7_top 39 = .ok (.if_icmp .ne 17, 3) := by decide +kernel
theorem dX7_top_42 : decode cX7_top 42 = .ok (.bipush 40, 2) := by decide +kernel
theorem dX7_top_44 : decode cX7_top 44 = .ok (.iconst 3, 1) := by decide +kernel
theorem dX7_top_45 : decode cX7_top 45 = .ok (.aload_n 0, 1) := by decide +kernel
theorem dX7_top_46 : decode cX7_top 46 = .ok (.iload_n 1, 1) := by decide +kernel
theorem dX7_top_47 : decode cX7_top 47 = .ok (.iconst 3, 1) := by decide +kernel
theorem dX7_top_48 : decode cX7_top 48 = .ok (.invokevirtual 89, 3) := by decide +kernel
theorem dX7_top_51 : decode cX7_top 51 = .ok (.imul, 1) := by decide +kernel
theorem dX7_top_52 : decode cX7_top 52 = .ok (.isub, 1) := by decide +kernel
theorem dX7_top_53 : decode cX7_top 53 = .ok (.goto 5, 3) := by decide +kernel
theorem dX7_top_56 : decode cX7_top 56 = .ok (.bipush 40, 2) := by decide +kernel
theorem dX7_top_58 : decode cX7_top 58 = .ok (.ireturn, 1) := by decide +kernel
theorem dX7_of_0 : decode cX7_of 0 = .ok (.aload_n 0, 1) := by decide +kernel
theorem dX7_of_1 : decode cX7_of 1 = .ok (.iload_n 1, 1) := by decide +kernel
theorem dX7_of_2 : decode cX7_of 2 = .ok (.invokevirtual 92, 3) := by decide +kernel
theorem dX7_of_5 : decode cX7_of 5 = .ok (.ifCond .eq 15, 3) := by decide +kernel
theorem dX7_of_8 : decode cX7_of 8 = .ok (.iload_n 2, 1) := by decide +kernel
theorem dX7_of_9 : decode cX7_of 9 = .ok (.i2l, 1) := by decide +kernel
theorem dX7_of_10 : decode cX7_of 10 = .ok (.lconst 0, 1) := by decide +kernel
theorem dX7_of_11 : decode cX7_of 11 = .ok (.ldc2_w 95, 3) := by decide +kernel
theorem dX7_of_14 : decode cX7_of 14 = .ok (.invokestatic 46, 3) := by decide +kernel
theorem dX7_of_17 : decode cX7_of 17 = .ok (.ifCond .ne 10, 3) := by decide +kernel
theorem dX7_of_20 : decode cX7_of 20 = .ok (.aload_n 0, 1) := by decide +kernel
theorem dX7_of_21 : decode cX7_of 21 = .ok (.ldc 43, 2) := by decide +kernel
theorem dX7_of_23 : decode cX7_of 23 = .ok (.invokevirtual 59, 3) := by decide +kernel
theorem dX7_of_26 : decode cX7_of 26 = .ok (.ireturn, 1) := by decide +kernel
theorem dX7_of_27 : decode cX7_of 27 = .ok (.iload_n 2, 1) := by decide +kernel
theorem dX7_of_28 : decode cX7_of 28 = .ok (.bipush 8, 2) := by decide +kernel
theorem dX7_of_30 : decode cX7_of 30 = .ok (.if_icmp .ge 12, 3) := by decide +kernel
theorem dX7_of_33 : decode cX7_of 33 = .ok (.aload_n 0, 1) := by decide +kernel
theorem dX7_of_34 : decode cX7_of 34 = .ok (.iload_n 1, 1) := by decide +kernel
theorem dX7_of_35 : decode cX7_of 35 = .ok (.iload_n 2, 1) := by decide +kernel
theorem dX7_of_36 : decode cX7_of 36 = .ok (.invokevirtual 89, 3) := by decide +kernel
theorem dX7_of_39 : decode cX7_of 39 = .ok (.goto 8, 3) := by decide +kernel
theorem dX7_of_42 : decode cX7_of 42 = .ok (.aload_n 0, 1) := by decide +kernel
theorem dX7_of_43 : decode cX7_of 43 = .ok (.iload_n 1, 1) := by decide +kernel
theorem dX7_of_44 : decode cX7_of 44 = .ok (.invokevirtual 97, 3) := by decide +kernel
theorem dX7_of_47 : decode cX7_of 47 = .ok (.ireturn, 1) := by decide +kernel
theorem dX7_change_0 : decode cX7_change 0 = .ok (.aload_n 0, 1) := by decide +kernel
theorem dX7_change_1 : decode cX7_change 1 = .ok (.iload_n 1, 1) := by decide +kernel
theorem dX7_change_2 : decode cX7_change 2 = .ok (.invokevirtual 92, 3) := by decide +kernel
theorem dX7_change_5 : decode cX7_change 5 = .ok (.ifCond .eq 11, 3) := by decide +kernel
theorem dX7_change_8 : decode cX7_change 8 = .ok (.iload_n 2, 1) := by decide +kernel
theorem dX7_change_9 : decode cX7_change 9 = .ok (.iload_n 3, 1) := by decide +kernel
theorem dX7_change_10 : decode cX7_change 10 = .ok (.invokestatic 80, 3) := by decide +kernel
theorem dX7_change_13 : decode cX7_change 13 = .ok (.ifCond .ne 10, 3) := by decide +kernel
theorem dX7_change_16 : decode cX7_change 16 = .ok (.aload_n 0, 1) := by decide +kernel
theorem dX7_change_17 : decode cX7_change 17 = .ok (.ldc 43, 2) := by decide +kernel
theorem dX7_change_19 : decode cX7_change 19 = .ok (.invokevirtual 59, 3) := by decide +kernel
theorem dX7_change_22 : decode cX7_change 22 = .ok (.ireturn, 1) := by decide +kernel
theorem dX7_change_23 : decode cX7_change 23 = .ok (.aload_n 0, 1) := by decide +kernel
theorem dX7_change_24 : decode cX7_change 24 = .ok (.iload_n 1, 1) := by decide +kernel
theorem dX7_change_25 : decode cX7_change 25 = .ok (.iload_n 2, 1) := by decide +kernel
theorem dX7_change_26 : decode cX7_change 26 = .ok (.invokevirtual 89, 3) := by decide +kernel
theorem dX7_change_29 : decode cX7_change 29 = .ok (.istore 4, 2) := by decide +kernel
theorem dX7_change_31 : decode cX7_change 31 = .ok (.aload_n 0, 1) := by decide +kernel
theorem dX7_change_32 : decode cX7_change 32 = .ok (.getfield 7, 3) := by decide +kernel
theorem dX7_change_35 : decode cX7_change 35 = .ok (.iload_n 1, 1) := by decide +kernel
theorem dX7_change_36 : decode cX7_change 36 = .ok (.iload_n 2, 1) := by decide +kernel
theorem dX7_change_37 : decode cX7_change 37 = .ok (.invokestatic 72, 3) := by decide +kernel
theorem dX7_change_40 : decode cX7_change 40 = .ok (.iload_n 3, 1) := by decide +kernel
theorem dX7_change_41 : decode cX7_change 41 = .ok (.iastore, 1) := by decide +kernel
theorem dX7_change_42 : decode cX7_change 42 = .ok (.iload 4, 2) := by decide +kernel
theorem dX7_change_44 : decode cX7_change 44 = .ok (.ireturn, 1) := by decide +kernel
theorem dX7_told_0 : decode cX7_told 0 = .ok (.aload_n 0, 1) := by decide +kernel
theorem dX7_told_1 : decode cX7_told 1 = .ok (.iload_n 1, 1) := by decide +kernel
theorem dX7_told_2 : decode cX7_told 2 = .ok (.invokevirtual 92, 3) := by decide +kernel
theorem dX7_told_5 : decode cX7_told 5 = .ok (.ifCond .eq 20, 3) := by decide +kernel
theorem dX7_told_8 : decode cX7_told 8 = .ok (.iload_n 2, 1) := by decide +kernel
theorem dX7_told_9 : decode cX7_told 9 = .ok (.i2l, 1) := by decide +kernel
theorem dX7_told_10 : decode cX7_told 10 = .ok (.lconst 0, 1) := by decide +kernel
theorem dX7_told_11 : decode cX7_told 11 = .ok (.lconst 1, 1) := by decide +kernel
theorem dX7_told_12 : decode cX7_told 12 = .ok (.invokestatic 46, 3) := by decide +kernel
theorem dX7_told_15 : decode cX7_told 15 = .ok (.ifCond .eq 10, 3) := by decide +kernel
theorem dX7_told_18 : decode cX7_told 18 = .ok (.iload_n 3, 1) := by decide +kernel
theorem dX7_told_19 : decode cX7_told 19 = .ok (.invokestatic 51, 3) := by decide +kernel
theorem dX7_told_22 : decode cX7_told 22 = .ok (.ifCond .ne 10, 3) := by decide +kernel
theorem dX7_told_25 : decode cX7_told 25 = .ok (.aload_n 0, 1) := by decide +kernel
theorem dX7_told_26 : decode cX7_told 26 = .ok (.ldc 43, 2) := by decide +kernel
theorem dX7_told_28 : decode cX7_told 28 = .ok (.invokevirtual 59, 3) := by decide +kernel
theorem dX7_told_31 : decode cX7_told 31 = .ok (.ireturn, 1) := by decide +kernel
theorem dX7_told_32 : decode cX7_told 32 = .ok (.iload_n 2, 1) := by decide +kernel
theorem dX7_told_33 : decode cX7_told 33 = .ok (.ifCond .ne 12, 3) := by decide +kernel
theorem dX7_told_36 : decode cX7_told 36 = .ok (.aload_n 0, 1) := by decide +kernel
theorem dX7_told_37 : decode cX7_told 37 = .ok (.iload_n 1, 1) := by decide +kernel
theorem dX7_told_38 : decode cX7_told 38 = .ok (.iload_n 3, 1) := by decide +kernel
theorem dX7_told_39 : decode cX7_told 39 = .ok (.invokevirtual 100, 3) := by decide +kernel
theorem dX7_told_42 : decode cX7_told 42 = .ok (.goto 9, 3) := by decide +kernel
theorem dX7_told_45 : decode cX7_told 45 = .ok (.aload_n 0, 1) := by decide +kernel
theorem dX7_told_46 : decode cX7_told 46 = .ok (.iload_n 1, 1) := by decide +kernel
theorem dX7_told_47 : decode cX7_told 47 = .ok (.iload_n 3, 1) := by decide +kernel
theorem dX7_told_48 : decode cX7_told 48 = .ok (.invokevirtual 103, 3) := by decide +kernel
theorem dX7_told_51 : decode cX7_told 51 = .ok (.ireturn, 1) := by decide +kernel
theorem dX7_isReady_0 : decode cX7_isReady 0 = .ok (.aload_n 0, 1) := by decide +kernel
theorem dX7_isReady_1 : decode cX7_isReady 1 = .ok (.iload_n 1, 1) := by decide +kernel
theorem dX7_isReady_2 : decode cX7_isReady 2 = .ok (.bipush 6, 2) := by decide +kernel
theorem dX7_isReady_4 : decode cX7_isReady 4 = .ok (.invokevirtual 89, 3) := by decide +kernel
theorem dX7_isReady_7 : decode cX7_isReady 7 = .ok (.ifCond .ne 18, 3) := by decide +kernel
theorem dX7_isReady_10 : decode cX7_isReady 10 = .ok (.aload_n 0, 1) := by decide +kernel
theorem dX7_isReady_11 : decode cX7_isReady 11 = .ok (.iload_n 1, 1) := by decide +kernel
theorem dX7_isReady_12 : decode cX7_isReady 12 = .ok (.iconst 4, 1) := by decide +kernel
theorem dX7_isReady_13 : decode cX7_isReady 13 = .ok (.invokevirtual 89, 3) := by decide +kernel
theorem dX7_isReady_16 : decode cX7_isReady 16 = .ok (.bipush 30, 2) := by decide +kernel
theorem dX7_isReady_18 : decode cX7_isReady 18 = .ok (.if_icmp .ge 7, 3) := by decide +kernel
theorem dX7_isReady_21 : decode cX7_isReady 21 = .ok (.iconst 1, 1) := by decide +kernel
theorem dX7_isReady_22 : decode cX7_isReady 22 = .ok (.goto 4, 3) := by decide +kernel
theorem dX7_isReady_25 : decode cX7_isReady 25 = .ok (.iconst 0, 1) := by decide +kernel
theorem dX7_isReady_26 : decode cX7_isReady 26 = .ok (.ireturn, 1) := by decide +kernel
theorem dX7_letsGo_0 : decode cX7_letsGo 0 = .ok (.aload_n 0, 1) := by decide +kernel
theorem dX7_letsGo_1 : decode cX7_letsGo 1 = .ok (.getfield 7, 3) := by decide +kernel
theorem dX7_letsGo_4 : decode cX7_letsGo 4 = .ok (.iload_n 1, 1) := by decide +kernel
theorem dX7_letsGo_5 : decode cX7_letsGo 5 = .ok (.bipush 6, 2) := by decide +kernel
theorem dX7_letsGo_7 : decode cX7_letsGo 7 = .ok (.invokestatic 72, 3) := by decide +kernel
theorem dX7_letsGo_10 : decode cX7_letsGo 10 = .ok (.iconst 1, 1) := by decide +kernel
theorem dX7_letsGo_11 : decode cX7_letsGo 11 = .ok (.iastore, 1) := by decide +kernel
theorem dX7_letsGo_12 : decode cX7_letsGo 12 = .ok (.aload_n 0, 1) := by decide +kernel
theorem dX7_letsGo_13 : decode cX7_letsGo 13 = .ok (.getfield 7, 3) := by decide +kernel
theorem dX7_letsGo_16 : decode cX7_letsGo 16 = .ok (.iload_n 1, 1) := by decide +kernel
theorem dX7_letsGo_17 : decode cX7_letsGo 17 = .ok (.iconst 5, 1) := by decide +kernel
theorem dX7_letsGo_18 : decode cX7_letsGo 18 = .ok (.invokestatic 72, 3) := by decide +kernel
theorem dX7_letsGo_21 : decode cX7_letsGo 21 = .ok (.iload_n 2, 1) := by decide +kernel
theorem dX7_letsGo_22 : decode cX7_letsGo 22 = .ok (.iastore, 1) := by decide +kernel
theorem dX7_letsGo_23 : decode cX7_letsGo 23 = .ok (.return_, 1) := by decide +kernel
theorem dX7_go_0 : decode cX7_go 0 = .ok (.aload_n 0, 1) := by decide +kernel
theorem dX7_go_1 : decode cX7_go 1 = .ok (.iload_n 1, 1) := by decide +kernel
theorem dX7_go_2 : decode cX7_go 2 = .ok (.invokevirtual 92, 3) := by decide +kernel
theorem dX7_go_5 : decode cX7_go 5 = .ok (.ifCond .ne 10, 3) := by decide +kernel
theorem dX7_go_8 : decode cX7_go 8 = .ok (.aload_n 0, 1) := by decide +kernel
theorem dX7_go_9 : decode cX7_go 9 = .ok (.ldc 43, 2) := by decide +kernel
theorem dX7_go_11 : decode cX7_go 11 = .ok (.invokevirtual 59, 3) := by decide +kernel
theorem dX7_go_14 : decode cX7_go 14 = .ok (.ireturn, 1) := by decide +kernel
theorem dX7_go_15 : decode cX7_go 15 = .ok (.aload_n 0, 1) := by decide +kernel
theorem dX7_go_16 : decode cX7_go 16 = .ok (.iload_n 1, 1) := by decide +kernel
theorem dX7_go_17 : decode cX7_go 17 = .ok (.invokevirtual 106, 3) := by decide +kernel
theorem dX7_go_20 : decode cX7_go 20 = .ok (.ifCond .ne 10, 3) := by decide +kernel
theorem dX7_go_23 : decode cX7_go 23 = .ok (.aload_n 0, 1) := by decide +kernel
theorem dX7_go_24 : decode cX7_go 24 = .ok (.ldc 109, 2) := by decide +kernel
theorem dX7_go_26 : decode cX7_go 26 = .ok (.invokevirtual 59, 3) := by decide +kernel
theorem dX7_go_29 : decode cX7_go 29 = .ok (.ireturn, 1) := by decide +kernel
theorem dX7_go_30 : decode cX7_go 30 = .ok (.aload_n 0, 1) := by decide +kernel
theorem dX7_go_31 : decode cX7_go 31 = .ok (.iload_n 1, 1) := by decide +kernel
theorem dX7_go_32 : decode cX7_go 32 = .ok (.bipush 10, 2) := by decide +kernel
theorem dX7_go_34 : decode cX7_go 34 = .ok (.invokevirtual 110, 3) := by decide +kernel
theorem dX7_go_37 : decode cX7_go 37 = .ok (.aload_n 0, 1) := by decide +kernel
theorem dX7_go_38 : decode cX7_go 38 = .ok (.iload_n 1, 1) := by decide +kernel
theorem dX7_go_39 : decode cX7_go 39 = .ok (.iconst 4, 1) := by decide +kernel
theorem dX7_go_40 : decode cX7_go 40 = .ok (.invokevirtual 89, 3) := by decide +kernel
theorem dX7_go_43 : decode cX7_go 43 = .ok (.ireturn, 1) := by decide +kernel
theorem dX7_put_0 : decode cX7_put 0 = .ok (.aload_n 0, 1) := by decide +kernel
theorem dX7_put_1 : decode cX7_put 1 = .ok (.iload_n 1, 1) := by decide +kernel
theorem dX7_put_2 : decode cX7_put 2 = .ok (.invokevirtual 92, 3) := by decide +kernel
theorem dX7_put_5 : decode cX7_put 5 = .ok (.ifCond .eq 10, 3) := by decide +kernel
theorem dX7_put_8 : decode cX7_put 8 = .ok (.iload_n 2, 1) := by decide +kernel
theorem dX7_put_9 : decode cX7_put 9 = .ok (.invokestatic 51, 3) := by decide +kernel
theorem dX7_put_12 : decode cX7_put 12 = .ok (.ifCond .ne 10, 3) := by decide +kernel
theorem dX7_put_15 : decode cX7_put 15 = .ok (.aload_n 0, 1) := by decide +kernel
theorem dX7_put_16 : decode cX7_put 16 = .ok (.ldc 43, 2) := by decide +kernel
theorem dX7_put_18 : decode cX7_put 18 = .ok (.invokevirtual 59, 3) := by decide +kernel
theorem dX7_put_21 : decode cX7_put 21 = .ok (.ireturn, 1) := by decide +kernel
theorem dX7_put_22 : decode cX7_put 22 = .ok (.aload_n 0, 1) := by decide +kernel
theorem dX7_put_23 : decode cX7_put 23 = .ok (.iload_n 1, 1) := by decide +kernel
theorem dX7_put_24 : decode cX7_put 24 = .ok (.iconst 4, 1) := by decide +kernel
theorem dX7_put_25 : decode cX7_put 25 = .ok (.invokevirtual 89, 3) := by decide +kernel
theorem dX7_put_28 : decode cX7_put 28 = .ok (.istore_n 3, 1) := by decide +kernel
theorem dX7_put_29 : decode cX7_put 29 = .ok (.aload_n 0, 1) := by decide +kernel
theorem dX7_put_30 : decode cX7_put 30 = .ok (.getfield 7, 3) := by decide +kernel
theorem dX7_put_33 : decode cX7_put 33 = .ok (.iload_n 1, 1) := by decide +kernel
theorem dX7_put_34 : decode cX7_put 34 = .ok (.iconst 4, 1) := by decide +kernel
theorem dX7_put_35 : decode cX7_put 35 = .ok (.invokestatic 72, 3) := by decide +kernel
theorem dX7_put_38 : decode cX7_put 38 = .ok (.iload_n 2, 1) := by decide +kernel
theorem dX7_put_39 : decode cX7_put 39 = .ok (.iastore, 1) := by decide +kernel
theorem dX7_put_40 : decode cX7_put 40 = .ok (.aload_n 0, 1) := by decide +kernel
theorem dX7_put_41 : decode cX7_put 41 = .ok (.getfield 7, 3) := by decide +kernel
theorem dX7_put_44 : decode cX7_put 44 = .ok (.iload_n 1, 1) := by decide +kernel
theorem dX7_put_45 : decode cX7_put 45 = .ok (.iconst 5, 1) := by decide +kernel
theorem dX7_put_46 : decode cX7_put 46 = .ok (.invokestatic 72, 3) := by decide +kernel
theorem dX7_put_49 : decode cX7_put 49 = .ok (.iconst 0, 1) := by decide +kernel
theorem dX7_put_50 : decode cX7_put 50 = .ok (.iastore, 1) := by decide +kernel
theorem dX7_put_51 : decode cX7_put 51 = .ok (.aload_n 0, 1) := by decide +kernel
theorem dX7_put_52 : decode cX7_put 52 = .ok (.getfield 7, 3) := by decide +kernel
theorem dX7_put_55 : decode cX7_put 55 = .ok (.iload_n 1, 1) := by decide +kernel
theorem dX7_put_56 : decode cX7_put 56 = .ok (.bipush 6, 2) := by decide +kernel
theorem dX7_put_58 : decode cX7_put 58 = .ok (.invokestatic 72, 3) := by decide +kernel
theorem dX7_put_61 : decode cX7_put 61 = .ok (.iconst 0, 1) := by decide +kernel
theorem dX7_put_62 : decode cX7_put 62 = .ok (.iastore, 1) := by decide +kernel
theorem dX7_put_63 : decode cX7_put 63 = .ok (.iload_n 3, 1) := by decide +kernel
theorem dX7_put_64 : decode cX7_put 64 = .ok (.ireturn, 1) := by decide +kernel
theorem dX7_rolls_0 : decode cX7_rolls 0 = .ok (.aload_n 0, 1) := by decide +kernel
theorem dX7_rolls_1 : decode cX7_rolls 1 = .ok (.iload_n 1, 1) := by decide +kernel
theorem dX7_rolls_2 : decode cX7_rolls 2 = .ok (.iconst 4, 1) := by decide +kernel
theorem dX7_rolls_3 : decode cX7_rolls 3 = .ok (.invokevirtual 89, 3) := by decide +kernel
theorem dX7_rolls_6 : decode cX7_rolls 6 = .ok (.istore_n 3, 1) := by decide +kernel
theorem dX7_rolls_7 : decode cX7_rolls 7 = .ok (.aload_n 0, 1) := by decide +kernel
theorem dX7_rolls_8 : decode cX7_rolls 8 = .ok (.iload_n 1, 1) := by decide +kernel
theorem dX7_rolls_9 : decode cX7_rolls 9 = .ok (.iconst 5, 1) := by decide +kernel
theorem dX7_rolls_10 : decode cX7_rolls 10 = .ok (.invokevirtual 89, 3) := by decide +kernel
theorem dX7_rolls_13 : decode cX7_rolls 13 = .ok (.aload_n 0, 1) := by decide +kernel
theorem dX7_rolls_14 : decode cX7_rolls 14 = .ok (.iload_n 1, 1) := by decide +kernel
theorem dX7_rolls_15 : decode cX7_rolls 15 = .ok (.iload_n 3, 1) := by decide +kernel
theorem dX7_rolls_16 : decode cX7_rolls 16 = .ok (.invokevirtual 100, 3) := by decide +kernel
theorem dX7_rolls_19 : decode cX7_rolls 19 = .ok (.iadd, 1) := by decide +kernel
theorem dX7_rolls_20 : decode cX7_rolls 20 = .ok (.aload_n 0, 1) := by decide +kernel
theorem dX7_rolls_21 : decode cX7_rolls 21 = .ok (.iload_n 1, 1) := by decide +kernel
theorem dX7_rolls_22 : decode cX7_rolls 22 = .ok (.iload_n 3, 1) := by decide +kernel
theorem dX7_rolls_23 : decode cX7_rolls 23 = .ok (.invokevirtual 103, 3) := by decide +kernel
theorem dX7_rolls_26 : decode cX7_rolls 26 = .ok (.isub, 1) := by decide +kernel
theorem dX7_rolls_27 : decode cX7_rolls 27 = .ok (.istore 4, 2) := by decide +kernel
theorem dX7_rolls_29 : decode cX7_rolls 29 = .ok (.iload 4, 2) := by decide +kernel
theorem dX7_rolls_31 : decode cX7_rolls 31 = .ok (.ifCond .ge 7, 3) := by decide +kernel
theorem dX7_rolls_34 : decode cX7_rolls 34 = .ok (.iconst 0, 1) := by decide +kernel
theorem dX7_rolls_35 : decode cX7_rolls 35 = .ok (.goto 17, 3) := by decide +kernel
theorem dX7_rolls_38 : decode cX7_rolls 38 = .ok (.iload 4, 2) := by decide +kernel
theorem dX7_rolls_40 : decode cX7_rolls 40 = .ok (.bipush 99, 2) := by decide +kernel
theorem dX7_rolls_42 : decode cX7_rolls 42 = .ok (.if_icmp .le 8, 3) := by decide +kernel
theorem dX7_rolls_45 : decode cX7_rolls 45 = .ok (.bipush 99, 2) := by decide +kernel
theorem dX7_rolls_47 : decode cX7_rolls 47 = .ok (.goto 5, 3) := by decide +kernel
theorem dX7_rolls_50 : decode cX7_rolls 50 = .ok (.iload 4, 2) := by decide +kernel
theorem dX7_rolls_52 : decode cX7_rolls 52 = .ok (.istore 4, 2) := by decide +kernel
theorem dX7_rolls_54 : decode cX7_rolls 54 = .ok (.iconst 1, 1) := by decide +kernel
theorem dX7_rolls_55 : decode cX7_rolls 55 = .ok (.istore 5, 2) := by decide +kernel
theorem dX7_rolls_57 : decode cX7_rolls 57 = .ok (.iload 4, 2) := by decide +kernel
theorem dX7_rolls_59 : decode cX7_rolls 59 = .ok (.bipush 10, 2) := by decide +kernel
theorem dX7_rolls_61 : decode cX7_rolls 61 = .ok (.idiv, 1) := by decide +kernel
theorem dX7_rolls_62 : decode cX7_rolls 62 = .ok (.istore 6, 2) := by decide +kernel
theorem dX7_rolls_64 : decode cX7_rolls 64 = .ok (.iload 6, 2) := by decide +kernel
theorem dX7_rolls_66 : decode cX7_rolls 66 = .ok (.ifCond .le 93, 3) := by decide +kernel
theorem dX7_rolls_69 : decode cX7_rolls 69 = .ok (.iload 5, 2) := by decide +kernel
theorem dX7_rolls_71 : decode cX7_rolls 71 = .ok (.iconst 1, 1) := by decide +kernel
theorem dX7_rolls_72 : decode cX7_rolls 72 = .ok (.if_icmp .ne 87, 3) := by decide +kernel
theorem dX7_rolls_75 : decode cX7_rolls 75 = .ok (.iload 4, 2) := by decide +kernel
theorem dX7_rolls_77 : decode cX7_rolls 77 = .ok (.ifCond .le 82, 3) := by decide +kernel
theorem dX7_rolls_80 : decode cX7_rolls 80 = .ok (.aload_n 0, 1) := by decide +kernel
theorem dX7_rolls_81 : decode cX7_rolls 81 = .ok (.getfield 7, 3) := by decide +kernel
theorem dX7_rolls_84 : decode cX7_rolls 84 = .ok (.bipush 36, 2) := by decide +kernel
theorem dX7_rolls_86 : decode cX7_rolls 86 = .ok (.iload_n 3, 1) := by decide +kernel
theorem dX7_rolls_87 : decode cX7_rolls 87 = .ok (.iadd, 1) := by decide +kernel
theorem dX7_rolls_88 : decode cX7_rolls 88 = .ok (.iconst 1, 1) := by decide +kernel
theorem dX7_rolls_89 : decode cX7_rolls 89 = .ok (.iadd, 1) := by decide +kernel
theorem dX7_rolls_90 : decode cX7_rolls 90 = .ok (.iaload, 1) := by decide +kernel
theorem dX7_rolls_91 : decode cX7_rolls 91 = .ok (.iconst 4, 1) := by decide +kernel
theorem dX7_rolls_92 : decode cX7_rolls 92 = .ok (.if_icmp .ne 17, 3) := by decide +kernel
theorem dX7_rolls_95 : decode cX7_rolls 95 = .ok (.aload_n 0, 1) := by decide +kernel
theorem dX7_rolls_96 : decode cX7_rolls 96 = .ok (.iload_n 2, 1) := by decide +kernel
theorem dX7_rolls_97 : decode cX7_rolls 97 = .ok (.invokevirtual 69, 3) := by decide +kernel
theorem dX7_rolls_100 : decode cX7_rolls 100 = .ok (.ifCond .eq 9, 3) := by decide +kernel
theorem dX7_rolls_103 : decode cX7_rolls 103 = .ok (.iconst 0, 1) := by decide +kernel
theorem dX7_rolls_104 : decode cX7_rolls 104 = .ok (.istore 4, 2) := by decide +kernel
theorem dX7_rolls_106 : decode cX7_rolls 106 = .ok (.goto 47, 3) := by decide +kernel
theorem dX7_rolls_109 : decode cX7_rolls 109 = .ok (.iinc 3 1, 3) := by decide +kernel
theorem dX7_rolls_112 : decode cX7_rolls 112 = .ok (.iload_n 3, 1) := by decide +kernel
theorem dX7_rolls_113 : decode cX7_rolls 113 = .ok (.bipush 30, 2) := by decide +kernel
theorem dX7_rolls_115 : decode cX7_rolls 115 = .ok (.if_icmp .ne 12, 3) := by decide +kernel
theorem dX7_rolls_118 : decode cX7_rolls 118 = .ok (.iconst 0, 1) := by decide +kernel
theorem dX7_rolls_119 : decode cX7_rolls 119 = .ok (.istore 4, 2) := by decide +kernel
theorem dX7_rolls_121 : decode cX7_rolls 121 = .ok (.iconst 0, 1) := by decide +kernel
theorem dX7_rolls_122 : decode cX7_rolls 122 = .ok (.istore 5, 2) := by decide +kernel
theorem dX7_rolls_124 : decode cX7_rolls 124 = .ok (.goto 29, 3) := by decide +kernel
theorem dX7_rolls_127 : decode cX7_rolls 127 = .ok (.aload_n 0, 1) := by decide +kernel
theorem dX7_rolls_128 : decode cX7_rolls 128 = .ok (.getfield 7, 3) := by decide +kernel
theorem dX7_rolls_131 : decode cX7_rolls 131 = .ok (.bipush 36, 2) := by decide +kernel
theorem dX7_rolls_133 : decode cX7_rolls 133 = .ok (.iload_n 3, 1) := by decide +kernel
theorem dX7_rolls_134 : decode cX7_rolls 134 = .ok (.iadd, 1) := by decide +kernel
theorem dX7_rolls_135 : decode cX7_rolls 135 = .ok (.iaload, 1) := by decide +kernel
theorem dX7_rolls_136 : decode cX7_rolls 136 = .ok (.iconst 3, 1) := by decide +kernel
theorem dX7_rolls_137 : decode cX7_rolls 137 = .ok (.if_icmp .ne 16, 3) := by decide +kernel
theorem dX7_rolls_140 : decode cX7_rolls 140 = .ok (.iload 4, 2) := by decide +kernel
theorem dX7_rolls_142 : decode cX7_rolls 142 = .ok (.aload_n 0, 1) := by decide +kernel
theorem dX7_rolls_143 : decode cX7_rolls 143 = .ok (.iload_n 1, 1) := by decide +kernel
theorem dX7_rolls_144 : decode cX7_rolls 144 = .ok (.invokevirtual 97, 3) := by decide +kernel
theorem dX7_rolls_147 : decode cX7_rolls 147 = .ok (.if_icmp .le 6, 3) := by decide +kernel
theorem dX7_rolls_150 : decode cX7_rolls 150 = .ok (.iconst 2, 1) := by decide +kernel
theorem dX7_rolls_151 : decode cX7_rolls 151 = .ok (.istore 5, 2) := by decide +kernel
theorem dX7_rolls_153 : decode cX7_rolls 153 = .ok (.iinc 6 (-1), 3) := by decide +kernel
theorem dX7_rolls_156 : decode cX7_rolls 156 = .ok (.goto (-92), 3) := by decide +kernel
theorem dX7_rolls_159 : decode cX7_rolls 159 = .ok (.aload_n 0, 1) := by decide +kernel
theorem dX7_rolls_160 : decode cX7_rolls 160 = .ok (.getfield 7, 3) := by decide +kernel
theorem dX7_rolls_163 : decode cX7_rolls 163 = .ok (.iload_n 1, 1) := by decide +kernel
theorem dX7_rolls_164 : decode cX7_rolls 164 = .ok (.iconst 4, 1) := by decide +kernel
theorem dX7_rolls_165 : decode cX7_rolls 165 = .ok (.invokestatic 72, 3) := by decide +kernel
theorem dX7_rolls_168 : decode cX7_rolls 168 = .ok (.iload_n 3, 1) := by decide +kernel
theorem dX7_rolls_169 : decode cX7_rolls 169 = .ok (.iastore, 1) := by decide +kernel
theorem dX7_rolls_170 : decode cX7_rolls 170 = .ok (.aload_n 0, 1) := by decide +kernel
theorem dX7_rolls_171 : decode cX7_rolls 171 = .ok (.getfield 7, 3) := by decide +kernel
theorem dX7_rolls_174 : decode cX7_rolls 174 = .ok (.iload_n 1, 1) := by decide +kernel
theorem dX7_rolls_175 : decode cX7_rolls 175 = .ok (.iconst 5, 1) := by decide +kernel
theorem dX7_rolls_176 : decode cX7_rolls 176 = .ok (.invokestatic 72, 3) := by decide +kernel
theorem dX7_rolls_179 : decode cX7_rolls 179 = .ok (.iload 4, 2) := by decide +kernel
theorem dX7_rolls_181 : decode cX7_rolls 181 = .ok (.iastore, 1) := by decide +kernel
theorem dX7_rolls_182 : decode cX7_rolls 182 = .ok (.aload_n 0, 1) := by decide +kernel
theorem dX7_rolls_183 : decode cX7_rolls 183 = .ok (.getfield 7, 3) := by decide +kernel
theorem dX7_rolls_186 : decode cX7_rolls 186 = .ok (.iload_n 1, 1) := by decide +kernel
theorem dX7_rolls_187 : decode cX7_rolls 187 = .ok (.bipush 6, 2) := by decide +kernel
theorem dX7_rolls_189 : decode cX7_rolls 189 = .ok (.invokestatic 72, 3) := by decide +kernel
theorem dX7_rolls_192 : decode cX7_rolls 192 = .ok (.iload 5, 2) := by decide +kernel
theorem dX7_rolls_194 : decode cX7_rolls 194 = .ok (.iconst 1, 1) := by decide +kernel
theorem dX7_rolls_195 : decode cX7_rolls 195 = .ok (.if_icmp .ne 12, 3) := by decide +kernel
theorem dX7_rolls_198 : decode cX7_rolls 198 = .ok (.iload 4, 2) := by decide +kernel
theorem dX7_rolls_200 : decode cX7_rolls 200 = .ok (.ifCond .ne 7, 3) := by decide +kernel
theorem dX7_rolls_203 : decode cX7_rolls 203 = .ok (.iconst 0, 1) := by decide +kernel
theorem dX7_rolls_204 : decode cX7_rolls 204 = .ok (.goto 5, 3) := by decide +kernel
theorem dX7_rolls_207 : decode cX7_rolls 207 = .ok (.iload 5, 2) := by decide +kernel
theorem dX7_rolls_209 : decode cX7_rolls 209 = .ok (.iastore, 1) := by decide +kernel
theorem dX7_rolls_210 : decode cX7_rolls 210 = .ok (.return_, 1) := by decide +kernel
theorem dX7_isOnLane_0 : decode cX7_isOnLane 0 = .ok (.aload_n 0, 1) := by decide +kernel
theorem dX7_isOnLane_1 : decode cX7_isOnLane 1 = .ok (.iload_n 1, 1) := by decide +kernel
theorem dX7_isOnLane_2 : decode cX7_isOnLane 2 = .ok (.bipush 6, 2) := by decide +kernel
theorem dX7_isOnLane_4 : decode cX7_isOnLane 4 = .ok (.invokevirtual 89, 3) := by decide +kernel
theorem dX7_isOnLane_7 : decode cX7_isOnLane 7 = .ok (.ifCond .eq 14, 3) := by decide +kernel
theorem dX7_isOnLane_10 : decode cX7_isOnLane 10 = .ok (.aload_n 0, 1) := by decide +kernel
theorem dX7_isOnLane_11 : decode cX7_isOnLane 11 = .ok (.iload_n 1, 1) := by decide +kernel
theorem dX7_isOnLane_12 : decode cX7_isOnLane 12 = .ok (.bipush 6, 2) := by decide +kernel
theorem dX7_isOnLane_14 : decode cX7_isOnLane 14 = .ok (.invokevirtual 89, 3) := by decide +kernel
theorem dX7_isOnLane_17 : decode cX7_isOnLane 17 = .ok (.iconst 1, 1) := by decide +kernel
theorem dX7_isOnLane_18 : decode cX7_isOnLane 18 = .ok (.if_icmp .ne 7, 3) := by decide +kernel
theorem dX7_isOnLane_21 : decode cX7_isOnLane 21 = .ok (.iconst 1, 1) := by decide +kernel
theorem dX7_isOnLane_22 : decode cX7_isOnLane 22 = .ok (.goto 4, 3) := by decide +kernel
theorem dX7_isOnLane_25 : decode cX7_isOnLane 25 = .ok (.iconst 0, 1) := by decide +kernel
theorem dX7_isOnLane_26 : decode cX7_isOnLane 26 = .ok (.ireturn, 1) := by decide +kernel
theorem dX7_meets_0 : decode cX7_meets 0 = .ok (.iconst 0, 1) := by decide +kernel
theorem dX7_meets_1 : decode cX7_meets 1 = .ok (.istore_n 2, 1) := by decide +kernel
theorem dX7_meets_2 : decode cX7_meets 2 = .ok (.iconst 0, 1) := by decide +kernel
theorem dX7_meets_3 : decode cX7_meets 3 = .ok (.istore_n 3, 1) := by decide +kernel
theorem dX7_meets_4 : decode cX7_meets 4 = .ok (.iconst 0, 1) := by decide +kernel
theorem dX7_meets_5 : decode cX7_meets 5 = .ok (.istore 4, 2) := by decide +kernel
theorem dX7_meets_7 : decode cX7_meets 7 = .ok (.iload 4, 2) := by decide +kernel
theorem dX7_meets_9 : decode cX7_meets 9 = .ok (.aload_n 0, 1) := by decide +kernel
theorem dX7_meets_10 : decode cX7_meets 10 = .ok (.getfield 7, 3) := by decide +kernel
theorem dX7_meets_13 : decode cX7_meets 13 = .ok (.iconst 1, 1) := by decide +kernel
theorem dX7_meets_14 : decode cX7_meets 14 = .ok (.iaload, 1) := by decide +kernel
theorem dX7_meets_15 : decode cX7_meets 15 = .ok (.if_icmp .ge 76, 3) := by decide +kernel
theorem dX7_meets_18 : decode cX7_meets 18 = .ok (.aload_n 0, 1) := by decide +kernel
theorem dX7_meets_19 : decode cX7_meets 19 = .ok (.iload 4, 2) := by decide +kernel
theorem dX7_meets_21 : decode cX7_meets 21 = .ok (.invokevirtual 114, 3) := by decide +kernel
theorem dX7_meets_24 : decode cX7_meets 24 = .ok (.ifCond .eq 18, 3) := by decide +kernel
theorem dX7_meets_27 : decode cX7_meets 27 = .ok (.aload_n 0, 1) := by decide +kernel
theorem dX7_meets_28 : decode cX7_meets 28 = .ok (.iload 4, 2) := by decide +kernel
theorem dX7_meets_30 : decode cX7_meets 30 = .ok (.iconst 4, 1) := by decide +kernel
theorem dX7_meets_31 : decode cX7_meets 31 = .ok (.invokevirtual 89, 3) := by decide +kernel
theorem dX7_meets_34 : decode cX7_meets 34 = .ok (.iload_n 1, 1) := by decide +kernel
theorem dX7_meets_35 : decode cX7_meets 35 = .ok (.if_icmp .ne 7, 3) := by decide +kernel
theorem dX7_meets_38 : decode cX7_meets 38 = .ok (.iconst 1, 1) := by decide +kernel
theorem dX7_meets_39 : decode cX7_meets 39 = .ok (.goto 4, 3) := by decide +kernel
theorem dX7_meets_42 : decode cX7_meets 42 = .ok (.iconst 0, 1) := by decide +kernel
theorem dX7_meets_43 : decode cX7_meets 43 = .ok (.istore 5, 2) := by decide +kernel
theorem dX7_meets_45 : decode cX7_meets 45 = .ok (.iload_n 2, 1) := by decide +kernel
theorem dX7_meets_46 : decode cX7_meets 46 = .ok (.iload 5, 2) := by decide +kernel
theorem dX7_meets_48 : decode cX7_meets 48 = .ok (.ifCond .eq 7, 3) := by decide +kernel
theorem dX7_meets_51 : decode cX7_meets 51 = .ok (.iconst 1, 1) := by decide +kernel
theorem dX7_meets_52 : decode cX7_meets 52 = .ok (.goto 4, 3) := by decide +kernel
theorem dX7_meets_55 : decode cX7_meets 55 = .ok (.iconst 0, 1) := by decide +kernel
theorem dX7_meets_56 : decode cX7_meets 56 = .ok (.iadd, 1) := by decide +kernel
theorem dX7_meets_57 : decode cX7_meets 57 = .ok (.istore_n 2, 1) := by decide +kernel
theorem dX7_meets_58 : decode cX7_meets 58 = .ok (.iload_n 3, 1) := by decide +kernel
theorem dX7_meets_59 : decode cX7_meets 59 = .ok (.ifCond .ne 20, 3) := by decide +kernel
theorem dX7_meets_62 : decode cX7_meets 62 = .ok (.iload 5, 2) := by decide +kernel
theorem dX7_meets_64 : decode cX7_meets 64 = .ok (.ifCond .eq 19, 3) := by decide +kernel
theorem dX7_meets_67 : decode cX7_meets 67 = .ok (.aload_n 0, 1) := by decide +kernel
theorem dX7_meets_68 : decode cX7_meets 68 = .ok (.iload 4, 2) := by decide +kernel
theorem dX7_meets_70 : decode cX7_meets 70 = .ok (.bipush 8, 2) := by decide +kernel
theorem dX7_meets_72 : decode cX7_meets 72 = .ok (.invokevirtual 89, 3) := by decide +kernel
theorem dX7_meets_75 : decode cX7_meets 75 = .ok (.iconst 1, 1) := by decide +kernel
theorem dX7_meets_76 : decode cX7_meets 76 = .ok (.if_icmp .ne 7, 3) := by decide +kernel
theorem dX7_meets_79 : decode cX7_meets 79 = .ok (.iconst 1, 1) := by decide +kernel
theorem dX7_meets_80 : decode cX7_meets 80 = .ok (.goto 4, 3) := by decide +kernel
theorem dX7_meets_83 : decode cX7_meets 83 = .ok (.iconst 0, 1) := by decide +kernel
theorem dX7_meets_84 : decode cX7_meets 84 = .ok (.istore_n 3, 1) := by decide +kernel
theorem dX7_meets_85 : decode cX7_meets 85 = .ok (.iinc 4 1, 3) := by decide +kernel
theorem dX7_meets_88 : decode cX7_meets 88 = .ok (.goto (-81), 3) := by decide +kernel
theorem dX7_meets_91 : decode cX7_meets 91 = .ok (.iload_n 2, 1) := by decide +kernel
theorem dX7_meets_92 : decode cX7_meets 92 = .ok (.iconst 2, 1) := by decide +kernel
theorem dX7_meets_93 : decode cX7_meets 93 = .ok (.if_icmp .lt 7, 3) := by decide +kernel
theorem dX7_meets_96 : decode cX7_meets 96 = .ok (.iload_n 3, 1) := by decide +kernel
theorem dX7_meets_97 : decode cX7_meets 97 = .ok (.ifCond .ne 5, 3) := by decide +kernel
theorem dX7_meets_100 : decode cX7_meets 100 = .ok (.iconst 0, 1) := by decide +kernel
theorem dX7_meets_101 : decode cX7_meets 101 = .ok (.ireturn, 1) := by decide +kernel
theorem dX7_meets_102 : decode cX7_meets 102 = .ok (.iconst 0, 1) := by decide +kernel
theorem dX7_meets_103 : decode cX7_meets 103 = .ok (.istore 4, 2) := by decide +kernel
theorem dX7_meets_105 : decode cX7_meets 105 = .ok (.iload 4, 2) := by decide +kernel
theorem dX7_meets_107 : decode cX7_meets 107 = .ok (.aload_n 0, 1) := by decide +kernel
theorem dX7_meets_108 : decode cX7_meets 108 = .ok (.getfield 7, 3) := by decide +kernel
theorem dX7_meets_111 : decode cX7_meets 111 = .ok (.iconst 1, 1) := by decide +kernel
theorem dX7_meets_112 : decode cX7_meets 112 = .ok (.iaload, 1) := by decide +kernel
theorem dX7_meets_113 : decode cX7_meets 113 = .ok (.if_icmp .ge 70, 3) := by decide +kernel
theorem dX7_meets_116 : decode cX7_meets 116 = .ok (.aload_n 0, 1) := by decide +kernel
theorem dX7_meets_117 : decode cX7_meets 117 = .ok (.iload 4, 2) := by decide +kernel
theorem dX7_meets_119 : decode cX7_meets 119 = .ok (.invokevirtual 114, 3) := by decide +kernel
theorem dX7_meets_122 : decode cX7_meets 122 = .ok (.ifCond .eq 55, 3) := by decide +kernel
theorem dX7_meets_125 : decode cX7_meets 125 = .ok (.aload_n 0, 1) := by decide +kernel
theorem dX7_meets_126 : decode cX7_meets 126 = .ok (.iload 4, 2) := by decide +kernel
theorem dX7_meets_128 : decode cX7_meets 128 = .ok (.iconst 4, 1) := by decide +kernel
theorem dX7_meets_129 : decode cX7_meets 129 = .ok (.invokevirtual 89, 3) := by decide +kernel
theorem dX7_meets_132 : decode cX7_meets 132 = .ok (.iload_n 1, 1) := by decide +kernel
theorem dX7_meets_133 : decode cX7_meets 133 = .ok (.if_icmp .ne 44, 3) := by decide +kernel
theorem dX7_meets_136 : decode cX7_meets 136 = .ok (.aload_n 0, 1) := by decide +kernel
theorem dX7_meets_137 : decode cX7_meets 137 = .ok (.getfield 7, 3) := by decide +kernel
theorem dX7_meets_140 : decode cX7_meets 140 = .ok (.iload 4, 2) := by decide +kernel
theorem dX7_meets_142 : decode cX7_meets 142 = .ok (.iconst 5, 1) := by decide +kernel
theorem dX7_meets_143 : decode cX7_meets 143 = .ok (.invokestatic 72, 3) := by decide +kernel
theorem dX7_meets_146 : decode cX7_meets 146 = .ok (.iconst 0, 1) := by decide +kernel
theorem dX7_meets_147 : decode cX7_meets 147 = .ok (.iastore, 1) := by decide +kernel
theorem dX7_meets_148 : decode cX7_meets 148 = .ok (.aload_n 0, 1) := by decide +kernel
theorem dX7_meets_149 : decode cX7_meets 149 = .ok (.getfield 7, 3) := by decide +kernel
theorem dX7_meets_152 : decode cX7_meets 152 = .ok (.iload 4, 2) := by decide +kernel
theorem dX7_meets_154 : decode cX7_meets 154 = .ok (.bipush 6, 2) := by decide +kernel
theorem dX7_meets_156 : decode cX7_meets 156 = .ok (.invokestatic 72, 3) := by decide +kernel
theorem dX7_meets_159 : decode cX7_meets 159 = .ok (.iconst 0, 1) := by decide +kernel
theorem dX7_meets_160 : decode cX7_meets 160 = .ok (.iastore, 1) := by decide +kernel
theorem dX7_meets_161 : decode cX7_meets 161 = .ok (.aload_n 0, 1) := by decide +kernel
theorem dX7_meets_162 : decode cX7_meets 162 = .ok (.getfield 7, 3) := by decide +kernel
theorem dX7_meets_165 : decode cX7_meets 165 = .ok (.iload 4, 2) := by decide +kernel
theorem dX7_meets_167 : decode cX7_meets 167 = .ok (.bipush 7, 2) := by decide +kernel
theorem dX7_meets_169 : decode cX7_meets 169 = .ok (.invokestatic 72, 3) := by decide +kernel
theorem dX7_meets_172 : decode cX7_meets 172 = .ok (.dup2, 1) := by decide +kernel
theorem dX7_meets_173 : decode cX7_meets 173 = .ok (.iaload, 1) := by decide +kernel
theorem dX7_meets_174 : decode cX7_meets 174 = .ok (.iconst 1, 1) := by decide +kernel
theorem dX7_meets_175 : decode cX7_meets 175 = .ok (.iadd, 1) := by decide +kernel
theorem dX7_meets_176 : decode cX7_meets 176 = .ok (.iastore, 1) := by decide +kernel
theorem dX7_meets_177 : decode cX7_meets 177 = .ok (.iinc 4 1, 3) := by decide +kernel
theorem dX7_meets_180 : decode cX7_meets 180 = .ok (.goto (-75), 3) := by decide +kernel
theorem dX7_meets_183 : decode cX7_meets 183 = .ok (.iload_n 2, 1) := by decide +kernel
theorem dX7_meets_184 : decode cX7_meets 184 = .ok (.ireturn, 1) := by decide +kernel
theorem dX7_minute_0 : decode cX7_minute 0 = .ok (.aload_n 0, 1) := by decide +kernel
theorem dX7_minute_1 : decode cX7_minute 1 = .ok (.iconst 0, 1) := by decide +kernel
theorem dX7_minute_2 : decode cX7_minute 2 = .ok (.putfield 117, 3) := by decide +kernel
theorem dX7_minute_5 : decode cX7_minute 5 = .ok (.aload_n 0, 1) := by decide +kernel
theorem dX7_minute_6 : decode cX7_minute 6 = .ok (.iconst 0, 1) := by decide +kernel
theorem dX7_minute_7 : decode cX7_minute 7 = .ok (.putfield 121, 3) := by decide +kernel
theorem dX7_minute_10 : decode cX7_minute 10 = .ok (.iconst 0, 1) := by decide +kernel
theorem dX7_minute_11 : decode cX7_minute 11 = .ok (.istore_n 1, 1) := by decide +kernel
theorem dX7_minute_12 : decode cX7_minute 12 = .ok (.iload_n 1, 1) := by decide +kernel
theorem dX7_minute_13 : decode cX7_minute 13 = .ok (.aload_n 0, 1) := by decide +kernel
theorem dX7_minute_14 : decode cX7_minute 14 = .ok (.getfield 7, 3) := by decide +kernel
theorem dX7_minute_17 : decode cX7_minute 17 = .ok (.iconst 1, 1) := by decide +kernel
theorem dX7_minute_18 : decode cX7_minute 18 = .ok (.iaload, 1) := by decide +kernel
theorem dX7_minute_19 : decode cX7_minute 19 = .ok (.if_icmp .ge 83, 3) := by decide +kernel
theorem dX7_minute_22 : decode cX7_minute 22 = .ok (.aload_n 0, 1) := by decide +kernel
theorem dX7_minute_23 : decode cX7_minute 23 = .ok (.getfield 7, 3) := by decide +kernel
theorem dX7_minute_26 : decode cX7_minute 26 = .ok (.iload_n 1, 1) := by decide +kernel
theorem dX7_minute_27 : decode cX7_minute 27 = .ok (.bipush 8, 2) := by decide +kernel
theorem dX7_minute_29 : decode cX7_minute 29 = .ok (.invokestatic 72, 3) := by decide +kernel
theorem dX7_minute_32 : decode cX7_minute 32 = .ok (.aload_n 0, 1) := by decide +kernel
theorem dX7_minute_33 : decode cX7_minute 33 = .ok (.iload_n 1, 1) := by decide +kernel
theorem dX7_minute_34 : decode cX7_minute 34 = .ok (.bipush 6, 2) := by decide +kernel
theorem dX7_minute_36 : decode cX7_minute 36 = .ok (.invokevirtual 89, 3) := by decide +kernel
theorem dX7_minute_39 : decode cX7_minute 39 = .ok (.iconst 1, 1) := by decide +kernel
theorem dX7_minute_40 : decode cX7_minute 40 = .ok (.if_icmp .ne 7, 3) := by decide +kernel
theorem dX7_minute_43 : decode cX7_minute 43 = .ok (.iconst 1, 1) := by decide +kernel
theorem dX7_minute_44 : decode cX7_minute 44 = .ok (.goto 4, 3) := by decide +kernel
theorem dX7_minute_47 : decode cX7_minute 47 = .ok (.iconst 0, 1) := by decide +kernel
theorem dX7_minute_48 : decode cX7_minute 48 = .ok (.iastore, 1) := by decide +kernel
theorem dX7_minute_49 : decode cX7_minute 49 = .ok (.aload_n 0, 1) := by decide +kernel
theorem dX7_minute_50 : decode cX7_minute 50 = .ok (.iload_n 1, 1) := by decide +kernel
theorem dX7_minute_51 : decode cX7_minute 51 = .ok (.bipush 6, 2) := by decide +kernel
theorem dX7_minute_53 : decode cX7_minute 53 = .ok (.invokevirtual 89, 3) := by decide +kernel
theorem dX7_minute_56 : decode cX7_minute 56 = .ok (.iconst 1, 1) := by decide +kernel
theorem dX7_minute_57 : decode cX7_minute 57 = .ok (.if_icmp .ne 39, 3) := by decide +kernel
theorem dX7_minute_60 : decode cX7_minute 60 = .ok (.aload_n 0, 1) := by decide +kernel
theorem dX7_minute_61 : decode cX7_minute 61 = .ok (.iload_n 1, 1) := by decide +kernel
theorem dX7_minute_62 : decode cX7_minute 62 = .ok (.aload_n 0, 1) := by decide +kernel
theorem dX7_minute_63 : decode cX7_minute 63 = .ok (.getfield 7, 3) := by decide +kernel
theorem dX7_minute_66 : decode cX7_minute 66 = .ok (.iconst 0, 1) := by decide +kernel
theorem dX7_minute_67 : decode cX7_minute 67 = .ok (.iaload, 1) := by decide +kernel
theorem dX7_minute_68 : decode cX7_minute 68 = .ok (.invokevirtual 124, 3) := by decide +kernel
theorem dX7_minute_71 : decode cX7_minute 71 = .ok (.aload_n 0, 1) := by decide +kernel
theorem dX7_minute_72 : decode cX7_minute 72 = .ok (.dup, 1) := by decide +kernel
theorem dX7_minute_73 : decode cX7_minute 73 = .ok (.getfield 121, 3) := by decide +kernel
theorem dX7_minute_76 : decode cX7_minute 76 = .ok (.aload_n 0, 1) := by decide +kernel
theorem dX7_minute_77 : decode cX7_minute 77 = .ok (.iload_n 1, 1) := by decide +kernel
theorem dX7_minute_78 : decode cX7_minute 78 = .ok (.bipush 6, 2) := by decide +kernel
theorem dX7_minute_80 : decode cX7_minute 80 = .ok (.invokevirtual 89, 3) := by decide +kernel
theorem dX7_minute_83 : decode cX7_minute 83 = .ok (.iconst 2, 1) := by decide +kernel
theorem dX7_minute_84 : decode cX7_minute 84 = .ok (.if_icmp .ne 7, 3) := by decide +kernel
theorem dX7_minute_87 : decode cX7_minute 87 = .ok (.iconst 1, 1) := by decide +kernel
theorem dX7_minute_88 : decode cX7_minute 88 = .ok (.goto 4, 3) := by decide +kernel
theorem dX7_minute_91 : decode cX7_minute 91 = .ok (.iconst 0, 1) := by decide +kernel
theorem dX7_minute_92 : decode cX7_minute 92 = .ok (.iadd, 1) := by decide +kernel
theorem dX7_minute_93 : decode cX7_minute 93 = .ok (.putfield 121, 3) := by decide +kernel
theorem dX7_minute_96 : decode cX7_minute 96 = .ok (.iinc 1 1, 3) := by decide +kernel
theorem dX7_minute_99 : decode cX7_minute 99 = .ok (.goto (-87), 3) := by decide +kernel
theorem dX7_minute_102 : decode cX7_minute 102 = .ok (.iconst 1, 1) := by decide +kernel
theorem dX7_minute_103 : decode cX7_minute 103 = .ok (.istore_n 1, 1) := by decide +kernel
theorem dX7_minute_104 : decode cX7_minute 104 = .ok (.iload_n 1, 1) := by decide +kernel
theorem dX7_minute_105 : decode cX7_minute 105 = .ok (.bipush 30, 2) := by decide +kernel
theorem dX7_minute_107 : decode cX7_minute 107 = .ok (.if_icmp .ge 23, 3) := by decide +kernel
theorem dX7_minute_110 : decode cX7_minute 110 = .ok (.aload_n 0, 1) := by decide +kernel
theorem dX7_minute_111 : decode cX7_minute 111 = .ok (.dup, 1) := by decide +kernel
theorem dX7_minute_112 : decode cX7_minute 112 = .ok (.getfield 117, 3) := by decide +kernel
theorem dX7_minute_115 : decode cX7_minute 115 = .ok (.aload_n 0, 1) := by decide +kernel
theorem dX7_minute_116 : decode cX7_minute 116 = .ok (.iload_n 1, 1) := by decide +kernel
theorem dX7_minute_117 : decode cX7_minute 117 = .ok (.invokevirtual 127, 3) := by decide +kernel
theorem dX7_minute_120 : decode cX7_minute 120 = .ok (.iadd, 1) := by decide +kernel
theorem dX7_minute_121 : decode cX7_minute 121 = .ok (.putfield 117, 3) := by decide +kernel
theorem dX7_minute_124 : decode cX7_minute 124 = .ok (.iinc 1 1, 3) := by decide +kernel
theorem dX7_minute_127 : decode cX7_minute 127 = .ok (.goto (-23), 3) := by decide +kernel
theorem dX7_minute_130 : decode cX7_minute 130 = .ok (.iconst 0, 1) := by decide +kernel
theorem dX7_minute_131 : decode cX7_minute 131 = .ok (.istore_n 1, 1) := by decide +kernel
theorem dX7_minute_132 : decode cX7_minute 132 = .ok (.iload_n 1, 1) := by decide +kernel
theorem dX7_minute_133 : decode cX7_minute 133 = .ok (.aload_n 0, 1) := by decide +kernel
theorem dX7_minute_134 : decode cX7_minute 134 = .ok (.getfield 7, 3) := by decide +kernel
theorem dX7_minute_137 : decode cX7_minute 137 = .ok (.iconst 1, 1) := by decide +kernel
theorem dX7_minute_138 : decode cX7_minute 138 = .ok (.iaload, 1) := by decide +kernel
theorem dX7_minute_139 : decode cX7_minute 139 = .ok (.if_icmp .ge 21, 3) := by decide +kernel
theorem dX7_minute_142 : decode cX7_minute 142 = .ok (.aload_n 0, 1) := by decide +kernel
theorem dX7_minute_143 : decode cX7_minute 143 = .ok (.getfield 7, 3) := by decide +kernel
theorem dX7_minute_146 : decode cX7_minute 146 = .ok (.iload_n 1, 1) := by decide +kernel
theorem dX7_minute_147 : decode cX7_minute 147 = .ok (.bipush 8, 2) := by decide +kernel
theorem dX7_minute_149 : decode cX7_minute 149 = .ok (.invokestatic 72, 3) := by decide +kernel
theorem dX7_minute_152 : decode cX7_minute 152 = .ok (.iconst 0, 1) := by decide +kernel
theorem dX7_minute_153 : decode cX7_minute 153 = .ok (.iastore, 1) := by decide +kernel
theorem dX7_minute_154 : decode cX7_minute 154 = .ok (.iinc 1 1, 3) := by decide +kernel
theorem dX7_minute_157 : decode cX7_minute 157 = .ok (.goto (-25), 3) := by decide +kernel
theorem dX7_minute_160 : decode cX7_minute 160 = .ok (.aload_n 0, 1) := by decide +kernel
theorem dX7_minute_161 : decode cX7_minute 161 = .ok (.getfield 7, 3) := by decide +kernel
theorem dX7_minute_164 : decode cX7_minute 164 = .ok (.iconst 0, 1) := by decide +kernel
theorem dX7_minute_165 : decode cX7_minute 165 = .ok (.dup2, 1) := by decide +kernel
theorem dX7_minute_166 : decode cX7_minute 166 = .ok (.iaload, 1) := by decide +kernel
theorem dX7_minute_167 : decode cX7_minute 167 = .ok (.iconst 1, 1) := by decide +kernel
theorem dX7_minute_168 : decode cX7_minute 168 = .ok (.iadd, 1) := by decide +kernel
theorem dX7_minute_169 : decode cX7_minute 169 = .ok (.iastore, 1) := by decide +kernel
theorem dX7_minute_170 : decode cX7_minute 170 = .ok (.return_, 1) := by decide +kernel
theorem dX7_isTooLate_0 : decode cX7_isTooLate 0 = .ok (.aload_n 0, 1) := by decide +kernel
theorem dX7_isTooLate_1 : decode cX7_isTooLate 1 = .ok (.getfield 7, 3) := by decide +kernel
theorem dX7_isTooLate_4 : decode cX7_isTooLate 4 = .ok (.iconst 0, 1) := by decide +kernel
theorem dX7_isTooLate_5 : decode cX7_isTooLate 5 = .ok (.iaload, 1) := by decide +kernel
theorem dX7_isTooLate_6 : decode cX7_isTooLate 6 = .ok (.iload_n 1, 1) := by decide +kernel
theorem dX7_isTooLate_7 : decode cX7_isTooLate 7 = .ok (.iadd, 1) := by decide +kernel
theorem dX7_isTooLate_8 : decode cX7_isTooLate 8 = .ok (.sipush 9999, 3) := by decide +kernel
theorem dX7_isTooLate_11 : decode cX7_isTooLate 11 = .ok (.if_icmp .le 7, 3) := by decide +kernel
theorem dX7_isTooLate_14 : decode cX7_isTooLate 14 = .ok (.iconst 1, 1) := by decide +kernel
theorem dX7_isTooLate_15 : decode cX7_isTooLate 15 = .ok (.goto 4, 3) := by decide +kernel
theorem dX7_isTooLate_18 : decode cX7_isTooLate 18 = .ok (.iconst 0, 1) := by decide +kernel
theorem dX7_isTooLate_19 : decode cX7_isTooLate 19 = .ok (.ireturn, 1) := by decide +kernel
theorem dX7_minutes_0 : decode cX7_minutes 0 = .ok (.iload_n 1, 1) := by decide +kernel
theorem dX7_minutes_1 : decode cX7_minutes 1 = .ok (.i2l, 1) := by decide +kernel
theorem dX7_minutes_2 : decode cX7_minutes 2 = .ok (.lconst 1, 1) := by decide +kernel
theorem dX7_minutes_3 : decode cX7_minutes 3 = .ok (.ldc2_w 130, 3) := by decide +kernel
theorem dX7_minutes_6 : decode cX7_minutes 6 = .ok (.invokestatic 46, 3) := by decide +kernel
theorem dX7_minutes_9 : decode cX7_minutes 9 = .ok (.ifCond .ne 10, 3) := by decide +kernel
theorem dX7_minutes_12 : decode cX7_minutes 12 = .ok (.aload_n 0, 1) := by decide +kernel
theorem dX7_minutes_13 : decode cX7_minutes 13 = .ok (.ldc 43, 2) := by decide +kernel
theorem dX7_minutes_15 : decode cX7_minutes 15 = .ok (.invokevirtual 59, 3) := by decide +kernel
theorem dX7_minutes_18 : decode cX7_minutes 18 = .ok (.ireturn, 1) := by decide +kernel
theorem dX7_minutes_19 : decode cX7_minutes 19 = .ok (.aload_n 0, 1) := by decide +kernel
theorem dX7_minutes_20 : decode cX7_minutes 20 = .ok (.iload_n 1, 1) := by decide +kernel
theorem dX7_minutes_21 : decode cX7_minutes 21 = .ok (.invokevirtual 132, 3) := by decide +kernel
theorem dX7_minutes_24 : decode cX7_minutes 24 = .ok (.ifCond .eq 10, 3) := by decide +kernel
theorem dX7_minutes_27 : decode cX7_minutes 27 = .ok (.aload_n 0, 1) := by decide +kernel
theorem dX7_minutes_28 : decode cX7_minutes 28 = .ok (.ldc 109, 2) := by decide +kernel
theorem dX7_minutes_30 : decode cX7_minutes 30 = .ok (.invokevirtual 59, 3) := by decide +kernel
theorem dX7_minutes_33 : decode cX7_minutes 33 = .ok (.ireturn, 1) := by decide +kernel
theorem dX7_minutes_34 : decode cX7_minutes 34 = .ok (.iconst 0, 1) := by decide +kernel
theorem dX7_minutes_35 : decode cX7_minutes 35 = .ok (.istore_n 2, 1) := by decide +kernel
theorem dX7_minutes_36 : decode cX7_minutes 36 = .ok (.iconst 0, 1) := by decide +kernel
theorem dX7_minutes_37 : decode cX7_minutes 37 = .ok (.istore_n 3, 1) := by decide +kernel
theorem dX7_minutes_38 : decode cX7_minutes 38 = .ok (.iload_n 3, 1) := by decide +kernel
theorem dX7_minutes_39 : decode cX7_minutes 39 = .ok (.iload_n 1, 1) := by decide +kernel
theorem dX7_minutes_40 : decode cX7_minutes 40 = .ok (.if_icmp .ge 25, 3) := by decide +kernel
theorem dX7_minutes_43 : decode cX7_minutes 43 = .ok (.aload_n 0, 1) := by decide +kernel
theorem dX7_minutes_44 : decode cX7_minutes 44 = .ok (.invokevirtual 135, 3) := by decide +kernel
theorem dX7_minutes_47 : decode cX7_minutes 47 = .ok (.iload_n 2, 1) := by decide +kernel
theorem dX7_minutes_48 : decode cX7_minutes 48 = .ok (.aload_n 0, 1) := by decide +kernel
theorem dX7_minutes_49 : decode cX7_minutes 49 = .ok (.getfield 117, 3) := by decide +kernel
theorem dX7_minutes_52 : decode cX7_minutes 52 = .ok (.aload_n 0, 1) := by decide +kernel
theorem dX7_minutes_53 : decode cX7_minutes 53 = .ok (.getfield 121, 3) := by decide +kernel
theorem dX7_minutes_56 : decode cX7_minutes 56 = .ok (.iadd, 1) := by decide +kernel
theorem dX7_minutes_57 : decode cX7_minutes 57 = .ok (.iadd, 1) := by decide +kernel
theorem dX7_minutes_58 : decode cX7_minutes 58 = .ok (.istore_n 2, 1) := by decide +kernel
theorem dX7_minutes_59 : decode cX7_minutes 59 = .ok (.iinc 3 1, 3) := by decide +kernel
theorem dX7_minutes_62 : decode cX7_minutes 62 = .ok (.goto (-24), 3) := by decide +kernel
theorem dX7_minutes_65 : decode cX7_minutes 65 = .ok (.iload_n 2, 1) := by decide +kernel
theorem dX7_minutes_66 : decode cX7_minutes 66 = .ok (.ireturn, 1) := by decide +kernel
theorem dX7_areIn_0 : decode cX7_areIn 0 = .ok (.iconst 0, 1) := by decide +kernel
theorem dX7_areIn_1 : decode cX7_areIn 1 = .ok (.istore_n 2, 1) := by decide +kernel
theorem dX7_areIn_2 : decode cX7_areIn 2 = .ok (.iconst 0, 1) := by decide +kernel
theorem dX7_areIn_3 : decode cX7_areIn 3 = .ok (.istore_n 3, 1) := by decide +kernel
theorem dX7_areIn_4 : decode cX7_areIn 4 = .ok (.iload_n 3, 1) := by decide +kernel
theorem dX7_areIn_5 : decode cX7_areIn 5 = .ok (.aload_n 0, 1) := by decide +kernel
theorem dX7_areIn_6 : decode cX7_areIn 6 = .ok (.getfield 7, 3) := by decide +kernel
theorem dX7_areIn_9 : decode cX7_areIn 9 = .ok (.iconst 1, 1) := by decide +kernel
theorem dX7_areIn_10 : decode cX7_areIn 10 = .ok (.iaload, 1) := by decide +kernel
theorem dX7_areIn_11 : decode cX7_areIn 11 = .ok (.if_icmp .ge 30, 3) := by decide +kernel
theorem dX7_areIn_14 : decode cX7_areIn 14 = .ok (.iload_n 2, 1) := by decide +kernel
theorem dX7_areIn_15 : decode cX7_areIn 15 = .ok (.aload_n 0, 1) := by decide +kernel
theorem dX7_areIn_16 : decode cX7_areIn 16 = .ok (.iload_n 3, 1) := by decide +kernel
theorem dX7_areIn_17 : decode cX7_areIn 17 = .ok (.bipush 6, 2) := by decide +kernel
theorem dX7_areIn_19 : decode cX7_areIn 19 = .ok (.invokevirtual 89, 3) := by decide +kernel
theorem dX7_areIn_22 : decode cX7_areIn 22 = .ok (.iload_n 1, 1) := by decide +kernel
theorem dX7_areIn_23 : decode cX7_areIn 23 = .ok (.if_icmp .ne 9, 3) := by decide +kernel
theorem dX7_areIn_26 : decode cX7_areIn 26 = .ok (.iconst 1, 1) := by decide +kernel
theorem dX7_areIn_27 : decode cX7_areIn 27 = .ok (.iload_n 3, 1) := by decide +kernel
theorem dX7_areIn_28 : decode cX7_areIn 28 = .ok (.ishl, 1) := by decide +kernel
theorem dX7_areIn_29 : decode cX7_areIn 29 = .ok (.goto 4, 3) := by decide +kernel
theorem dX7_areIn_32 : decode cX7_areIn 32 = .ok (.iconst 0, 1) := by decide +kernel
theorem dX7_areIn_33 : decode cX7_areIn 33 = .ok (.ior, 1) := by decide +kernel
theorem dX7_areIn_34 : decode cX7_areIn 34 = .ok (.istore_n 2, 1) := by decide +kernel
theorem dX7_areIn_35 : decode cX7_areIn 35 = .ok (.iinc 3 1, 3) := by decide +kernel
theorem dX7_areIn_38 : decode cX7_areIn 38 = .ok (.goto (-34), 3) := by decide +kernel
theorem dX7_areIn_41 : decode cX7_areIn 41 = .ok (.iload_n 2, 1) := by decide +kernel
theorem dX7_areIn_42 : decode cX7_areIn 42 = .ok (.ireturn, 1) := by decide +kernel
theorem dX7_are_0 : decode cX7_are 0 = .ok (.iload_n 1, 1) := by decide +kernel
theorem dX7_are_1 : decode cX7_are 1 = .ok (.i2l, 1) := by decide +kernel
theorem dX7_are_2 : decode cX7_are 2 = .ok (.lconst 0, 1) := by decide +kernel
theorem dX7_are_3 : decode cX7_are 3 = .ok (.ldc2_w 138, 3) := by decide +kernel
theorem dX7_are_6 : decode cX7_are 6 = .ok (.invokestatic 46, 3) := by decide +kernel
theorem dX7_are_9 : decode cX7_are 9 = .ok (.ifCond .eq 11, 3) := by decide +kernel
theorem dX7_are_12 : decode cX7_are 12 = .ok (.aload_n 0, 1) := by decide +kernel
theorem dX7_are_13 : decode cX7_are 13 = .ok (.iload_n 1, 1) := by decide +kernel
theorem dX7_are_14 : decode cX7_are 14 = .ok (.invokevirtual 140, 3) := by decide +kernel
theorem dX7_are_17 : decode cX7_are 17 = .ok (.goto 9, 3) := by decide +kernel
theorem dX7_are_20 : decode cX7_are 20 = .ok (.aload_n 0, 1) := by decide +kernel
theorem dX7_are_21 : decode cX7_are 21 = .ok (.ldc 43, 2) := by decide +kernel
theorem dX7_are_23 : decode cX7_are 23 = .ok (.invokevirtual 59, 3) := by decide +kernel
theorem dX7_are_26 : decode cX7_are 26 = .ok (.ireturn, 1) := by decide +kernel
theorem dX7_onCell_0 : decode cX7_onCell 0 = .ok (.iconst 0, 1) := by decide +kernel
theorem dX7_onCell_1 : decode cX7_onCell 1 = .ok (.istore_n 2, 1) := by decide +kernel
theorem dX7_onCell_2 : decode cX7_onCell 2 = .ok (.iconst 0, 1) := by decide +kernel
theorem dX7_onCell_3 : decode cX7_onCell 3 = .ok (.istore_n 3, 1) := by decide +kernel
theorem dX7_onCell_4 : decode cX7_onCell 4 = .ok (.iload_n 3, 1) := by decide +kernel
theorem dX7_onCell_5 : decode cX7_onCell 5 = .ok (.aload_n 0, 1) := by decide +kernel
theorem dX7_onCell_6 : decode cX7_onCell 6 = .ok (.getfield 7, 3) := by decide +kernel
theorem dX7_onCell_9 : decode cX7_onCell 9 = .ok (.iconst 1, 1) := by decide +kernel
theorem dX7_onCell_10 : decode cX7_onCell 10 = .ok (.iaload, 1) := by decide +kernel
theorem dX7_onCell_11 : decode cX7_onCell 11 = .ok (.if_icmp .ge 37, 3) := by decide +kernel
theorem dX7_onCell_14 : decode cX7_onCell 14 = .ok (.iload_n 2, 1) := by decide +kernel
theorem dX7_onCell_15 : decode cX7_onCell 15 = .ok (.aload_n 0, 1) := by decide +kernel
theorem dX7_onCell_16 : decode cX7_onCell 16 = .ok (.iload_n 3, 1) := by decide +kernel
theorem dX7_onCell_17 : decode cX7_onCell 17 = .ok (.invokevirtual 114, 3) := by decide +kernel
theorem dX7_onCell_20 : decode cX7_onCell 20 = .ok (.ifCond .eq 19, 3) := by decide +kernel
theorem dX7_onCell_23 : decode cX7_onCell 23 = .ok (.aload_n 0, 1) := by decide +kernel
theorem dX7_onCell_24 : decode cX7_onCell 24 = .ok (.iload_n 3, 1) := by decide +kernel
theorem dX7_onCell_25 : decode cX7_onCell 25 = .ok (.iconst 4, 1) := by decide +kernel
theorem dX7_onCell_26 : decode cX7_onCell 26 = .ok (.invokevirtual 89, 3) := by decide +kernel
theorem dX7_onCell_29 : decode cX7_onCell 29 = .ok (.iload_n 1, 1) := by decide +kernel
theorem dX7_onCell_30 : decode cX7_onCell 30 = .ok (.if_icmp .ne 9, 3) := by decide +kernel
theorem dX7_onCell_33 : decode cX7_onCell 33 = .ok (.iconst 1, 1) := by decide +kernel
theorem dX7_onCell_34 : decode cX7_onCell 34 = .ok (.iload_n 3, 1) := by decide +kernel
theorem dX7_onCell_35 : decode cX7_onCell 35 = .ok (.ishl, 1) := by decide +kernel
theorem dX7_onCell_36 : decode cX7_onCell 36 = .ok (.goto 4, 3) := by decide +kernel
theorem dX7_onCell_39 : decode cX7_onCell 39 = .ok (.iconst 0, 1) := by decide +kernel
theorem dX7_onCell_40 : decode cX7_onCell 40 = .ok (.ior, 1) := by decide +kernel
theorem dX7_onCell_41 : decode cX7_onCell 41 = .ok (.istore_n 2, 1) := by decide +kernel
theorem dX7_onCell_42 : decode cX7_onCell 42 = .ok (.iinc 3 1, 3) := by decide +kernel
theorem dX7_onCell_45 : decode cX7_onCell 45 = .ok (.goto (-41), 3) := by decide +kernel
theorem dX7_onCell_48 : decode cX7_onCell 48 = .ok (.iload_n 2, 1) := by decide +kernel
theorem dX7_onCell_49 : decode cX7_onCell 49 = .ok (.ireturn, 1) := by decide +kernel
theorem dX7_on_0 : decode cX7_on 0 = .ok (.iload_n 1, 1) := by decide +kernel
theorem dX7_on_1 : decode cX7_on 1 = .ok (.invokestatic 51, 3) := by decide +kernel
theorem dX7_on_4 : decode cX7_on 4 = .ok (.ifCond .eq 11, 3) := by decide +kernel
theorem dX7_on_7 : decode cX7_on 7 = .ok (.aload_n 0, 1) := by decide +kernel
theorem dX7_on_8 : decode cX7_on 8 = .ok (.iload_n 1, 1) := by decide +kernel
theorem dX7_on_9 : decode cX7_on 9 = .ok (.invokevirtual 143, 3) := by decide +kernel
theorem dX7_on_12 : decode cX7_on 12 = .ok (.goto 9, 3) := by decide +kernel
theorem dX7_on_15 : decode cX7_on 15 = .ok (.aload_n 0, 1) := by decide +kernel
theorem dX7_on_16 : decode cX7_on 16 = .ok (.ldc 43, 2) := by decide +kernel
theorem dX7_on_18 : decode cX7_on 18 = .ok (.invokevirtual 59, 3) := by decide +kernel
theorem dX7_on_21 : decode cX7_on 21 = .ok (.ireturn, 1) := by decide +kernel
theorem dX7_sumOf_0 : decode cX7_sumOf 0 = .ok (.iconst 0, 1) := by decide +kernel
theorem dX7_sumOf_1 : decode cX7_sumOf 1 = .ok (.istore_n 2, 1) := by decide +kernel
theorem dX7_sumOf_2 : decode cX7_sumOf 2 = .ok (.iconst 0, 1) := by decide +kernel
theorem dX7_sumOf_3 : decode cX7_sumOf 3 = .ok (.istore_n 3, 1) := by decide +kernel
theorem dX7_sumOf_4 : decode cX7_sumOf 4 = .ok (.iload_n 3, 1) := by decide +kernel
theorem dX7_sumOf_5 : decode cX7_sumOf 5 = .ok (.aload_n 0, 1) := by decide +kernel
theorem dX7_sumOf_6 : decode cX7_sumOf 6 = .ok (.getfield 7, 3) := by decide +kernel
theorem dX7_sumOf_9 : decode cX7_sumOf 9 = .ok (.iconst 1, 1) := by decide +kernel
theorem dX7_sumOf_10 : decode cX7_sumOf 10 = .ok (.iaload, 1) := by decide +kernel
theorem dX7_sumOf_11 : decode cX7_sumOf 11 = .ok (.if_icmp .ge 18, 3) := by decide +kernel
theorem dX7_sumOf_14 : decode cX7_sumOf 14 = .ok (.iload_n 2, 1) := by decide +kernel
theorem dX7_sumOf_15 : decode cX7_sumOf 15 = .ok (.aload_n 0, 1) := by decide +kernel
theorem dX7_sumOf_16 : decode cX7_sumOf 16 = .ok (.iload_n 3, 1) := by decide +kernel
theorem dX7_sumOf_17 : decode cX7_sumOf 17 = .ok (.iload_n 1, 1) := by decide +kernel
theorem dX7_sumOf_18 : decode cX7_sumOf 18 = .ok (.invokevirtual 89, 3) := by decide +kernel
theorem dX7_sumOf_21 : decode cX7_sumOf 21 = .ok (.iadd, 1) := by decide +kernel
theorem dX7_sumOf_22 : decode cX7_sumOf 22 = .ok (.istore_n 2, 1) := by decide +kernel
theorem dX7_sumOf_23 : decode cX7_sumOf 23 = .ok (.iinc 3 1, 3) := by decide +kernel
theorem dX7_sumOf_26 : decode cX7_sumOf 26 = .ok (.goto (-22), 3) := by decide +kernel
theorem dX7_sumOf_29 : decode cX7_sumOf 29 = .ok (.iload_n 2, 1) := by decide +kernel
theorem dX7_sumOf_30 : decode cX7_sumOf 30 = .ok (.ireturn, 1) := by decide +kernel
theorem dX7_ahead_0 : decode cX7_ahead 0 = .ok (.iload_n 1, 1) := by decide +kernel
theorem dX7_ahead_1 : decode cX7_ahead 1 = .ok (.i2l, 1) := by decide +kernel
theorem dX7_ahead_2 : decode cX7_ahead 2 = .ok (.lconst 0, 1) := by decide +kernel
theorem dX7_ahead_3 : decode cX7_ahead 3 = .ok (.ldc2_w 146, 3) := by decide +kernel
theorem dX7_ahead_6 : decode cX7_ahead 6 = .ok (.invokestatic 46, 3) := by decide +kernel
theorem dX7_ahead_9 : decode cX7_ahead 9 = .ok (.ifCond .eq 21, 3) := by decide +kernel
theorem dX7_ahead_12 : decode cX7_ahead 12 = .ok (.iload_n 2, 1) := by decide +kernel
theorem dX7_ahead_13 : decode cX7_ahead 13 = .ok (.i2l, 1) := by decide +kernel
theorem dX7_ahead_14 : decode cX7_ahead 14 = .ok (.lconst 0, 1) := by decide +kernel
theorem dX7_ahead_15 : decode cX7_ahead 15 = .ok (.iconst 3, 1) := by decide +kernel
theorem dX7_ahead_16 : decode cX7_ahead 16 = .ok (.aload_n 0, 1) := by decide +kernel
theorem dX7_ahead_17 : decode cX7_ahead 17 = .ok (.getfield 7, 3) := by decide +kernel
theorem dX7_ahead_20 : decode cX7_ahead 20 = .ok (.iconst 1, 1) := by decide +kernel
theorem dX7_ahead_21 : decode cX7_ahead 21 = .ok (.iaload, 1) := by decide +kernel
theorem dX7_ahead_22 : decode cX7_ahead 22 = .ok (.iadd, 1) := by decide +kernel
theorem dX7_ahead_23 : decode cX7_ahead 23 = .ok (.i2l, 1) := by decide +kernel
theorem dX7_ahead_24 : decode cX7_ahead 24 = .ok (.invokestatic 46, 3) := by decide +kernel
theorem dX7_ahead_27 : decode cX7_ahead 27 = .ok (.ifCond .ne 10, 3) := by decide +kernel
theorem dX7_ahead_30 : decode cX7_ahead 30 = .ok (.aload_n 0, 1) := by decide +kernel
theorem dX7_ahead_31 : decode cX7_ahead 31 = .ok (.ldc 43, 2) := by decide +kernel
theorem dX7_ahead_33 : decode cX7_ahead 33 = .ok (.invokevirtual 59, 3) := by decide +kernel
theorem dX7_ahead_36 : decode cX7_ahead 36 = .ok (.ireturn, 1) := by decide +kernel
theorem dX7_ahead_37 : decode cX7_ahead 37 = .ok (.aload_n 0, 1) := by decide +kernel
theorem dX7_ahead_38 : decode cX7_ahead 38 = .ok (.iload_n 1, 1) := by decide +kernel
theorem dX7_ahead_39 : decode cX7_ahead 39 = .ok (.invokevirtual 132, 3) := by decide +kernel
theorem dX7_ahead_42 : decode cX7_ahead 42 = .ok (.ifCond .eq 10, 3) := by decide +kernel
theorem dX7_ahead_45 : decode cX7_ahead 45 = .ok (.aload_n 0, 1) := by decide +kernel
theorem dX7_ahead_46 : decode cX7_ahead 46 = .ok (.ldc 109, 2) := by decide +kernel
theorem dX7_ahead_48 : decode cX7_ahead 48 = .ok (.invokevirtual 59, 3) := by decide +kernel
theorem dX7_ahead_51 : decode cX7_ahead 51 = .ok (.ireturn, 1) := by decide +kernel
theorem dX7_ahead_52 : decode cX7_ahead 52 = .ok (.aload_n 0, 1) := by decide +kernel
theorem dX7_ahead_53 : decode cX7_ahead 53 = .ok (.invokevirtual 148, 3) := by decide +kernel
theorem dX7_ahead_56 : decode cX7_ahead 56 = .ok (.iconst 0, 1) := by decide +kernel
theorem dX7_ahead_57 : decode cX7_ahead 57 = .ok (.istore_n 3, 1) := by decide +kernel
theorem dX7_ahead_58 : decode cX7_ahead 58 = .ok (.iload_n 3, 1) := by decide +kernel
theorem dX7_ahead_59 : decode cX7_ahead 59 = .ok (.iload_n 1, 1) := by decide +kernel
theorem dX7_ahead_60 : decode cX7_ahead 60 = .ok (.if_icmp .ge 13, 3) := by decide +kernel
theorem dX7_ahead_63 : decode cX7_ahead 63 = .ok (.aload_n 0, 1) := by decide +kernel
theorem dX7_ahead_64 : decode cX7_ahead 64 = .ok (.invokevirtual 135, 3) := by decide +kernel
theorem dX7_ahead_67 : decode cX7_ahead 67 = .ok (.iinc 3 1, 3) := by decide +kernel
theorem dX7_ahead_70 : decode cX7_ahead 70 = .ok (.goto (-12), 3) := by decide +kernel
theorem dX7_ahead_73 : decode cX7_ahead 73 = .ok (.iload_n 2, 1) := by decide +kernel
theorem dX7_ahead_74 : decode cX7_ahead 74 = .ok (.ifCond .ne 11, 3) := by decide +kernel
theorem dX7_ahead_77 : decode cX7_ahead 77 = .ok (.aload_n 0, 1) := by decide +kernel
theorem dX7_ahead_78 : decode cX7_ahead 78 = .ok (.iconst 1, 1) := by decide +kernel
theorem dX7_ahead_79 : decode cX7_ahead 79 = .ok (.invokevirtual 140, 3) := by decide +kernel
theorem dX7_ahead_82 : decode cX7_ahead 82 = .ok (.goto 52, 3) := by decide +kernel
theorem dX7_ahead_85 : decode cX7_ahead 85 = .ok (.iload_n 2, 1) := by decide +kernel
theorem dX7_ahead_86 : decode cX7_ahead 86 = .ok (.iconst 1, 1) := by decide +kernel
theorem dX7_ahead_87 : decode cX7_ahead 87 = .ok (.if_icmp .ne 11, 3) := by decide +kernel
theorem dX7_ahead_90 : decode cX7_ahead 90 = .ok (.aload_n 0, 1) := by decide +kernel
theorem dX7_ahead_91 : decode cX7_ahead 91 = .ok (.iconst 2, 1) := by decide +kernel
theorem dX7_ahead_92 : decode cX7_ahead 92 = .ok (.invokevirtual 140, 3) := by decide +kernel
theorem dX7_ahead_95 : decode cX7_ahead 95 = .ok (.goto 39, 3) := by decide +kernel
theorem dX7_ahead_98 : decode cX7_ahead 98 = .ok (.iload_n 2, 1) := by decide +kernel
theorem dX7_ahead_99 : decode cX7_ahead 99 = .ok (.iconst 2, 1) := by decide +kernel
theorem dX7_ahead_100 : decode cX7_ahead 100 = .ok (.if_icmp .ne 12, 3) := by decide +kernel
theorem dX7_ahead_103 : decode cX7_ahead 103 = .ok (.aload_n 0, 1) := by decide +kernel
theorem dX7_ahead_104 : decode cX7_ahead 104 = .ok (.bipush 30, 2) := by decide +kernel
theorem dX7_ahead_106 : decode cX7_ahead 106 = .ok (.invokevirtual 143, 3) := by decide +kernel
theorem dX7_ahead_109 : decode cX7_ahead 109 = .ok (.goto 25, 3) := by decide +kernel
theorem dX7_ahead_112 : decode cX7_ahead 112 = .ok (.iload_n 2, 1) := by decide +kernel
theorem dX7_ahead_113 : decode cX7_ahead 113 = .ok (.iconst 3, 1) := by decide +kernel
theorem dX7_ahead_114 : decode cX7_ahead 114 = .ok (.if_icmp .ne 12, 3) := by decide +kernel
theorem dX7_ahead_117 : decode cX7_ahead 117 = .ok (.aload_n 0, 1) := by decide +kernel
theorem dX7_ahead_118 : decode cX7_ahead 118 = .ok (.bipush 7, 2) := by decide +kernel
theorem dX7_ahead_120 : decode cX7_ahead 120 = .ok (.invokevirtual 151, 3) := by decide +kernel
theorem dX7_ahead_123 : decode cX7_ahead 123 = .ok (.goto 11, 3) := by decide +kernel
theorem dX7_ahead_126 : decode cX7_ahead 126 = .ok (.aload_n 0, 1) := by decide +kernel
theorem dX7_ahead_127 : decode cX7_ahead 127 = .ok (.iload_n 2, 1) := by decide +kernel
theorem dX7_ahead_128 : decode cX7_ahead 128 = .ok (.iconst 4, 1) := by decide +kernel
theorem dX7_ahead_129 : decode cX7_ahead 129 = .ok (.isub, 1) := by decide +kernel
theorem dX7_ahead_130 : decode cX7_ahead 130 = .ok (.iconst 4, 1) := by decide +kernel
theorem dX7_ahead_131 : decode cX7_ahead 131 = .ok (.invokevirtual 89, 3) := by decide +kernel
theorem dX7_ahead_134 : decode cX7_ahead 134 = .ok (.istore_n 3, 1) := by decide +kernel
theorem dX7_ahead_135 : decode cX7_ahead 135 = .ok (.aload_n 0, 1) := by decide +kernel
theorem dX7_ahead_136 : decode cX7_ahead 136 = .ok (.invokevirtual 154, 3) := by decide +kernel
theorem dX7_ahead_139 : decode cX7_ahead 139 = .ok (.iload_n 3, 1) := by decide +kernel
theorem dX7_ahead_140 : decode cX7_ahead 140 = .ok (.ireturn, 1) := by decide +kernel
theorem dX7_meet_0 : decode cX7_meet 0 = .ok (.aload_n 0, 1) := by decide +kernel
theorem dX7_meet_1 : decode cX7_meet 1 = .ok (.sipush 200, 3) := by decide +kernel
theorem dX7_meet_4 : decode cX7_meet 4 = .ok (.invokevirtual 132, 3) := by decide +kernel
theorem dX7_meet_7 : decode cX7_meet 7 = .ok (.ifCond .eq 10, 3) := by decide +kernel
theorem dX7_meet_10 : decode cX7_meet 10 = .ok (.aload_n 0, 1) := by decide +kernel
theorem dX7_meet_11 : decode cX7_meet 11 = .ok (.ldc 109, 2) := by decide +kernel
theorem dX7_meet_13 : decode cX7_meet 13 = .ok (.invokevirtual 59, 3) := by decide +kernel
theorem dX7_meet_16 : decode cX7_meet 16 = .ok (.ireturn, 1) := by decide +kernel
theorem dX7_meet_17 : decode cX7_meet 17 = .ok (.aload_n 0, 1) := by decide +kernel
theorem dX7_meet_18 : decode cX7_meet 18 = .ok (.invokevirtual 148, 3) := by decide +kernel
theorem dX7_meet_21 : decode cX7_meet 21 = .ok (.iconst 0, 1) := by decide +kernel
theorem dX7_meet_22 : decode cX7_meet 22 = .ok (.istore_n 1, 1) := by decide +kernel
theorem dX7_meet_23 : decode cX7_meet 23 = .ok (.aload_n 0, 1) := by decide +kernel
theorem dX7_meet_24 : decode cX7_meet 24 = .ok (.iconst 0, 1) := by decide +kernel
theorem dX7_meet_25 : decode cX7_meet 25 = .ok (.putfield 117, 3) := by decide +kernel
theorem dX7_meet_28 : decode cX7_meet 28 = .ok (.iload_n 1, 1) := by decide +kernel
theorem dX7_meet_29 : decode cX7_meet 29 = .ok (.sipush 200, 3) := by decide +kernel
theorem dX7_meet_32 : decode cX7_meet 32 = .ok (.if_icmp .ge 20, 3) := by decide +kernel
theorem dX7_meet_35 : decode cX7_meet 35 = .ok (.aload_n 0, 1) := by decide +kernel
theorem dX7_meet_36 : decode cX7_meet 36 = .ok (.getfield 117, 3) := by decide +kernel
theorem dX7_meet_39 : decode cX7_meet 39 = .ok (.ifCond .ne 13, 3) := by decide +kernel
theorem dX7_meet_42 : decode cX7_meet 42 = .ok (.aload_n 0, 1) := by decide +kernel
theorem dX7_meet_43 : decode cX7_meet 43 = .ok (.invokevirtual 135, 3) := by decide +kernel
theorem dX7_meet_46 : decode cX7_meet 46 = .ok (.iinc 1 1, 3) := by decide +kernel
theorem dX7_meet_49 : decode cX7_meet 49 = .ok (.goto (-21), 3) := by decide +kernel
theorem dX7_meet_52 : decode cX7_meet 52 = .ok (.aload_n 0, 1) := by decide +kernel
theorem dX7_meet_53 : decode cX7_meet 53 = .ok (.getfield 117, 3) := by decide +kernel
theorem dX7_meet_56 : decode cX7_meet 56 = .ok (.ifCond .le 7, 3) := by decide +kernel
theorem dX7_meet_59 : decode cX7_meet 59 = .ok (.iconst 1, 1) := by decide +kernel
theorem dX7_meet_60 : decode cX7_meet 60 = .ok (.goto 4, 3) := by decide +kernel
theorem dX7_meet_63 : decode cX7_meet 63 = .ok (.iconst 0, 1) := by decide +kernel
theorem dX7_meet_64 : decode cX7_meet 64 = .ok (.istore_n 2, 1) := by decide +kernel
theorem dX7_meet_65 : decode cX7_meet 65 = .ok (.aload_n 0, 1) := by decide +kernel
theorem dX7_meet_66 : decode cX7_meet 66 = .ok (.invokevirtual 154, 3) := by decide +kernel
theorem dX7_meet_69 : decode cX7_meet 69 = .ok (.iload_n 2, 1) := by decide +kernel
theorem dX7_meet_70 : decode cX7_meet 70 = .ok (.ifCond .eq 7, 3) := by decide +kernel
theorem dX7_meet_73 : decode cX7_meet 73 = .ok (.iload_n 1, 1) := by decide +kernel
theorem dX7_meet_74 : decode cX7_meet 74 = .ok (.goto 9, 3) := by decide +kernel
theorem dX7_meet_77 : decode cX7_meet 77 = .ok (.aload_n 0, 1) := by decide +kernel
theorem dX7_meet_78 : decode cX7_meet 78 = .ok (.ldc 157, 2) := by decide +kernel
theorem dX7_meet_80 : decode cX7_meet 80 = .ok (.invokevirtual 59, 3) := by decide +kernel
theorem dX7_meet_83 : decode cX7_meet 83 = .ok (.ireturn, 1) := by decide +kernel
theorem dX7_alone_0 : decode cX7_alone 0 = .ok (.aload_n 0, 1) := by decide +kernel
theorem dX7_alone_1 : decode cX7_alone 1 = .ok (.iload_n 1, 1) := by decide +kernel
theorem dX7_alone_2 : decode cX7_alone 2 = .ok (.iconst 4, 1) := by decide +kernel
theorem dX7_alone_3 : decode cX7_alone 3 = .ok (.invokevirtual 89, 3) := by decide +kernel
theorem dX7_alone_6 : decode cX7_alone 6 = .ok (.istore_n 3, 1) := by decide +kernel
theorem dX7_alone_7 : decode cX7_alone 7 = .ok (.aload_n 0, 1) := by decide +kernel
theorem dX7_alone_8 : decode cX7_alone 8 = .ok (.iload_n 1, 1) := by decide +kernel
theorem dX7_alone_9 : decode cX7_alone 9 = .ok (.iconst 5, 1) := by decide +kernel
theorem dX7_alone_10 : decode cX7_alone 10 = .ok (.invokevirtual 89, 3) := by decide +kernel
theorem dX7_alone_13 : decode cX7_alone 13 = .ok (.istore 4, 2) := by decide +kernel
theorem dX7_alone_15 : decode cX7_alone 15 = .ok (.aload_n 0, 1) := by decide +kernel
theorem dX7_alone_16 : decode cX7_alone 16 = .ok (.iload_n 1, 1) := by decide +kernel
theorem dX7_alone_17 : decode cX7_alone 17 = .ok (.bipush 6, 2) := by decide +kernel
theorem dX7_alone_19 : decode cX7_alone 19 = .ok (.invokevirtual 89, 3) := by decide +kernel
theorem dX7_alone_22 : decode cX7_alone 22 = .ok (.istore 5, 2) := by decide +kernel
theorem dX7_alone_24 : decode cX7_alone 24 = .ok (.iload 5, 2) := by decide +kernel
theorem dX7_alone_26 : decode cX7_alone 26 = .ok (.ifCond .ne 9, 3) := by decide +kernel
theorem dX7_alone_29 : decode cX7_alone 29 = .ok (.aload_n 0, 1) := by decide +kernel
theorem dX7_alone_30 : decode cX7_alone 30 = .ok (.iload_n 1, 1) := by decide +kernel
theorem dX7_alone_31 : decode cX7_alone 31 = .ok (.iload_n 2, 1) := by decide +kernel
theorem dX7_alone_32 : decode cX7_alone 32 = .ok (.invokevirtual 110, 3) := by decide +kernel
theorem dX7_alone_35 : decode cX7_alone 35 = .ok (.aload_n 0, 1) := by decide +kernel
theorem dX7_alone_36 : decode cX7_alone 36 = .ok (.iconst 0, 1) := by decide +kernel
theorem dX7_alone_37 : decode cX7_alone 37 = .ok (.putfield 158, 3) := by decide +kernel
theorem dX7_alone_40 : decode cX7_alone 40 = .ok (.aload_n 0, 1) := by decide +kernel
theorem dX7_alone_41 : decode cX7_alone 41 = .ok (.aload_n 0, 1) := by decide +kernel
theorem dX7_alone_42 : decode cX7_alone 42 = .ok (.iload_n 1, 1) := by decide +kernel
theorem dX7_alone_43 : decode cX7_alone 43 = .ok (.iconst 5, 1) := by decide +kernel
theorem dX7_alone_44 : decode cX7_alone 44 = .ok (.invokevirtual 89, 3) := by decide +kernel
theorem dX7_alone_47 : decode cX7_alone 47 = .ok (.putfield 161, 3) := by decide +kernel
theorem dX7_alone_50 : decode cX7_alone 50 = .ok (.aload_n 0, 1) := by decide +kernel
theorem dX7_alone_51 : decode cX7_alone 51 = .ok (.iconst 1, 1) := by decide +kernel
theorem dX7_alone_52 : decode cX7_alone 52 = .ok (.iload_n 3, 1) := by decide +kernel
theorem dX7_alone_53 : decode cX7_alone 53 = .ok (.ishl, 1) := by decide +kernel
theorem dX7_alone_54 : decode cX7_alone 54 = .ok (.putfield 164, 3) := by decide +kernel
theorem dX7_alone_57 : decode cX7_alone 57 = .ok (.aload_n 0, 1) := by decide +kernel
theorem dX7_alone_58 : decode cX7_alone 58 = .ok (.iload_n 1, 1) := by decide +kernel
theorem dX7_alone_59 : decode cX7_alone 59 = .ok (.bipush 6, 2) := by decide +kernel
theorem dX7_alone_61 : decode cX7_alone 61 = .ok (.invokevirtual 89, 3) := by decide +kernel
theorem dX7_alone_64 : decode cX7_alone 64 = .ok (.iconst 1, 1) := by decide +kernel
theorem dX7_alone_65 : decode cX7_alone 65 = .ok (.if_icmp .ne 104, 3) := by decide +kernel
theorem dX7_alone_68 : decode cX7_alone 68 = .ok (.aload_n 0, 1) := by decide +kernel
theorem dX7_alone_69 : decode cX7_alone 69 = .ok (.getfield 158, 3) := by decide +kernel
theorem dX7_alone_72 : decode cX7_alone 72 = .ok (.sipush 200, 3) := by decide +kernel
theorem dX7_alone_75 : decode cX7_alone 75 = .ok (.if_icmp .ge 94, 3) := by decide +kernel
theorem dX7_alone_78 : decode cX7_alone 78 = .ok (.aload_n 0, 1) := by decide +kernel
theorem dX7_alone_79 : decode cX7_alone 79 = .ok (.iload_n 1, 1) := by decide +kernel
theorem dX7_alone_80 : decode cX7_alone 80 = .ok (.aload_n 0, 1) := by decide +kernel
theorem dX7_alone_81 : decode cX7_alone 81 = .ok (.getfield 7, 3) := by decide +kernel
theorem dX7_alone_84 : decode cX7_alone 84 = .ok (.iconst 0, 1) := by decide +kernel
theorem dX7_alone_85 : decode cX7_alone 85 = .ok (.iaload, 1) := by decide +kernel
theorem dX7_alone_86 : decode cX7_alone 86 = .ok (.aload_n 0, 1) := by decide +kernel
theorem dX7_alone_87 : decode cX7_alone 87 = .ok (.getfield 158, 3) := by decide +kernel
theorem dX7_alone_90 : decode cX7_alone 90 = .ok (.iadd, 1) := by decide +kernel
theorem dX7_alone_91 : decode cX7_alone 91 = .ok (.invokevirtual 124, 3) := by decide +kernel
theorem dX7_alone_94 : decode cX7_alone 94 = .ok (.aload_n 0, 1) := by decide +kernel
theorem dX7_alone_95 : decode cX7_alone 95 = .ok (.dup, 1) := by decide +kernel
theorem dX7_alone_96 : decode cX7_alone 96 = .ok (.getfield 158, 3) := by decide +kernel
theorem dX7_alone_99 : decode cX7_alone 99 = .ok (.iconst 1, 1) := by decide +kernel
theorem dX7_alone_100 : decode cX7_alone 100 = .ok (.iadd, 1) := by decide +kernel
theorem dX7_alone_101 : decode cX7_alone 101 = .ok (.putfield 158, 3) := by decide +kernel
theorem dX7_alone_104 : decode cX7_alone 104 = .ok (.aload_n 0, 1) := by decide +kernel
theorem dX7_alone_105 : decode cX7_alone 105 = .ok (.aload_n 0, 1) := by decide +kernel
theorem dX7_alone_106 : decode cX7_alone 106 = .ok (.iload_n 1, 1) := by decide +kernel
theorem dX7_alone_107 : decode cX7_alone 107 = .ok (.iconst 5, 1) := by decide +kernel
theorem dX7_alone_108 : decode cX7_alone 108 = .ok (.invokevirtual 89, 3) := by decide +kernel
theorem dX7_alone_111 : decode cX7_alone 111 = .ok (.aload_n 0, 1) := by decide +kernel
theorem dX7_alone_112 : decode cX7_alone 112 = .ok (.getfield 161, 3) := by decide +kernel
theorem dX7_alone_115 : decode cX7_alone 115 = .ok (.if_icmp .le 12, 3) := by decide +kernel
theorem dX7_alone_118 : decode cX7_alone 118 = .ok (.aload_n 0, 1) := by decide +kernel
theorem dX7_alone_119 : decode cX7_alone 119 = .ok (.iload_n 1, 1) := by decide +kernel
theorem dX7_alone_120 : decode cX7_alone 120 = .ok (.iconst 5, 1) := by decide +kernel
theorem dX7_alone_121 : decode cX7_alone 121 = .ok (.invokevirtual 89, 3) := by decide +kernel
theorem dX7_alone_124 : decode cX7_alone 124 = .ok (.goto 7, 3) := by decide +kernel
theorem dX7_alone_127 : decode cX7_alone 127 = .ok (.aload_n 0, 1) := by decide +kernel
theorem dX7_alone_128 : decode cX7_alone 128 = .ok (.getfield 161, 3) := by decide +kernel
theorem dX7_alone_131 : decode cX7_alone 131 = .ok (.putfield 161, 3) := by decide +kernel
theorem dX7_alone_134 : decode cX7_alone 134 = .ok (.aload_n 0, 1) := by decide +kernel
theorem dX7_alone_135 : decode cX7_alone 135 = .ok (.dup, 1) := by decide +kernel
theorem dX7_alone_136 : decode cX7_alone 136 = .ok (.getfield 164, 3) := by decide +kernel
theorem dX7_alone_139 : decode cX7_alone 139 = .ok (.aload_n 0, 1) := by decide +kernel
theorem dX7_alone_140 : decode cX7_alone 140 = .ok (.iload_n 1, 1) := by decide +kernel
theorem dX7_alone_141 : decode cX7_alone 141 = .ok (.bipush 6, 2) := by decide +kernel
theorem dX7_alone_143 : decode cX7_alone 143 = .ok (.invokevirtual 89, 3) := by decide +kernel
theorem dX7_alone_146 : decode cX7_alone 146 = .ok (.iconst 2, 1) := by decide +kernel
theorem dX7_alone_147 : decode cX7_alone 147 = .ok (.if_icmp .ne 7, 3) := by decide +kernel
theorem dX7_alone_150 : decode cX7_alone 150 = .ok (.iconst 0, 1) := by decide +kernel
theorem dX7_alone_151 : decode cX7_alone 151 = .ok (.goto 11, 3) := by decide +kernel
theorem dX7_alone_154 : decode cX7_alone 154 = .ok (.iconst 1, 1) := by decide +kernel
theorem dX7_alone_155 : decode cX7_alone 155 = .ok (.aload_n 0, 1) := by decide +kernel
theorem dX7_alone_156 : decode cX7_alone 156 = .ok (.iload_n 1, 1) := by decide +kernel
theorem dX7_alone_157 : decode cX7_alone 157 = .ok (.iconst 4, 1) := by decide +kernel
theorem dX7_alone_158 : decode cX7_alone 158 = .ok (.invokevirtual 89, 3) := by decide +kernel
theorem dX7_alone_161 : decode cX7_alone 161 = .ok (.ishl, 1) := by decide +kernel
theorem dX7_alone_162 : decode cX7_alone 162 = .ok (.ior, 1) := by decide +kernel
theorem dX7_alone_163 : decode cX7_alone 163 = .ok (.putfield 164, 3) := by decide +kernel
theorem dX7_alone_166 : decode cX7_alone 166 = .ok (.goto (-109), 3) := by decide +kernel
theorem dX7_alone_169 : decode cX7_alone 169 = .ok (.aload_n 0, 1) := by decide +kernel
theorem dX7_alone_170 : decode cX7_alone 170 = .ok (.aload_n 0, 1) := by decide +kernel
theorem dX7_alone_171 : decode cX7_alone 171 = .ok (.iload_n 1, 1) := by decide +kernel
theorem dX7_alone_172 : decode cX7_alone 172 = .ok (.bipush 6, 2) := by decide +kernel
theorem dX7_alone_174 : decode cX7_alone 174 = .ok (.invokevirtual 89, 3) := by decide +kernel
theorem dX7_alone_177 : decode cX7_alone 177 = .ok (.putfield 167, 3) := by decide +kernel
theorem dX7_alone_180 : decode cX7_alone 180 = .ok (.aload_n 0, 1) := by decide +kernel
theorem dX7_alone_181 : decode cX7_alone 181 = .ok (.aload_n 0, 1) := by decide +kernel
theorem dX7_alone_182 : decode cX7_alone 182 = .ok (.getfield 167, 3) := by decide +kernel
theorem dX7_alone_185 : decode cX7_alone 185 = .ok (.iconst 2, 1) := by decide +kernel
theorem dX7_alone_186 : decode cX7_alone 186 = .ok (.if_icmp .ne 7, 3) := by decide +kernel
theorem dX7_alone_189 : decode cX7_alone 189 = .ok (.iconst (-1), 1) := by decide +kernel
end
section
theorem dX7_alone_190 : decode cX7_alone 190 = .ok (.goto 9, 3) := by decide +kernel
theorem dX7_alone_193 : decode cX7_alone 193 = .ok (.aload_n 0, 1) := by decide +kernel
theorem dX7_alone_194 : decode cX7_alone 194 = .ok (.iload_n 1, 1) := by decide +kernel
theorem dX7_alone_195 : decode cX7_alone 195 = .ok (.iconst 4, 1) := by decide +kernel
theorem dX7_alone_196 : decode cX7_alone 196 = .ok (.invokevirtual 89, 3) := by decide +kernel
theorem dX7_alone_199 : decode cX7_alone 199 = .ok (.putfield 170, 3) := by decide +kernel
theorem dX7_alone_202 : decode cX7_alone 202 = .ok (.aload_n 0, 1) := by decide +kernel
theorem dX7_alone_203 : decode cX7_alone 203 = .ok (.getfield 7, 3) := by decide +kernel
theorem dX7_alone_206 : decode cX7_alone 206 = .ok (.iload_n 1, 1) := by decide +kernel
theorem dX7_alone_207 : decode cX7_alone 207 = .ok (.iconst 4, 1) := by decide +kernel
theorem dX7_alone_208 : decode cX7_alone 208 = .ok (.invokestatic 72, 3) := by decide +kernel
theorem dX7_alone_211 : decode cX7_alone 211 = .ok (.iload_n 3, 1) := by decide +kernel
theorem dX7_alone_212 : decode cX7_alone 212 = .ok (.iastore, 1) := by decide +kernel
theorem dX7_alone_213 : decode cX7_alone 213 = .ok (.aload_n 0, 1) := by decide +kernel
theorem dX7_alone_214 : decode cX7_alone 214 = .ok (.getfield 7, 3) := by decide +kernel
theorem dX7_alone_217 : decode cX7_alone 217 = .ok (.iload_n 1, 1) := by decide +kernel
theorem dX7_alone_218 : decode cX7_alone 218 = .ok (.iconst 5, 1) := by decide +kernel
theorem dX7_alone_219 : decode cX7_alone 219 = .ok (.invokestatic 72, 3) := by decide +kernel
theorem dX7_alone_222 : decode cX7_alone 222 = .ok (.iload 4, 2) := by decide +kernel
theorem dX7_alone_224 : decode cX7_alone 224 = .ok (.iastore, 1) := by decide +kernel
theorem dX7_alone_225 : decode cX7_alone 225 = .ok (.aload_n 0, 1) := by decide +kernel
theorem dX7_alone_226 : decode cX7_alone 226 = .ok (.getfield 7, 3) := by decide +kernel
theorem dX7_alone_229 : decode cX7_alone 229 = .ok (.iload_n 1, 1) := by decide +kernel
theorem dX7_alone_230 : decode cX7_alone 230 = .ok (.bipush 6, 2) := by decide +kernel
theorem dX7_alone_232 : decode cX7_alone 232 = .ok (.invokestatic 72, 3) := by decide +kernel
theorem dX7_alone_235 : decode cX7_alone 235 = .ok (.iload 5, 2) := by decide +kernel
theorem dX7_alone_237 : decode cX7_alone 237 = .ok (.iastore, 1) := by decide +kernel
theorem dX7_alone_238 : decode cX7_alone 238 = .ok (.return_, 1) := by decide +kernel
theorem dX7_rollWrong_0 : decode cX7_rollWrong 0 = .ok (.aload_n 0, 1) := by decide +kernel
theorem dX7_rollWrong_1 : decode cX7_rollWrong 1 = .ok (.iload_n 1, 1) := by decide +kernel
theorem dX7_rollWrong_2 : decode cX7_rollWrong 2 = .ok (.invokevirtual 92, 3) := by decide +kernel
theorem dX7_rollWrong_5 : decode cX7_rollWrong 5 = .ok (.ifCond .ne 6, 3) := by decide +kernel
theorem dX7_rollWrong_8 : decode cX7_rollWrong 8 = .ok (.ldc 43, 2) := by decide +kernel
theorem dX7_rollWrong_10 : decode cX7_rollWrong 10 = .ok (.ireturn, 1) := by decide +kernel
theorem dX7_rollWrong_11 : decode cX7_rollWrong 11 = .ok (.aload_n 0, 1) := by decide +kernel
theorem dX7_rollWrong_12 : decode cX7_rollWrong 12 = .ok (.iload_n 1, 1) := by decide +kernel
theorem dX7_rollWrong_13 : decode cX7_rollWrong 13 = .ok (.invokevirtual 114, 3) := by decide +kernel
theorem dX7_rollWrong_16 : decode cX7_rollWrong 16 = .ok (.ifCond .eq 24, 3) := by decide +kernel
theorem dX7_rollWrong_19 : decode cX7_rollWrong 19 = .ok (.aload_n 0, 1) := by decide +kernel
theorem dX7_rollWrong_20 : decode cX7_rollWrong 20 = .ok (.iload_n 1, 1) := by decide +kernel
theorem dX7_rollWrong_21 : decode cX7_rollWrong 21 = .ok (.iconst 4, 1) := by decide +kernel
theorem dX7_rollWrong_22 : decode cX7_rollWrong 22 = .ok (.invokevirtual 89, 3) := by decide +kernel
theorem dX7_rollWrong_25 : decode cX7_rollWrong 25 = .ok (.bipush 30, 2) := by decide +kernel
theorem dX7_rollWrong_27 : decode cX7_rollWrong 27 = .ok (.if_icmp .eq 13, 3) := by decide +kernel
theorem dX7_rollWrong_30 : decode cX7_rollWrong 30 = .ok (.aload_n 0, 1) := by decide +kernel
theorem dX7_rollWrong_31 : decode cX7_rollWrong 31 = .ok (.sipush 200, 3) := by decide +kernel
theorem dX7_rollWrong_34 : decode cX7_rollWrong 34 = .ok (.invokevirtual 132, 3) := by decide +kernel
theorem dX7_rollWrong_37 : decode cX7_rollWrong 37 = .ok (.ifCond .eq 6, 3) := by decide +kernel
theorem dX7_rollWrong_40 : decode cX7_rollWrong 40 = .ok (.ldc 109, 2) := by decide +kernel
theorem dX7_rollWrong_42 : decode cX7_rollWrong 42 = .ok (.ireturn, 1) := by decide +kernel
theorem dX7_rollWrong_43 : decode cX7_rollWrong 43 = .ok (.aload_n 0, 1) := by decide +kernel
theorem dX7_rollWrong_44 : decode cX7_rollWrong 44 = .ok (.iload_n 1, 1) := by decide +kernel
theorem dX7_rollWrong_45 : decode cX7_rollWrong 45 = .ok (.bipush 10, 2) := by decide +kernel
theorem dX7_rollWrong_47 : decode cX7_rollWrong 47 = .ok (.invokevirtual 173, 3) := by decide +kernel
theorem dX7_rollWrong_50 : decode cX7_rollWrong 50 = .ok (.iconst 0, 1) := by decide +kernel
theorem dX7_rollWrong_51 : decode cX7_rollWrong 51 = .ok (.ireturn, 1) := by decide +kernel
theorem dX7_ends_0 : decode cX7_ends 0 = .ok (.aload_n 0, 1) := by decide +kernel
theorem dX7_ends_1 : decode cX7_ends 1 = .ok (.iload_n 1, 1) := by decide +kernel
theorem dX7_ends_2 : decode cX7_ends 2 = .ok (.invokevirtual 176, 3) := by decide +kernel
theorem dX7_ends_5 : decode cX7_ends 5 = .ok (.istore_n 2, 1) := by decide +kernel
theorem dX7_ends_6 : decode cX7_ends 6 = .ok (.iload_n 2, 1) := by decide +kernel
theorem dX7_ends_7 : decode cX7_ends 7 = .ok (.ifCond .eq 9, 3) := by decide +kernel
theorem dX7_ends_10 : decode cX7_ends 10 = .ok (.aload_n 0, 1) := by decide +kernel
theorem dX7_ends_11 : decode cX7_ends 11 = .ok (.iload_n 2, 1) := by decide +kernel
theorem dX7_ends_12 : decode cX7_ends 12 = .ok (.invokevirtual 59, 3) := by decide +kernel
theorem dX7_ends_15 : decode cX7_ends 15 = .ok (.ireturn, 1) := by decide +kernel
theorem dX7_ends_16 : decode cX7_ends 16 = .ok (.aload_n 0, 1) := by decide +kernel
theorem dX7_ends_17 : decode cX7_ends 17 = .ok (.getfield 167, 3) := by decide +kernel
theorem dX7_ends_20 : decode cX7_ends 20 = .ok (.iconst 1, 1) := by decide +kernel
theorem dX7_ends_21 : decode cX7_ends 21 = .ok (.if_icmp .ne 12, 3) := by decide +kernel
theorem dX7_ends_24 : decode cX7_ends 24 = .ok (.aload_n 0, 1) := by decide +kernel
theorem dX7_ends_25 : decode cX7_ends 25 = .ok (.ldc 157, 2) := by decide +kernel
theorem dX7_ends_27 : decode cX7_ends 27 = .ok (.invokevirtual 59, 3) := by decide +kernel
theorem dX7_ends_30 : decode cX7_ends 30 = .ok (.goto 7, 3) := by decide +kernel
theorem dX7_ends_33 : decode cX7_ends 33 = .ok (.aload_n 0, 1) := by decide +kernel
theorem dX7_ends_34 : decode cX7_ends 34 = .ok (.getfield 170, 3) := by decide +kernel
theorem dX7_ends_37 : decode cX7_ends 37 = .ok (.ireturn, 1) := by decide +kernel
theorem dX7_takes_0 : decode cX7_takes 0 = .ok (.aload_n 0, 1) := by decide +kernel
theorem dX7_takes_1 : decode cX7_takes 1 = .ok (.iload_n 1, 1) := by decide +kernel
theorem dX7_takes_2 : decode cX7_takes 2 = .ok (.invokevirtual 176, 3) := by decide +kernel
theorem dX7_takes_5 : decode cX7_takes 5 = .ok (.istore_n 2, 1) := by decide +kernel
theorem dX7_takes_6 : decode cX7_takes 6 = .ok (.iload_n 2, 1) := by decide +kernel
theorem dX7_takes_7 : decode cX7_takes 7 = .ok (.ifCond .eq 9, 3) := by decide +kernel
theorem dX7_takes_10 : decode cX7_takes 10 = .ok (.aload_n 0, 1) := by decide +kernel
theorem dX7_takes_11 : decode cX7_takes 11 = .ok (.iload_n 2, 1) := by decide +kernel
theorem dX7_takes_12 : decode cX7_takes 12 = .ok (.invokevirtual 59, 3) := by decide +kernel
theorem dX7_takes_15 : decode cX7_takes 15 = .ok (.ireturn, 1) := by decide +kernel
theorem dX7_takes_16 : decode cX7_takes 16 = .ok (.aload_n 0, 1) := by decide +kernel
theorem dX7_takes_17 : decode cX7_takes 17 = .ok (.getfield 167, 3) := by decide +kernel
theorem dX7_takes_20 : decode cX7_takes 20 = .ok (.iconst 1, 1) := by decide +kernel
theorem dX7_takes_21 : decode cX7_takes 21 = .ok (.if_icmp .ne 12, 3) := by decide +kernel
theorem dX7_takes_24 : decode cX7_takes 24 = .ok (.aload_n 0, 1) := by decide +kernel
theorem dX7_takes_25 : decode cX7_takes 25 = .ok (.ldc 157, 2) := by decide +kernel
theorem dX7_takes_27 : decode cX7_takes 27 = .ok (.invokevirtual 59, 3) := by decide +kernel
theorem dX7_takes_30 : decode cX7_takes 30 = .ok (.goto 7, 3) := by decide +kernel
theorem dX7_takes_33 : decode cX7_takes 33 = .ok (.aload_n 0, 1) := by decide +kernel
theorem dX7_takes_34 : decode cX7_takes 34 = .ok (.getfield 158, 3) := by decide +kernel
theorem dX7_takes_37 : decode cX7_takes 37 = .ok (.ireturn, 1) := by decide +kernel
theorem dX7_speed_0 : decode cX7_speed 0 = .ok (.aload_n 0, 1) := by decide +kernel
theorem dX7_speed_1 : decode cX7_speed 1 = .ok (.iload_n 1, 1) := by decide +kernel
theorem dX7_speed_2 : decode cX7_speed 2 = .ok (.invokevirtual 176, 3) := by decide +kernel
theorem dX7_speed_5 : decode cX7_speed 5 = .ok (.istore_n 2, 1) := by decide +kernel
theorem dX7_speed_6 : decode cX7_speed 6 = .ok (.iload_n 2, 1) := by decide +kernel
theorem dX7_speed_7 : decode cX7_speed 7 = .ok (.ifCond .eq 11, 3) := by decide +kernel
theorem dX7_speed_10 : decode cX7_speed 10 = .ok (.aload_n 0, 1) := by decide +kernel
theorem dX7_speed_11 : decode cX7_speed 11 = .ok (.iload_n 2, 1) := by decide +kernel
theorem dX7_speed_12 : decode cX7_speed 12 = .ok (.invokevirtual 59, 3) := by decide +kernel
theorem dX7_speed_15 : decode cX7_speed 15 = .ok (.goto 7, 3) := by decide +kernel
theorem dX7_speed_18 : decode cX7_speed 18 = .ok (.aload_n 0, 1) := by decide +kernel
theorem dX7_speed_19 : decode cX7_speed 19 = .ok (.getfield 161, 3) := by decide +kernel
theorem dX7_speed_22 : decode cX7_speed 22 = .ok (.ireturn, 1) := by decide +kernel
theorem dX7_seen_0 : decode cX7_seen 0 = .ok (.aload_n 0, 1) := by decide +kernel
theorem dX7_seen_1 : decode cX7_seen 1 = .ok (.iload_n 1, 1) := by decide +kernel
theorem dX7_seen_2 : decode cX7_seen 2 = .ok (.invokevirtual 176, 3) := by decide +kernel
theorem dX7_seen_5 : decode cX7_seen 5 = .ok (.istore_n 2, 1) := by decide +kernel
theorem dX7_seen_6 : decode cX7_seen 6 = .ok (.iload_n 2, 1) := by decide +kernel
theorem dX7_seen_7 : decode cX7_seen 7 = .ok (.ifCond .eq 11, 3) := by decide +kernel
theorem dX7_seen_10 : decode cX7_seen 10 = .ok (.aload_n 0, 1) := by decide +kernel
theorem dX7_seen_11 : decode cX7_seen 11 = .ok (.iload_n 2, 1) := by decide +kernel
theorem dX7_seen_12 : decode cX7_seen 12 = .ok (.invokevirtual 59, 3) := by decide +kernel
theorem dX7_seen_15 : decode cX7_seen 15 = .ok (.goto 7, 3) := by decide +kernel
theorem dX7_seen_18 : decode cX7_seen 18 = .ok (.aload_n 0, 1) := by decide +kernel
theorem dX7_seen_19 : decode cX7_seen 19 = .ok (.getfield 164, 3) := by decide +kernel
theorem dX7_seen_22 : decode cX7_seen 22 = .ok (.ireturn, 1) := by decide +kernel
theorem dX7_sand_0 : decode cX7_sand 0 = .ok (.iload_n 2, 1) := by decide +kernel
theorem dX7_sand_1 : decode cX7_sand 1 = .ok (.invokestatic 51, 3) := by decide +kernel
theorem dX7_sand_4 : decode cX7_sand 4 = .ok (.ifCond .ne 10, 3) := by decide +kernel
theorem dX7_sand_7 : decode cX7_sand 7 = .ok (.aload_n 0, 1) := by decide +kernel
theorem dX7_sand_8 : decode cX7_sand 8 = .ok (.ldc 43, 2) := by decide +kernel
theorem dX7_sand_10 : decode cX7_sand 10 = .ok (.invokevirtual 59, 3) := by decide +kernel
theorem dX7_sand_13 : decode cX7_sand 13 = .ok (.ireturn, 1) := by decide +kernel
theorem dX7_sand_14 : decode cX7_sand 14 = .ok (.aload_n 0, 1) := by decide +kernel
theorem dX7_sand_15 : decode cX7_sand 15 = .ok (.iload_n 1, 1) := by decide +kernel
theorem dX7_sand_16 : decode cX7_sand 16 = .ok (.invokevirtual 176, 3) := by decide +kernel
theorem dX7_sand_19 : decode cX7_sand 19 = .ok (.istore_n 3, 1) := by decide +kernel
theorem dX7_sand_20 : decode cX7_sand 20 = .ok (.iload_n 3, 1) := by decide +kernel
theorem dX7_sand_21 : decode cX7_sand 21 = .ok (.ifCond .eq 9, 3) := by decide +kernel
theorem dX7_sand_24 : decode cX7_sand 24 = .ok (.aload_n 0, 1) := by decide +kernel
theorem dX7_sand_25 : decode cX7_sand 25 = .ok (.iload_n 3, 1) := by decide +kernel
theorem dX7_sand_26 : decode cX7_sand 26 = .ok (.invokevirtual 59, 3) := by decide +kernel
theorem dX7_sand_29 : decode cX7_sand 29 = .ok (.ireturn, 1) := by decide +kernel
theorem dX7_sand_30 : decode cX7_sand 30 = .ok (.iconst (-1), 1) := by decide +kernel
theorem dX7_sand_31 : decode cX7_sand 31 = .ok (.istore 4, 2) := by decide +kernel
theorem dX7_sand_33 : decode cX7_sand 33 = .ok (.iconst 0, 1) := by decide +kernel
theorem dX7_sand_34 : decode cX7_sand 34 = .ok (.istore 5, 2) := by decide +kernel
theorem dX7_sand_36 : decode cX7_sand 36 = .ok (.iload 5, 2) := by decide +kernel
theorem dX7_sand_38 : decode cX7_sand 38 = .ok (.bipush 31, 2) := by decide +kernel
theorem dX7_sand_40 : decode cX7_sand 40 = .ok (.if_icmp .ge 79, 3) := by decide +kernel
theorem dX7_sand_43 : decode cX7_sand 43 = .ok (.iload 4, 2) := by decide +kernel
theorem dX7_sand_45 : decode cX7_sand 45 = .ok (.ifCond .ge 74, 3) := by decide +kernel
theorem dX7_sand_48 : decode cX7_sand 48 = .ok (.aload_n 0, 1) := by decide +kernel
theorem dX7_sand_49 : decode cX7_sand 49 = .ok (.getfield 7, 3) := by decide +kernel
theorem dX7_sand_52 : decode cX7_sand 52 = .ok (.bipush 36, 2) := by decide +kernel
theorem dX7_sand_54 : decode cX7_sand 54 = .ok (.iload 5, 2) := by decide +kernel
theorem dX7_sand_56 : decode cX7_sand 56 = .ok (.iadd, 1) := by decide +kernel
theorem dX7_sand_57 : decode cX7_sand 57 = .ok (.iaload, 1) := by decide +kernel
theorem dX7_sand_58 : decode cX7_sand 58 = .ok (.istore 6, 2) := by decide +kernel
theorem dX7_sand_60 : decode cX7_sand 60 = .ok (.aload_n 0, 1) := by decide +kernel
theorem dX7_sand_61 : decode cX7_sand 61 = .ok (.getfield 7, 3) := by decide +kernel
theorem dX7_sand_64 : decode cX7_sand 64 = .ok (.bipush 36, 2) := by decide +kernel
theorem dX7_sand_66 : decode cX7_sand 66 = .ok (.iload 5, 2) := by decide +kernel
theorem dX7_sand_68 : decode cX7_sand 68 = .ok (.iadd, 1) := by decide +kernel
theorem dX7_sand_69 : decode cX7_sand 69 = .ok (.iconst 1, 1) := by decide +kernel
theorem dX7_sand_70 : decode cX7_sand 70 = .ok (.iastore, 1) := by decide +kernel
theorem dX7_sand_71 : decode cX7_sand 71 = .ok (.aload_n 0, 1) := by decide +kernel
theorem dX7_sand_72 : decode cX7_sand 72 = .ok (.iload_n 1, 1) := by decide +kernel
theorem dX7_sand_73 : decode cX7_sand 73 = .ok (.bipush 10, 2) := by decide +kernel
theorem dX7_sand_75 : decode cX7_sand 75 = .ok (.invokevirtual 173, 3) := by decide +kernel
theorem dX7_sand_78 : decode cX7_sand 78 = .ok (.aload_n 0, 1) := by decide +kernel
theorem dX7_sand_79 : decode cX7_sand 79 = .ok (.getfield 7, 3) := by decide +kernel
theorem dX7_sand_82 : decode cX7_sand 82 = .ok (.bipush 36, 2) := by decide +kernel
theorem dX7_sand_84 : decode cX7_sand 84 = .ok (.iload 5, 2) := by decide +kernel
theorem dX7_sand_86 : decode cX7_sand 86 = .ok (.iadd, 1) := by decide +kernel
theorem dX7_sand_87 : decode cX7_sand 87 = .ok (.iload 6, 2) := by decide +kernel
theorem dX7_sand_89 : decode cX7_sand 89 = .ok (.iastore, 1) := by decide +kernel
theorem dX7_sand_90 : decode cX7_sand 90 = .ok (.aload_n 0, 1) := by decide +kernel
theorem dX7_sand_91 : decode cX7_sand 91 = .ok (.getfield 167, 3) := by decide +kernel
theorem dX7_sand_94 : decode cX7_sand 94 = .ok (.ifCond .ne 16, 3) := by decide +kernel
theorem dX7_sand_97 : decode cX7_sand 97 = .ok (.aload_n 0, 1) := by decide +kernel
theorem dX7_sand_98 : decode cX7_sand 98 = .ok (.getfield 170, 3) := by decide +kernel
theorem dX7_sand_101 : decode cX7_sand 101 = .ok (.iload_n 2, 1) := by decide +kernel
theorem dX7_sand_102 : decode cX7_sand 102 = .ok (.if_icmp .ne 8, 3) := by decide +kernel
theorem dX7_sand_105 : decode cX7_sand 105 = .ok (.iload 5, 2) := by decide +kernel
theorem dX7_sand_107 : decode cX7_sand 107 = .ok (.goto 4, 3) := by decide +kernel
theorem dX7_sand_110 : decode cX7_sand 110 = .ok (.iconst (-1), 1) := by decide +kernel
theorem dX7_sand_111 : decode cX7_sand 111 = .ok (.istore 4, 2) := by decide +kernel
theorem dX7_sand_113 : decode cX7_sand 113 = .ok (.iinc 5 1, 3) := by decide +kernel
theorem dX7_sand_116 : decode cX7_sand 116 = .ok (.goto (-80), 3) := by decide +kernel
theorem dX7_sand_119 : decode cX7_sand 119 = .ok (.iload 4, 2) := by decide +kernel
theorem dX7_sand_121 : decode cX7_sand 121 = .ok (.ifCond .ge 12, 3) := by decide +kernel
theorem dX7_sand_124 : decode cX7_sand 124 = .ok (.aload_n 0, 1) := by decide +kernel
theorem dX7_sand_125 : decode cX7_sand 125 = .ok (.ldc 157, 2) := by decide +kernel
theorem dX7_sand_127 : decode cX7_sand 127 = .ok (.invokevirtual 59, 3) := by decide +kernel
theorem dX7_sand_130 : decode cX7_sand 130 = .ok (.goto 5, 3) := by decide +kernel
theorem dX7_sand_133 : decode cX7_sand 133 = .ok (.iload 4, 2) := by decide +kernel
theorem dX7_sand_135 : decode cX7_sand 135 = .ok (.ireturn, 1) := by decide +kernel
theorem dX7_rollsFor_0 : decode cX7_rollsFor 0 = .ok (.aload_n 0, 1) := by decide +kernel
theorem dX7_rollsFor_1 : decode cX7_rollsFor 1 = .ok (.iload_n 1, 1) := by decide +kernel
theorem dX7_rollsFor_2 : decode cX7_rollsFor 2 = .ok (.invokevirtual 176, 3) := by decide +kernel
theorem dX7_rollsFor_5 : decode cX7_rollsFor 5 = .ok (.istore_n 2, 1) := by decide +kernel
theorem dX7_rollsFor_6 : decode cX7_rollsFor 6 = .ok (.iload_n 2, 1) := by decide +kernel
theorem dX7_rollsFor_7 : decode cX7_rollsFor 7 = .ok (.ifCond .eq 9, 3) := by decide +kernel
theorem dX7_rollsFor_10 : decode cX7_rollsFor 10 = .ok (.aload_n 0, 1) := by decide +kernel
theorem dX7_rollsFor_11 : decode cX7_rollsFor 11 = .ok (.iload_n 2, 1) := by decide +kernel
theorem dX7_rollsFor_12 : decode cX7_rollsFor 12 = .ok (.invokevirtual 59, 3) := by decide +kernel
theorem dX7_rollsFor_15 : decode cX7_rollsFor 15 = .ok (.ireturn, 1) := by decide +kernel
theorem dX7_rollsFor_16 : decode cX7_rollsFor 16 = .ok (.aload_n 0, 1) := by decide +kernel
theorem dX7_rollsFor_17 : decode cX7_rollsFor 17 = .ok (.iload_n 1, 1) := by decide +kernel
theorem dX7_rollsFor_18 : decode cX7_rollsFor 18 = .ok (.iconst 2, 1) := by decide +kernel
theorem dX7_rollsFor_19 : decode cX7_rollsFor 19 = .ok (.invokevirtual 89, 3) := by decide +kernel
theorem dX7_rollsFor_22 : decode cX7_rollsFor 22 = .ok (.istore_n 3, 1) := by decide +kernel
theorem dX7_rollsFor_23 : decode cX7_rollsFor 23 = .ok (.iconst (-1), 1) := by decide +kernel
theorem dX7_rollsFor_24 : decode cX7_rollsFor 24 = .ok (.istore 4, 2) := by decide +kernel
theorem dX7_rollsFor_26 : decode cX7_rollsFor 26 = .ok (.iconst 1, 1) := by decide +kernel
theorem dX7_rollsFor_27 : decode cX7_rollsFor 27 = .ok (.istore 5, 2) := by decide +kernel
theorem dX7_rollsFor_29 : decode cX7_rollsFor 29 = .ok (.iload 5, 2) := by decide +kernel
theorem dX7_rollsFor_31 : decode cX7_rollsFor 31 = .ok (.bipush 10, 2) := by decide +kernel
theorem dX7_rollsFor_33 : decode cX7_rollsFor 33 = .ok (.if_icmp .ge 50, 3) := by decide +kernel
theorem dX7_rollsFor_36 : decode cX7_rollsFor 36 = .ok (.iload 4, 2) := by decide +kernel
theorem dX7_rollsFor_38 : decode cX7_rollsFor 38 = .ok (.ifCond .ge 45, 3) := by decide +kernel
theorem dX7_rollsFor_41 : decode cX7_rollsFor 41 = .ok (.aload_n 0, 1) := by decide +kernel
theorem dX7_rollsFor_42 : decode cX7_rollsFor 42 = .ok (.getfield 7, 3) := by decide +kernel
theorem dX7_rollsFor_45 : decode cX7_rollsFor 45 = .ok (.iload_n 1, 1) := by decide +kernel
theorem dX7_rollsFor_46 : decode cX7_rollsFor 46 = .ok (.iconst 2, 1) := by decide +kernel
theorem dX7_rollsFor_47 : decode cX7_rollsFor 47 = .ok (.invokestatic 72, 3) := by decide +kernel
theorem dX7_rollsFor_50 : decode cX7_rollsFor 50 = .ok (.iload 5, 2) := by decide +kernel
theorem dX7_rollsFor_52 : decode cX7_rollsFor 52 = .ok (.iastore, 1) := by decide +kernel
theorem dX7_rollsFor_53 : decode cX7_rollsFor 53 = .ok (.aload_n 0, 1) := by decide +kernel
theorem dX7_rollsFor_54 : decode cX7_rollsFor 54 = .ok (.iload_n 1, 1) := by decide +kernel
theorem dX7_rollsFor_55 : decode cX7_rollsFor 55 = .ok (.bipush 10, 2) := by decide +kernel
theorem dX7_rollsFor_57 : decode cX7_rollsFor 57 = .ok (.invokevirtual 173, 3) := by decide +kernel
theorem dX7_rollsFor_60 : decode cX7_rollsFor 60 = .ok (.aload_n 0, 1) := by decide +kernel
theorem dX7_rollsFor_61 : decode cX7_rollsFor 61 = .ok (.getfield 170, 3) := by decide +kernel
theorem dX7_rollsFor_64 : decode cX7_rollsFor 64 = .ok (.bipush 30, 2) := by decide +kernel
theorem dX7_rollsFor_66 : decode cX7_rollsFor 66 = .ok (.if_icmp .ne 8, 3) := by decide +kernel
theorem dX7_rollsFor_69 : decode cX7_rollsFor 69 = .ok (.iload 5, 2) := by decide +kernel
theorem dX7_rollsFor_71 : decode cX7_rollsFor 71 = .ok (.goto 4, 3) := by decide +kernel
theorem dX7_rollsFor_74 : decode cX7_rollsFor 74 = .ok (.iconst (-1), 1) := by decide +kernel
theorem dX7_rollsFor_75 : decode cX7_rollsFor 75 = .ok (.istore 4, 2) := by decide +kernel
theorem dX7_rollsFor_77 : decode cX7_rollsFor 77 = .ok (.iinc 5 1, 3) := by decide +kernel
theorem dX7_rollsFor_80 : decode cX7_rollsFor 80 = .ok (.goto (-51), 3) := by decide +kernel
theorem dX7_rollsFor_83 : decode cX7_rollsFor 83 = .ok (.aload_n 0, 1) := by decide +kernel
theorem dX7_rollsFor_84 : decode cX7_rollsFor 84 = .ok (.getfield 7, 3) := by decide +kernel
theorem dX7_rollsFor_87 : decode cX7_rollsFor 87 = .ok (.iload_n 1, 1) := by decide +kernel
theorem dX7_rollsFor_88 : decode cX7_rollsFor 88 = .ok (.iconst 2, 1) := by decide +kernel
theorem dX7_rollsFor_89 : decode cX7_rollsFor 89 = .ok (.invokestatic 72, 3) := by decide +kernel
theorem dX7_rollsFor_92 : decode cX7_rollsFor 92 = .ok (.iload_n 3, 1) := by decide +kernel
theorem dX7_rollsFor_93 : decode cX7_rollsFor 93 = .ok (.iastore, 1) := by decide +kernel
theorem dX7_rollsFor_94 : decode cX7_rollsFor 94 = .ok (.iload 4, 2) := by decide +kernel
theorem dX7_rollsFor_96 : decode cX7_rollsFor 96 = .ok (.ifCond .ge 12, 3) := by decide +kernel
theorem dX7_rollsFor_99 : decode cX7_rollsFor 99 = .ok (.aload_n 0, 1) := by decide +kernel
theorem dX7_rollsFor_100 : decode cX7_rollsFor 100 = .ok (.ldc 157, 2) := by decide +kernel
theorem dX7_rollsFor_102 : decode cX7_rollsFor 102 = .ok (.invokevirtual 59, 3) := by decide +kernel
theorem dX7_rollsFor_105 : decode cX7_rollsFor 105 = .ok (.goto 5, 3) := by decide +kernel
theorem dX7_rollsFor_108 : decode cX7_rollsFor 108 = .ok (.iload 4, 2) := by decide +kernel
theorem dX7_rollsFor_110 : decode cX7_rollsFor 110 = .ok (.ireturn, 1) := by decide +kernel
theorem dX7_matters_0 : decode cX7_matters 0 = .ok (.aload_n 0, 1) := by decide +kernel
theorem dX7_matters_1 : decode cX7_matters 1 = .ok (.iload_n 1, 1) := by decide +kernel
theorem dX7_matters_2 : decode cX7_matters 2 = .ok (.invokevirtual 176, 3) := by decide +kernel
theorem dX7_matters_5 : decode cX7_matters 5 = .ok (.istore_n 2, 1) := by decide +kernel
theorem dX7_matters_6 : decode cX7_matters 6 = .ok (.iload_n 2, 1) := by decide +kernel
theorem dX7_matters_7 : decode cX7_matters 7 = .ok (.ifCond .eq 9, 3) := by decide +kernel
theorem dX7_matters_10 : decode cX7_matters 10 = .ok (.aload_n 0, 1) := by decide +kernel
theorem dX7_matters_11 : decode cX7_matters 11 = .ok (.iload_n 2, 1) := by decide +kernel
theorem dX7_matters_12 : decode cX7_matters 12 = .ok (.invokevirtual 59, 3) := by decide +kernel
theorem dX7_matters_15 : decode cX7_matters 15 = .ok (.ireturn, 1) := by decide +kernel
theorem dX7_matters_16 : decode cX7_matters 16 = .ok (.aload_n 0, 1) := by decide +kernel
theorem dX7_matters_17 : decode cX7_matters 17 = .ok (.getfield 170, 3) := by decide +kernel
theorem dX7_matters_20 : decode cX7_matters 20 = .ok (.istore_n 3, 1) := by decide +kernel
theorem dX7_matters_21 : decode cX7_matters 21 = .ok (.iconst 0, 1) := by decide +kernel
theorem dX7_matters_22 : decode cX7_matters 22 = .ok (.istore 4, 2) := by decide +kernel
theorem dX7_matters_24 : decode cX7_matters 24 = .ok (.iconst 0, 1) := by decide +kernel
theorem dX7_matters_25 : decode cX7_matters 25 = .ok (.istore 5, 2) := by decide +kernel
theorem dX7_matters_27 : decode cX7_matters 27 = .ok (.iload 5, 2) := by decide +kernel
theorem dX7_matters_29 : decode cX7_matters 29 = .ok (.bipush 31, 2) := by decide +kernel
theorem dX7_matters_31 : decode cX7_matters 31 = .ok (.if_icmp .ge 72, 3) := by decide +kernel
theorem dX7_matters_34 : decode cX7_matters 34 = .ok (.aload_n 0, 1) := by decide +kernel
theorem dX7_matters_35 : decode cX7_matters 35 = .ok (.getfield 7, 3) := by decide +kernel
theorem dX7_matters_38 : decode cX7_matters 38 = .ok (.bipush 36, 2) := by decide +kernel
theorem dX7_matters_40 : decode cX7_matters 40 = .ok (.iload 5, 2) := by decide +kernel
theorem dX7_matters_42 : decode cX7_matters 42 = .ok (.iadd, 1) := by decide +kernel
theorem dX7_matters_43 : decode cX7_matters 43 = .ok (.iaload, 1) := by decide +kernel
theorem dX7_matters_44 : decode cX7_matters 44 = .ok (.istore 6, 2) := by decide +kernel
theorem dX7_matters_46 : decode cX7_matters 46 = .ok (.aload_n 0, 1) := by decide +kernel
theorem dX7_matters_47 : decode cX7_matters 47 = .ok (.getfield 7, 3) := by decide +kernel
theorem dX7_matters_50 : decode cX7_matters 50 = .ok (.bipush 36, 2) := by decide +kernel
theorem dX7_matters_52 : decode cX7_matters 52 = .ok (.iload 5, 2) := by decide +kernel
theorem dX7_matters_54 : decode cX7_matters 54 = .ok (.iadd, 1) := by decide +kernel
theorem dX7_matters_55 : decode cX7_matters 55 = .ok (.iconst 0, 1) := by decide +kernel
theorem dX7_matters_56 : decode cX7_matters 56 = .ok (.iastore, 1) := by decide +kernel
theorem dX7_matters_57 : decode cX7_matters 57 = .ok (.aload_n 0, 1) := by decide +kernel
theorem dX7_matters_58 : decode cX7_matters 58 = .ok (.iload_n 1, 1) := by decide +kernel
theorem dX7_matters_59 : decode cX7_matters 59 = .ok (.bipush 10, 2) := by decide +kernel
theorem dX7_matters_61 : decode cX7_matters 61 = .ok (.invokevirtual 173, 3) := by decide +kernel
theorem dX7_matters_64 : decode cX7_matters 64 = .ok (.aload_n 0, 1) := by decide +kernel
theorem dX7_matters_65 : decode cX7_matters 65 = .ok (.getfield 7, 3) := by decide +kernel
theorem dX7_matters_68 : decode cX7_matters 68 = .ok (.bipush 36, 2) := by decide +kernel
theorem dX7_matters_70 : decode cX7_matters 70 = .ok (.iload 5, 2) := by decide +kernel
theorem dX7_matters_72 : decode cX7_matters 72 = .ok (.iadd, 1) := by decide +kernel
theorem dX7_matters_73 : decode cX7_matters 73 = .ok (.iload 6, 2) := by decide +kernel
theorem dX7_matters_75 : decode cX7_matters 75 = .ok (.iastore, 1) := by decide +kernel
theorem dX7_matters_76 : decode cX7_matters 76 = .ok (.iload 4, 2) := by decide +kernel
theorem dX7_matters_78 : decode cX7_matters 78 = .ok (.aload_n 0, 1) := by decide +kernel
theorem dX7_matters_79 : decode cX7_matters 79 = .ok (.getfield 170, 3) := by decide +kernel
theorem dX7_matters_82 : decode cX7_matters 82 = .ok (.iload_n 3, 1) := by decide +kernel
theorem dX7_matters_83 : decode cX7_matters 83 = .ok (.if_icmp .eq 10, 3) := by decide +kernel
theorem dX7_matters_86 : decode cX7_matters 86 = .ok (.iconst 1, 1) := by decide +kernel
theorem dX7_matters_87 : decode cX7_matters 87 = .ok (.iload 5, 2) := by decide +kernel
theorem dX7_matters_89 : decode cX7_matters 89 = .ok (.ishl, 1) := by decide +kernel
theorem dX7_matters_90 : decode cX7_matters 90 = .ok (.goto 4, 3) := by decide +kernel
theorem dX7_matters_93 : decode cX7_matters 93 = .ok (.iconst 0, 1) := by decide +kernel
theorem dX7_matters_94 : decode cX7_matters 94 = .ok (.ior, 1) := by decide +kernel
theorem dX7_matters_95 : decode cX7_matters 95 = .ok (.istore 4, 2) := by decide +kernel
theorem dX7_matters_97 : decode cX7_matters 97 = .ok (.iinc 5 1, 3) := by decide +kernel
theorem dX7_matters_100 : decode cX7_matters 100 = .ok (.goto (-73), 3) := by decide +kernel
theorem dX7_matters_103 : decode cX7_matters 103 = .ok (.iload 4, 2) := by decide +kernel
theorem dX7_matters_105 : decode cX7_matters 105 = .ok (.ireturn, 1) := by decide +kernel
theorem dX7_kindFor_0 : decode cX7_kindFor 0 = .ok (.aload_n 0, 1) := by decide +kernel
theorem dX7_kindFor_1 : decode cX7_kindFor 1 = .ok (.iload_n 1, 1) := by decide +kernel
theorem dX7_kindFor_2 : decode cX7_kindFor 2 = .ok (.invokevirtual 176, 3) := by decide +kernel
theorem dX7_kindFor_5 : decode cX7_kindFor 5 = .ok (.istore_n 2, 1) := by decide +kernel
theorem dX7_kindFor_6 : decode cX7_kindFor 6 = .ok (.iload_n 2, 1) := by decide +kernel
theorem dX7_kindFor_7 : decode cX7_kindFor 7 = .ok (.ifCond .eq 9, 3) := by decide +kernel
theorem dX7_kindFor_10 : decode cX7_kindFor 10 = .ok (.aload_n 0, 1) := by decide +kernel
theorem dX7_kindFor_11 : decode cX7_kindFor 11 = .ok (.iload_n 2, 1) := by decide +kernel
theorem dX7_kindFor_12 : decode cX7_kindFor 12 = .ok (.invokevirtual 59, 3) := by decide +kernel
theorem dX7_kindFor_15 : decode cX7_kindFor 15 = .ok (.ireturn, 1) := by decide +kernel
theorem dX7_kindFor_16 : decode cX7_kindFor 16 = .ok (.aload_n 0, 1) := by decide +kernel
theorem dX7_kindFor_17 : decode cX7_kindFor 17 = .ok (.iload_n 1, 1) := by decide +kernel
theorem dX7_kindFor_18 : decode cX7_kindFor 18 = .ok (.iconst 0, 1) := by decide +kernel
theorem dX7_kindFor_19 : decode cX7_kindFor 19 = .ok (.invokevirtual 89, 3) := by decide +kernel
theorem dX7_kindFor_22 : decode cX7_kindFor 22 = .ok (.istore_n 3, 1) := by decide +kernel
theorem dX7_kindFor_23 : decode cX7_kindFor 23 = .ok (.iconst (-1), 1) := by decide +kernel
theorem dX7_kindFor_24 : decode cX7_kindFor 24 = .ok (.istore 4, 2) := by decide +kernel
theorem dX7_kindFor_26 : decode cX7_kindFor 26 = .ok (.iconst 0, 1) := by decide +kernel
theorem dX7_kindFor_27 : decode cX7_kindFor 27 = .ok (.istore 5, 2) := by decide +kernel
theorem dX7_kindFor_29 : decode cX7_kindFor 29 = .ok (.iconst 0, 1) := by decide +kernel
theorem dX7_kindFor_30 : decode cX7_kindFor 30 = .ok (.istore 6, 2) := by decide +kernel
theorem dX7_kindFor_32 : decode cX7_kindFor 32 = .ok (.iload 6, 2) := by decide +kernel
theorem dX7_kindFor_34 : decode cX7_kindFor 34 = .ok (.bipush 7, 2) := by decide +kernel
theorem dX7_kindFor_36 : decode cX7_kindFor 36 = .ok (.if_icmp .ge 52, 3) := by decide +kernel
theorem dX7_kindFor_39 : decode cX7_kindFor 39 = .ok (.aload_n 0, 1) := by decide +kernel
theorem dX7_kindFor_40 : decode cX7_kindFor 40 = .ok (.getfield 7, 3) := by decide +kernel
theorem dX7_kindFor_43 : decode cX7_kindFor 43 = .ok (.iload_n 1, 1) := by decide +kernel
theorem dX7_kindFor_44 : decode cX7_kindFor 44 = .ok (.iconst 0, 1) := by decide +kernel
theorem dX7_kindFor_45 : decode cX7_kindFor 45 = .ok (.invokestatic 72, 3) := by decide +kernel
theorem dX7_kindFor_48 : decode cX7_kindFor 48 = .ok (.iload 6, 2) := by decide +kernel
theorem dX7_kindFor_50 : decode cX7_kindFor 50 = .ok (.iastore, 1) := by decide +kernel
theorem dX7_kindFor_51 : decode cX7_kindFor 51 = .ok (.aload_n 0, 1) := by decide +kernel
theorem dX7_kindFor_52 : decode cX7_kindFor 52 = .ok (.iload_n 1, 1) := by decide +kernel
theorem dX7_kindFor_53 : decode cX7_kindFor 53 = .ok (.bipush 10, 2) := by decide +kernel
theorem dX7_kindFor_55 : decode cX7_kindFor 55 = .ok (.invokevirtual 173, 3) := by decide +kernel
theorem dX7_kindFor_58 : decode cX7_kindFor 58 = .ok (.iload 4, 2) := by decide +kernel
theorem dX7_kindFor_60 : decode cX7_kindFor 60 = .ok (.ifCond .lt 12, 3) := by decide +kernel
theorem dX7_kindFor_63 : decode cX7_kindFor 63 = .ok (.aload_n 0, 1) := by decide +kernel
theorem dX7_kindFor_64 : decode cX7_kindFor 64 = .ok (.getfield 170, 3) := by decide +kernel
theorem dX7_kindFor_67 : decode cX7_kindFor 67 = .ok (.iload 5, 2) := by decide +kernel
theorem dX7_kindFor_69 : decode cX7_kindFor 69 = .ok (.if_icmp .le 13, 3) := by decide +kernel
theorem dX7_kindFor_72 : decode cX7_kindFor 72 = .ok (.iload 6, 2) := by decide +kernel
theorem dX7_kindFor_74 : decode cX7_kindFor 74 = .ok (.istore 4, 2) := by decide +kernel
theorem dX7_kindFor_76 : decode cX7_kindFor 76 = .ok (.aload_n 0, 1) := by decide +kernel
theorem dX7_kindFor_77 : decode cX7_kindFor 77 = .ok (.getfield 170, 3) := by decide +kernel
theorem dX7_kindFor_80 : decode cX7_kindFor 80 = .ok (.istore 5, 2) := by decide +kernel
theorem dX7_kindFor_82 : decode cX7_kindFor 82 = .ok (.iinc 6 1, 3) := by decide +kernel
theorem dX7_kindFor_85 : decode cX7_kindFor 85 = .ok (.goto (-53), 3) := by decide +kernel
theorem dX7_kindFor_88 : decode cX7_kindFor 88 = .ok (.aload_n 0, 1) := by decide +kernel
theorem dX7_kindFor_89 : decode cX7_kindFor 89 = .ok (.getfield 7, 3) := by decide +kernel
theorem dX7_kindFor_92 : decode cX7_kindFor 92 = .ok (.iload_n 1, 1) := by decide +kernel
theorem dX7_kindFor_93 : decode cX7_kindFor 93 = .ok (.iconst 0, 1) := by decide +kernel
theorem dX7_kindFor_94 : decode cX7_kindFor 94 = .ok (.invokestatic 72, 3) := by decide +kernel
theorem dX7_kindFor_97 : decode cX7_kindFor 97 = .ok (.iload_n 3, 1) := by decide +kernel
theorem dX7_kindFor_98 : decode cX7_kindFor 98 = .ok (.iastore, 1) := by decide +kernel
theorem dX7_kindFor_99 : decode cX7_kindFor 99 = .ok (.iload 4, 2) := by decide +kernel
theorem dX7_kindFor_101 : decode cX7_kindFor 101 = .ok (.ireturn, 1) := by decide +kernel
theorem dX7_isQuiet_0 : decode cX7_isQuiet 0 = .ok (.iconst 1, 1) := by decide +kernel
theorem dX7_isQuiet_1 : decode cX7_isQuiet 1 = .ok (.istore_n 2, 1) := by decide +kernel
theorem dX7_isQuiet_2 : decode cX7_isQuiet 2 = .ok (.iconst 0, 1) := by decide +kernel
theorem dX7_isQuiet_3 : decode cX7_isQuiet 3 = .ok (.istore_n 3, 1) := by decide +kernel
theorem dX7_isQuiet_4 : decode cX7_isQuiet 4 = .ok (.iload_n 3, 1) := by decide +kernel
theorem dX7_isQuiet_5 : decode cX7_isQuiet 5 = .ok (.iload_n 1, 1) := by decide +kernel
theorem dX7_isQuiet_6 : decode cX7_isQuiet 6 = .ok (.if_icmp .ge 30, 3) := by decide +kernel
theorem dX7_isQuiet_9 : decode cX7_isQuiet 9 = .ok (.iload_n 2, 1) := by decide +kernel
theorem dX7_isQuiet_10 : decode cX7_isQuiet 10 = .ok (.ifCond .eq 26, 3) := by decide +kernel
theorem dX7_isQuiet_13 : decode cX7_isQuiet 13 = .ok (.aload_n 0, 1) := by decide +kernel
theorem dX7_isQuiet_14 : decode cX7_isQuiet 14 = .ok (.invokevirtual 135, 3) := by decide +kernel
theorem dX7_isQuiet_17 : decode cX7_isQuiet 17 = .ok (.aload_n 0, 1) := by decide +kernel
theorem dX7_isQuiet_18 : decode cX7_isQuiet 18 = .ok (.getfield 117, 3) := by decide +kernel
theorem dX7_isQuiet_21 : decode cX7_isQuiet 21 = .ok (.ifCond .ne 7, 3) := by decide +kernel
theorem dX7_isQuiet_24 : decode cX7_isQuiet 24 = .ok (.iconst 1, 1) := by decide +kernel
theorem dX7_isQuiet_25 : decode cX7_isQuiet 25 = .ok (.goto 4, 3) := by decide +kernel
theorem dX7_isQuiet_28 : decode cX7_isQuiet 28 = .ok (.iconst 0, 1) := by decide +kernel
theorem dX7_isQuiet_29 : decode cX7_isQuiet 29 = .ok (.istore_n 2, 1) := by decide +kernel
theorem dX7_isQuiet_30 : decode cX7_isQuiet 30 = .ok (.iinc 3 1, 3) := by decide +kernel
theorem dX7_isQuiet_33 : decode cX7_isQuiet 33 = .ok (.goto (-29), 3) := by decide +kernel
theorem dX7_isQuiet_36 : decode cX7_isQuiet 36 = .ok (.iload_n 2, 1) := by decide +kernel
theorem dX7_isQuiet_37 : decode cX7_isQuiet 37 = .ok (.ireturn, 1) := by decide +kernel
theorem dX7_wait_0 : decode cX7_wait 0 = .ok (.aload_n 0, 1) := by decide +kernel
theorem dX7_wait_1 : decode cX7_wait 1 = .ok (.iload_n 1, 1) := by decide +kernel
theorem dX7_wait_2 : decode cX7_wait 2 = .ok (.invokevirtual 92, 3) := by decide +kernel
theorem dX7_wait_5 : decode cX7_wait 5 = .ok (.ifCond .ne 10, 3) := by decide +kernel
theorem dX7_wait_8 : decode cX7_wait 8 = .ok (.aload_n 0, 1) := by decide +kernel
theorem dX7_wait_9 : decode cX7_wait 9 = .ok (.ldc 43, 2) := by decide +kernel
theorem dX7_wait_11 : decode cX7_wait 11 = .ok (.invokevirtual 59, 3) := by decide +kernel
theorem dX7_wait_14 : decode cX7_wait 14 = .ok (.ireturn, 1) := by decide +kernel
theorem dX7_wait_15 : decode cX7_wait 15 = .ok (.aload_n 0, 1) := by decide +kernel
theorem dX7_wait_16 : decode cX7_wait 16 = .ok (.iload_n 1, 1) := by decide +kernel
theorem dX7_wait_17 : decode cX7_wait 17 = .ok (.invokevirtual 106, 3) := by decide +kernel
theorem dX7_wait_20 : decode cX7_wait 20 = .ok (.ifCond .eq 13, 3) := by decide +kernel
theorem dX7_wait_23 : decode cX7_wait 23 = .ok (.aload_n 0, 1) := by decide +kernel
theorem dX7_wait_24 : decode cX7_wait 24 = .ok (.sipush 259, 3) := by decide +kernel
theorem dX7_wait_27 : decode cX7_wait 27 = .ok (.invokevirtual 132, 3) := by decide +kernel
theorem dX7_wait_30 : decode cX7_wait 30 = .ok (.ifCond .eq 10, 3) := by decide +kernel
theorem dX7_wait_33 : decode cX7_wait 33 = .ok (.aload_n 0, 1) := by decide +kernel
theorem dX7_wait_34 : decode cX7_wait 34 = .ok (.ldc 109, 2) := by decide +kernel
theorem dX7_wait_36 : decode cX7_wait 36 = .ok (.invokevirtual 59, 3) := by decide +kernel
theorem dX7_wait_39 : decode cX7_wait 39 = .ok (.ireturn, 1) := by decide +kernel
theorem dX7_wait_40 : decode cX7_wait 40 = .ok (.aload_n 0, 1) := by decide +kernel
theorem dX7_wait_41 : decode cX7_wait 41 = .ok (.invokevirtual 148, 3) := by decide +kernel
theorem dX7_wait_44 : decode cX7_wait 44 = .ok (.iconst (-1), 1) := by decide +kernel
theorem dX7_wait_45 : decode cX7_wait 45 = .ok (.istore_n 2, 1) := by decide +kernel
theorem dX7_wait_46 : decode cX7_wait 46 = .ok (.iconst 0, 1) := by decide +kernel
theorem dX7_wait_47 : decode cX7_wait 47 = .ok (.istore_n 3, 1) := by decide +kernel
theorem dX7_wait_48 : decode cX7_wait 48 = .ok (.iload_n 3, 1) := by decide +kernel
theorem dX7_wait_49 : decode cX7_wait 49 = .ok (.bipush 60, 2) := by decide +kernel
theorem dX7_wait_51 : decode cX7_wait 51 = .ok (.if_icmp .ge 59, 3) := by decide +kernel
theorem dX7_wait_54 : decode cX7_wait 54 = .ok (.iload_n 2, 1) := by decide +kernel
theorem dX7_wait_55 : decode cX7_wait 55 = .ok (.ifCond .ge 55, 3) := by decide +kernel
theorem dX7_wait_58 : decode cX7_wait 58 = .ok (.iconst 0, 1) := by decide +kernel
theorem dX7_wait_59 : decode cX7_wait 59 = .ok (.istore 4, 2) := by decide +kernel
theorem dX7_wait_61 : decode cX7_wait 61 = .ok (.iload 4, 2) := by decide +kernel
theorem dX7_wait_63 : decode cX7_wait 63 = .ok (.iload_n 3, 1) := by decide +kernel
theorem dX7_wait_64 : decode cX7_wait 64 = .ok (.if_icmp .ge 13, 3) := by decide +kernel
theorem dX7_wait_67 : decode cX7_wait 67 = .ok (.aload_n 0, 1) := by decide +kernel
theorem dX7_wait_68 : decode cX7_wait 68 = .ok (.invokevirtual 135, 3) := by decide +kernel
theorem dX7_wait_71 : decode cX7_wait 71 = .ok (.iinc 4 1, 3) := by decide +kernel
theorem dX7_wait_74 : decode cX7_wait 74 = .ok (.goto (-13), 3) := by decide +kernel
theorem dX7_wait_77 : decode cX7_wait 77 = .ok (.aload_n 0, 1) := by decide +kernel
theorem dX7_wait_78 : decode cX7_wait 78 = .ok (.iload_n 1, 1) := by decide +kernel
theorem dX7_wait_79 : decode cX7_wait 79 = .ok (.bipush 10, 2) := by decide +kernel
theorem dX7_wait_81 : decode cX7_wait 81 = .ok (.invokevirtual 110, 3) := by decide +kernel
theorem dX7_wait_84 : decode cX7_wait 84 = .ok (.aload_n 0, 1) := by decide +kernel
theorem dX7_wait_85 : decode cX7_wait 85 = .ok (.sipush 200, 3) := by decide +kernel
theorem dX7_wait_88 : decode cX7_wait 88 = .ok (.invokevirtual 179, 3) := by decide +kernel
theorem dX7_wait_91 : decode cX7_wait 91 = .ok (.ifCond .eq 7, 3) := by decide +kernel
theorem dX7_wait_94 : decode cX7_wait 94 = .ok (.iload_n 3, 1) := by decide +kernel
theorem dX7_wait_95 : decode cX7_wait 95 = .ok (.goto 4, 3) := by decide +kernel
theorem dX7_wait_98 : decode cX7_wait 98 = .ok (.iconst (-1), 1) := by decide +kernel
theorem dX7_wait_99 : decode cX7_wait 99 = .ok (.istore_n 2, 1) := by decide +kernel
theorem dX7_wait_100 : decode cX7_wait 100 = .ok (.aload_n 0, 1) := by decide +kernel
theorem dX7_wait_101 : decode cX7_wait 101 = .ok (.invokevirtual 154, 3) := by decide +kernel
theorem dX7_wait_104 : decode cX7_wait 104 = .ok (.iinc 3 1, 3) := by decide +kernel
theorem dX7_wait_107 : decode cX7_wait 107 = .ok (.goto (-59), 3) := by decide +kernel
theorem dX7_wait_110 : decode cX7_wait 110 = .ok (.iload_n 2, 1) := by decide +kernel
theorem dX7_wait_111 : decode cX7_wait 111 = .ok (.ifCond .ge 12, 3) := by decide +kernel
theorem dX7_wait_114 : decode cX7_wait 114 = .ok (.aload_n 0, 1) := by decide +kernel
theorem dX7_wait_115 : decode cX7_wait 115 = .ok (.ldc 157, 2) := by decide +kernel
theorem dX7_wait_117 : decode cX7_wait 117 = .ok (.invokevirtual 59, 3) := by decide +kernel
theorem dX7_wait_120 : decode cX7_wait 120 = .ok (.goto 4, 3) := by decide +kernel
theorem dX7_wait_123 : decode cX7_wait 123 = .ok (.iload_n 2, 1) := by decide +kernel
theorem dX7_wait_124 : decode cX7_wait 124 = .ok (.ireturn, 1) := by decide +kernel
theorem dX7_isRolling_0 : decode cX7_isRolling 0 = .ok (.aload_n 0, 1) := by decide +kernel
theorem dX7_isRolling_1 : decode cX7_isRolling 1 = .ok (.iconst 1, 1) := by decide +kernel
theorem dX7_isRolling_2 : decode cX7_isRolling 2 = .ok (.invokevirtual 140, 3) := by decide +kernel
theorem dX7_isRolling_5 : decode cX7_isRolling 5 = .ok (.ifCond .eq 7, 3) := by decide +kernel
theorem dX7_isRolling_8 : decode cX7_isRolling 8 = .ok (.iconst 1, 1) := by decide +kernel
theorem dX7_isRolling_9 : decode cX7_isRolling 9 = .ok (.goto 4, 3) := by decide +kernel
theorem dX7_isRolling_12 : decode cX7_isRolling 12 = .ok (.iconst 0, 1) := by decide +kernel
theorem dX7_isRolling_13 : decode cX7_isRolling 13 = .ok (.ireturn, 1) := by decide +kernel
theorem dX7_behind_0 : decode cX7_behind 0 = .ok (.aload_n 0, 1) := by decide +kernel
theorem dX7_behind_1 : decode cX7_behind 1 = .ok (.iload_n 1, 1) := by decide +kernel
theorem dX7_behind_2 : decode cX7_behind 2 = .ok (.invokevirtual 92, 3) := by decide +kernel
theorem dX7_behind_5 : decode cX7_behind 5 = .ok (.ifCond .eq 16, 3) := by decide +kernel
theorem dX7_behind_8 : decode cX7_behind 8 = .ok (.aload_n 0, 1) := by decide +kernel
theorem dX7_behind_9 : decode cX7_behind 9 = .ok (.iload_n 2, 1) := by decide +kernel
theorem dX7_behind_10 : decode cX7_behind 10 = .ok (.invokevirtual 92, 3) := by decide +kernel
theorem dX7_behind_13 : decode cX7_behind 13 = .ok (.ifCond .eq 8, 3) := by decide +kernel
theorem dX7_behind_16 : decode cX7_behind 16 = .ok (.iload_n 1, 1) := by decide +kernel
theorem dX7_behind_17 : decode cX7_behind 17 = .ok (.iload_n 2, 1) := by decide +kernel
theorem dX7_behind_18 : decode cX7_behind 18 = .ok (.if_icmp .ne 10, 3) := by decide +kernel
theorem dX7_behind_21 : decode cX7_behind 21 = .ok (.aload_n 0, 1) := by decide +kernel
theorem dX7_behind_22 : decode cX7_behind 22 = .ok (.ldc 43, 2) := by decide +kernel
theorem dX7_behind_24 : decode cX7_behind 24 = .ok (.invokevirtual 59, 3) := by decide +kernel
theorem dX7_behind_27 : decode cX7_behind 27 = .ok (.ireturn, 1) := by decide +kernel
theorem dX7_behind_28 : decode cX7_behind 28 = .ok (.aload_n 0, 1) := by decide +kernel
theorem dX7_behind_29 : decode cX7_behind 29 = .ok (.iload_n 1, 1) := by decide +kernel
theorem dX7_behind_30 : decode cX7_behind 30 = .ok (.invokevirtual 106, 3) := by decide +kernel
theorem dX7_behind_33 : decode cX7_behind 33 = .ok (.ifCond .eq 36, 3) := by decide +kernel
theorem dX7_behind_36 : decode cX7_behind 36 = .ok (.aload_n 0, 1) := by decide +kernel
theorem dX7_behind_37 : decode cX7_behind 37 = .ok (.iload_n 2, 1) := by decide +kernel
theorem dX7_behind_38 : decode cX7_behind 38 = .ok (.invokevirtual 106, 3) := by decide +kernel
theorem dX7_behind_41 : decode cX7_behind 41 = .ok (.ifCond .eq 28, 3) := by decide +kernel
theorem dX7_behind_44 : decode cX7_behind 44 = .ok (.aload_n 0, 1) := by decide +kernel
theorem dX7_behind_45 : decode cX7_behind 45 = .ok (.iload_n 1, 1) := by decide +kernel
theorem dX7_behind_46 : decode cX7_behind 46 = .ok (.iconst 4, 1) := by decide +kernel
theorem dX7_behind_47 : decode cX7_behind 47 = .ok (.invokevirtual 89, 3) := by decide +kernel
theorem dX7_behind_50 : decode cX7_behind 50 = .ok (.aload_n 0, 1) := by decide +kernel
theorem dX7_behind_51 : decode cX7_behind 51 = .ok (.iload_n 2, 1) := by decide +kernel
theorem dX7_behind_52 : decode cX7_behind 52 = .ok (.iconst 4, 1) := by decide +kernel
theorem dX7_behind_53 : decode cX7_behind 53 = .ok (.invokevirtual 89, 3) := by decide +kernel
theorem dX7_behind_56 : decode cX7_behind 56 = .ok (.if_icmp .ne 13, 3) := by decide +kernel
theorem dX7_behind_59 : decode cX7_behind 59 = .ok (.aload_n 0, 1) := by decide +kernel
theorem dX7_behind_60 : decode cX7_behind 60 = .ok (.sipush 259, 3) := by decide +kernel
theorem dX7_behind_63 : decode cX7_behind 63 = .ok (.invokevirtual 132, 3) := by decide +kernel
theorem dX7_behind_66 : decode cX7_behind 66 = .ok (.ifCond .eq 10, 3) := by decide +kernel
theorem dX7_behind_69 : decode cX7_behind 69 = .ok (.aload_n 0, 1) := by decide +kernel
theorem dX7_behind_70 : decode cX7_behind 70 = .ok (.ldc 109, 2) := by decide +kernel
theorem dX7_behind_72 : decode cX7_behind 72 = .ok (.invokevirtual 59, 3) := by decide +kernel
theorem dX7_behind_75 : decode cX7_behind 75 = .ok (.ireturn, 1) := by decide +kernel
theorem dX7_behind_76 : decode cX7_behind 76 = .ok (.aload_n 0, 1) := by decide +kernel
theorem dX7_behind_77 : decode cX7_behind 77 = .ok (.invokevirtual 148, 3) := by decide +kernel
theorem dX7_behind_80 : decode cX7_behind 80 = .ok (.iconst (-1), 1) := by decide +kernel
theorem dX7_behind_81 : decode cX7_behind 81 = .ok (.istore_n 3, 1) := by decide +kernel
theorem dX7_behind_82 : decode cX7_behind 82 = .ok (.iconst 1, 1) := by decide +kernel
theorem dX7_behind_83 : decode cX7_behind 83 = .ok (.istore 4, 2) := by decide +kernel
theorem dX7_behind_85 : decode cX7_behind 85 = .ok (.iload 4, 2) := by decide +kernel
theorem dX7_behind_87 : decode cX7_behind 87 = .ok (.bipush 60, 2) := by decide +kernel
theorem dX7_behind_89 : decode cX7_behind 89 = .ok (.if_icmp .ge 198, 3) := by decide +kernel
theorem dX7_behind_92 : decode cX7_behind 92 = .ok (.iload_n 3, 1) := by decide +kernel
theorem dX7_behind_93 : decode cX7_behind 93 = .ok (.ifCond .ge 194, 3) := by decide +kernel
theorem dX7_behind_96 : decode cX7_behind 96 = .ok (.iconst 0, 1) := by decide +kernel
theorem dX7_behind_97 : decode cX7_behind 97 = .ok (.istore 5, 2) := by decide +kernel
theorem dX7_behind_99 : decode cX7_behind 99 = .ok (.iload 5, 2) := by decide +kernel
theorem dX7_behind_101 : decode cX7_behind 101 = .ok (.aload_n 0, 1) := by decide +kernel
theorem dX7_behind_102 : decode cX7_behind 102 = .ok (.getfield 7, 3) := by decide +kernel
theorem dX7_behind_105 : decode cX7_behind 105 = .ok (.iconst 1, 1) := by decide +kernel
theorem dX7_behind_106 : decode cX7_behind 106 = .ok (.iaload, 1) := by decide +kernel
theorem dX7_behind_107 : decode cX7_behind 107 = .ok (.if_icmp .ge 49, 3) := by decide +kernel
theorem dX7_behind_110 : decode cX7_behind 110 = .ok (.aload_n 0, 1) := by decide +kernel
theorem dX7_behind_111 : decode cX7_behind 111 = .ok (.getfield 7, 3) := by decide +kernel
theorem dX7_behind_114 : decode cX7_behind 114 = .ok (.iload 5, 2) := by decide +kernel
theorem dX7_behind_116 : decode cX7_behind 116 = .ok (.bipush 6, 2) := by decide +kernel
theorem dX7_behind_118 : decode cX7_behind 118 = .ok (.invokestatic 72, 3) := by decide +kernel
theorem dX7_behind_121 : decode cX7_behind 121 = .ok (.iload 5, 2) := by decide +kernel
theorem dX7_behind_123 : decode cX7_behind 123 = .ok (.iload_n 1, 1) := by decide +kernel
theorem dX7_behind_124 : decode cX7_behind 124 = .ok (.if_icmp .eq 9, 3) := by decide +kernel
theorem dX7_behind_127 : decode cX7_behind 127 = .ok (.iload 5, 2) := by decide +kernel
theorem dX7_behind_129 : decode cX7_behind 129 = .ok (.iload_n 2, 1) := by decide +kernel
theorem dX7_behind_130 : decode cX7_behind 130 = .ok (.if_icmp .ne 18, 3) := by decide +kernel
theorem dX7_behind_133 : decode cX7_behind 133 = .ok (.aload_n 0, 1) := by decide +kernel
theorem dX7_behind_134 : decode cX7_behind 134 = .ok (.getfield 7, 3) := by decide +kernel
theorem dX7_behind_137 : decode cX7_behind 137 = .ok (.iload 5, 2) := by decide +kernel
theorem dX7_behind_139 : decode cX7_behind 139 = .ok (.bipush 6, 2) := by decide +kernel
theorem dX7_behind_141 : decode cX7_behind 141 = .ok (.invokestatic 72, 3) := by decide +kernel
theorem dX7_behind_144 : decode cX7_behind 144 = .ok (.iaload, 1) := by decide +kernel
theorem dX7_behind_145 : decode cX7_behind 145 = .ok (.goto 4, 3) := by decide +kernel
theorem dX7_behind_148 : decode cX7_behind 148 = .ok (.iconst 3, 1) := by decide +kernel
theorem dX7_behind_149 : decode cX7_behind 149 = .ok (.iastore, 1) := by decide +kernel
theorem dX7_behind_150 : decode cX7_behind 150 = .ok (.iinc 5 1, 3) := by decide +kernel
theorem dX7_behind_153 : decode cX7_behind 153 = .ok (.goto (-54), 3) := by decide +kernel
theorem dX7_behind_156 : decode cX7_behind 156 = .ok (.aload_n 0, 1) := by decide +kernel
theorem dX7_behind_157 : decode cX7_behind 157 = .ok (.iload_n 1, 1) := by decide +kernel
theorem dX7_behind_158 : decode cX7_behind 158 = .ok (.bipush 10, 2) := by decide +kernel
theorem dX7_behind_160 : decode cX7_behind 160 = .ok (.invokevirtual 110, 3) := by decide +kernel
theorem dX7_behind_163 : decode cX7_behind 163 = .ok (.aload_n 0, 1) := by decide +kernel
theorem dX7_behind_164 : decode cX7_behind 164 = .ok (.iload 4, 2) := by decide +kernel
theorem dX7_behind_166 : decode cX7_behind 166 = .ok (.invokevirtual 179, 3) := by decide +kernel
theorem dX7_behind_169 : decode cX7_behind 169 = .ok (.istore 5, 2) := by decide +kernel
theorem dX7_behind_171 : decode cX7_behind 171 = .ok (.aload_n 0, 1) := by decide +kernel
theorem dX7_behind_172 : decode cX7_behind 172 = .ok (.iload_n 2, 1) := by decide +kernel
theorem dX7_behind_173 : decode cX7_behind 173 = .ok (.iload 5, 2) := by decide +kernel
theorem dX7_behind_175 : decode cX7_behind 175 = .ok (.ifCond .eq 8, 3) := by decide +kernel
theorem dX7_behind_178 : decode cX7_behind 178 = .ok (.bipush 10, 2) := by decide +kernel
theorem dX7_behind_180 : decode cX7_behind 180 = .ok (.goto 4, 3) := by decide +kernel
theorem dX7_behind_183 : decode cX7_behind 183 = .ok (.iconst 0, 1) := by decide +kernel
theorem dX7_behind_184 : decode cX7_behind 184 = .ok (.invokevirtual 110, 3) := by decide +kernel
theorem dX7_behind_187 : decode cX7_behind 187 = .ok (.iconst 0, 1) := by decide +kernel
theorem dX7_behind_188 : decode cX7_behind 188 = .ok (.istore 6, 2) := by decide +kernel
theorem dX7_behind_190 : decode cX7_behind 190 = .ok (.iload 6, 2) := by decide +kernel
theorem dX7_behind_192 : decode cX7_behind 192 = .ok (.sipush 200, 3) := by decide +kernel
theorem dX7_behind_195 : decode cX7_behind 195 = .ok (.if_icmp .ge 28, 3) := by decide +kernel
theorem dX7_behind_198 : decode cX7_behind 198 = .ok (.iload 5, 2) := by decide +kernel
theorem dX7_behind_200 : decode cX7_behind 200 = .ok (.ifCond .eq 23, 3) := by decide +kernel
theorem dX7_behind_203 : decode cX7_behind 203 = .ok (.aload_n 0, 1) := by decide +kernel
theorem dX7_behind_204 : decode cX7_behind 204 = .ok (.invokevirtual 182, 3) := by decide +kernel
theorem dX7_behind_207 : decode cX7_behind 207 = .ok (.ifCond .eq 16, 3) := by decide +kernel
theorem dX7_behind_210 : decode cX7_behind 210 = .ok (.aload_n 0, 1) := by decide +kernel
theorem dX7_behind_211 : decode cX7_behind 211 = .ok (.iconst 1, 1) := by decide +kernel
theorem dX7_behind_212 : decode cX7_behind 212 = .ok (.invokevirtual 179, 3) := by decide +kernel
theorem dX7_behind_215 : decode cX7_behind 215 = .ok (.istore 5, 2) := by decide +kernel
theorem dX7_behind_217 : decode cX7_behind 217 = .ok (.iinc 6 1, 3) := by decide +kernel
theorem dX7_behind_220 : decode cX7_behind 220 = .ok (.goto (-30), 3) := by decide +kernel
theorem dX7_behind_223 : decode cX7_behind 223 = .ok (.iload 5, 2) := by decide +kernel
theorem dX7_behind_225 : decode cX7_behind 225 = .ok (.ifCond .eq 50, 3) := by decide +kernel
theorem dX7_behind_228 : decode cX7_behind 228 = .ok (.aload_n 0, 1) := by decide +kernel
theorem dX7_behind_229 : decode cX7_behind 229 = .ok (.iload_n 1, 1) := by decide +kernel
theorem dX7_behind_230 : decode cX7_behind 230 = .ok (.bipush 6, 2) := by decide +kernel
theorem dX7_behind_232 : decode cX7_behind 232 = .ok (.invokevirtual 89, 3) := by decide +kernel
theorem dX7_behind_235 : decode cX7_behind 235 = .ok (.ifCond .ne 40, 3) := by decide +kernel
theorem dX7_behind_238 : decode cX7_behind 238 = .ok (.aload_n 0, 1) := by decide +kernel
theorem dX7_behind_239 : decode cX7_behind 239 = .ok (.iload_n 2, 1) := by decide +kernel
theorem dX7_behind_240 : decode cX7_behind 240 = .ok (.bipush 6, 2) := by decide +kernel
theorem dX7_behind_242 : decode cX7_behind 242 = .ok (.invokevirtual 89, 3) := by decide +kernel
theorem dX7_behind_245 : decode cX7_behind 245 = .ok (.ifCond .ne 30, 3) := by decide +kernel
theorem dX7_behind_248 : decode cX7_behind 248 = .ok (.aload_n 0, 1) := by decide +kernel
theorem dX7_behind_249 : decode cX7_behind 249 = .ok (.iload_n 1, 1) := by decide +kernel
theorem dX7_behind_250 : decode cX7_behind 250 = .ok (.iconst 4, 1) := by decide +kernel
theorem dX7_behind_251 : decode cX7_behind 251 = .ok (.invokevirtual 89, 3) := by decide +kernel
theorem dX7_behind_254 : decode cX7_behind 254 = .ok (.bipush 30, 2) := by decide +kernel
theorem dX7_behind_256 : decode cX7_behind 256 = .ok (.if_icmp .ne 19, 3) := by decide +kernel
theorem dX7_behind_259 : decode cX7_behind 259 = .ok (.aload_n 0, 1) := by decide +kernel
theorem dX7_behind_260 : decode cX7_behind 260 = .ok (.iload_n 2, 1) := by decide +kernel
theorem dX7_behind_261 : decode cX7_behind 261 = .ok (.iconst 4, 1) := by decide +kernel
theorem dX7_behind_262 : decode cX7_behind 262 = .ok (.invokevirtual 89, 3) := by decide +kernel
theorem dX7_behind_265 : decode cX7_behind 265 = .ok (.bipush 30, 2) := by decide +kernel
theorem dX7_behind_267 : decode cX7_behind 267 = .ok (.if_icmp .ne 8, 3) := by decide +kernel
theorem dX7_behind_270 : decode cX7_behind 270 = .ok (.iload 4, 2) := by decide +kernel
theorem dX7_behind_272 : decode cX7_behind 272 = .ok (.goto 4, 3) := by decide +kernel
theorem dX7_behind_275 : decode cX7_behind 275 = .ok (.iconst (-1), 1) := by decide +kernel
theorem dX7_behind_276 : decode cX7_behind 276 = .ok (.istore_n 3, 1) := by decide +kernel
theorem dX7_behind_277 : decode cX7_behind 277 = .ok (.aload_n 0, 1) := by decide +kernel
theorem dX7_behind_278 : decode cX7_behind 278 = .ok (.invokevirtual 154, 3) := by decide +kernel
theorem dX7_behind_281 : decode cX7_behind 281 = .ok (.iinc 4 1, 3) := by decide +kernel
theorem dX7_behind_284 : decode cX7_behind 284 = .ok (.goto (-199), 3) := by decide +kernel
theorem dX7_behind_287 : decode cX7_behind 287 = .ok (.iload_n 3, 1) := by decide +kernel
theorem dX7_behind_288 : decode cX7_behind 288 = .ok (.ifCond .ge 12, 3) := by decide +kernel
theorem dX7_behind_291 : decode cX7_behind 291 = .ok (.aload_n 0, 1) := by decide +kernel
theorem dX7_behind_292 : decode cX7_behind 292 = .ok (.ldc 157, 2) := by decide +kernel
theorem dX7_behind_294 : decode cX7_behind 294 = .ok (.invokevirtual 59, 3) := by decide +kernel
theorem dX7_behind_297 : decode cX7_behind 297 = .ok (.goto 4, 3) := by decide +kernel
theorem dX7_behind_300 : decode cX7_behind 300 = .ok (.iload_n 3, 1) := by decide +kernel
theorem dX7_behind_301 : decode cX7_behind 301 = .ok (.ireturn, 1) := by decide +kernel
theorem dX7_come_0 : decode cX7_come 0 = .ok (.aload_n 0, 1) := by decide +kernel
theorem dX7_come_1 : decode cX7_come 1 = .ok (.sipush 200, 3) := by decide +kernel
theorem dX7_come_4 : decode cX7_come 4 = .ok (.invokevirtual 132, 3) := by decide +kernel
theorem dX7_come_7 : decode cX7_come 7 = .ok (.ifCond .eq 10, 3) := by decide +kernel
theorem dX7_come_10 : decode cX7_come 10 = .ok (.aload_n 0, 1) := by decide +kernel
theorem dX7_come_11 : decode cX7_come 11 = .ok (.ldc 109, 2) := by decide +kernel
theorem dX7_come_13 : decode cX7_come 13 = .ok (.invokevirtual 59, 3) := by decide +kernel
theorem dX7_come_16 : decode cX7_come 16 = .ok (.ireturn, 1) := by decide +kernel
theorem dX7_come_17 : decode cX7_come 17 = .ok (.iconst 0, 1) := by decide +kernel
theorem dX7_come_18 : decode cX7_come 18 = .ok (.istore_n 1, 1) := by decide +kernel
theorem dX7_come_19 : decode cX7_come 19 = .ok (.iconst 0, 1) := by decide +kernel
theorem dX7_come_20 : decode cX7_come 20 = .ok (.istore_n 2, 1) := by decide +kernel
theorem dX7_come_21 : decode cX7_come 21 = .ok (.iload_n 2, 1) := by decide +kernel
theorem dX7_come_22 : decode cX7_come 22 = .ok (.aload_n 0, 1) := by decide +kernel
theorem dX7_come_23 : decode cX7_come 23 = .ok (.getfield 7, 3) := by decide +kernel
theorem dX7_come_26 : decode cX7_come 26 = .ok (.iconst 1, 1) := by decide +kernel
theorem dX7_come_27 : decode cX7_come 27 = .ok (.iaload, 1) := by decide +kernel
theorem dX7_come_28 : decode cX7_come 28 = .ok (.if_icmp .ge 52, 3) := by decide +kernel
theorem dX7_come_31 : decode cX7_come 31 = .ok (.aload_n 0, 1) := by decide +kernel
theorem dX7_come_32 : decode cX7_come 32 = .ok (.iload_n 2, 1) := by decide +kernel
theorem dX7_come_33 : decode cX7_come 33 = .ok (.bipush 6, 2) := by decide +kernel
theorem dX7_come_35 : decode cX7_come 35 = .ok (.invokevirtual 89, 3) := by decide +kernel
theorem dX7_come_38 : decode cX7_come 38 = .ok (.ifCond .ne 36, 3) := by decide +kernel
theorem dX7_come_41 : decode cX7_come 41 = .ok (.aload_n 0, 1) := by decide +kernel
theorem dX7_come_42 : decode cX7_come 42 = .ok (.iload_n 2, 1) := by decide +kernel
theorem dX7_come_43 : decode cX7_come 43 = .ok (.iconst 4, 1) := by decide +kernel
theorem dX7_come_44 : decode cX7_come 44 = .ok (.invokevirtual 89, 3) := by decide +kernel
theorem dX7_come_47 : decode cX7_come 47 = .ok (.ifCond .ne 27, 3) := by decide +kernel
theorem dX7_come_50 : decode cX7_come 50 = .ok (.aload_n 0, 1) := by decide +kernel
theorem dX7_come_51 : decode cX7_come 51 = .ok (.iload_n 2, 1) := by decide +kernel
theorem dX7_come_52 : decode cX7_come 52 = .ok (.bipush 10, 2) := by decide +kernel
theorem dX7_come_54 : decode cX7_come 54 = .ok (.invokevirtual 173, 3) := by decide +kernel
theorem dX7_come_57 : decode cX7_come 57 = .ok (.iload_n 1, 1) := by decide +kernel
theorem dX7_come_58 : decode cX7_come 58 = .ok (.aload_n 0, 1) := by decide +kernel
theorem dX7_come_59 : decode cX7_come 59 = .ok (.getfield 170, 3) := by decide +kernel
theorem dX7_come_62 : decode cX7_come 62 = .ok (.bipush 30, 2) := by decide +kernel
theorem dX7_come_64 : decode cX7_come 64 = .ok (.if_icmp .ne 7, 3) := by decide +kernel
theorem dX7_come_67 : decode cX7_come 67 = .ok (.iconst 1, 1) := by decide +kernel
theorem dX7_come_68 : decode cX7_come 68 = .ok (.goto 4, 3) := by decide +kernel
theorem dX7_come_71 : decode cX7_come 71 = .ok (.iconst 0, 1) := by decide +kernel
theorem dX7_come_72 : decode cX7_come 72 = .ok (.iadd, 1) := by decide +kernel
theorem dX7_come_73 : decode cX7_come 73 = .ok (.istore_n 1, 1) := by decide +kernel
theorem dX7_come_74 : decode cX7_come 74 = .ok (.iinc 2 1, 3) := by decide +kernel
theorem dX7_come_77 : decode cX7_come 77 = .ok (.goto (-56), 3) := by decide +kernel
theorem dX7_come_80 : decode cX7_come 80 = .ok (.iload_n 1, 1) := by decide +kernel
theorem dX7_come_81 : decode cX7_come 81 = .ok (.ireturn, 1) := by decide +kernel
theorem dX7_isSet_0 : decode cX7_isSet 0 = .ok (.iload_n 1, 1) := by decide +kernel
theorem dX7_isSet_1 : decode cX7_isSet 1 = .ok (.i2l, 1) := by decide +kernel
theorem dX7_isSet_2 : decode cX7_isSet 2 = .ok (.lconst 1, 1) := by decide +kernel
theorem dX7_isSet_3 : decode cX7_isSet 3 = .ok (.iconst 1, 1) := by decide +kernel
theorem dX7_isSet_4 : decode cX7_isSet 4 = .ok (.aload_n 0, 1) := by decide +kernel
theorem dX7_isSet_5 : decode cX7_isSet 5 = .ok (.getfield 7, 3) := by decide +kernel
theorem dX7_isSet_8 : decode cX7_isSet 8 = .ok (.iconst 1, 1) := by decide +kernel
theorem dX7_isSet_9 : decode cX7_isSet 9 = .ok (.iaload, 1) := by decide +kernel
theorem dX7_isSet_10 : decode cX7_isSet 10 = .ok (.ishl, 1) := by decide +kernel
theorem dX7_isSet_11 : decode cX7_isSet 11 = .ok (.iconst 1, 1) := by decide +kernel
theorem dX7_isSet_12 : decode cX7_isSet 12 = .ok (.isub, 1) := by decide +kernel
theorem dX7_isSet_13 : decode cX7_isSet 13 = .ok (.i2l, 1) := by decide +kernel
theorem dX7_isSet_14 : decode cX7_isSet 14 = .ok (.invokestatic 46, 3) := by decide +kernel
theorem dX7_isSet_17 : decode cX7_isSet 17 = .ok (.ireturn, 1) := by decide +kernel
theorem dX7_weighs_0 : decode cX7_weighs 0 = .ok (.iconst 0, 1) := by decide +kernel
theorem dX7_weighs_1 : decode cX7_weighs 1 = .ok (.istore_n 2, 1) := by decide +kernel
theorem dX7_weighs_2 : decode cX7_weighs 2 = .ok (.iconst 0, 1) := by decide +kernel
theorem dX7_weighs_3 : decode cX7_weighs 3 = .ok (.istore_n 3, 1) := by decide +kernel
theorem dX7_weighs_4 : decode cX7_weighs 4 = .ok (.iload_n 3, 1) := by decide +kernel
theorem dX7_weighs_5 : decode cX7_weighs 5 = .ok (.aload_n 0, 1) := by decide +kernel
theorem dX7_weighs_6 : decode cX7_weighs 6 = .ok (.getfield 7, 3) := by decide +kernel
theorem dX7_weighs_9 : decode cX7_weighs 9 = .ok (.iconst 1, 1) := by decide +kernel
theorem dX7_weighs_10 : decode cX7_weighs 10 = .ok (.iaload, 1) := by decide +kernel
theorem dX7_weighs_11 : decode cX7_weighs 11 = .ok (.if_icmp .ge 30, 3) := by decide +kernel
theorem dX7_weighs_14 : decode cX7_weighs 14 = .ok (.iload_n 2, 1) := by decide +kernel
theorem dX7_weighs_15 : decode cX7_weighs 15 = .ok (.iload_n 1, 1) := by decide +kernel
theorem dX7_weighs_16 : decode cX7_weighs 16 = .ok (.iload_n 3, 1) := by decide +kernel
theorem dX7_weighs_17 : decode cX7_weighs 17 = .ok (.invokestatic 186, 3) := by decide +kernel
theorem dX7_weighs_20 : decode cX7_weighs 20 = .ok (.ifCond .eq 12, 3) := by decide +kernel
theorem dX7_weighs_23 : decode cX7_weighs 23 = .ok (.aload_n 0, 1) := by decide +kernel
theorem dX7_weighs_24 : decode cX7_weighs 24 = .ok (.iload_n 3, 1) := by decide +kernel
theorem dX7_weighs_25 : decode cX7_weighs 25 = .ok (.iconst 1, 1) := by decide +kernel
theorem dX7_weighs_26 : decode cX7_weighs 26 = .ok (.invokevirtual 89, 3) := by decide +kernel
theorem dX7_weighs_29 : decode cX7_weighs 29 = .ok (.goto 4, 3) := by decide +kernel
theorem dX7_weighs_32 : decode cX7_weighs 32 = .ok (.iconst 0, 1) := by decide +kernel
theorem dX7_weighs_33 : decode cX7_weighs 33 = .ok (.iadd, 1) := by decide +kernel
theorem dX7_weighs_34 : decode cX7_weighs 34 = .ok (.istore_n 2, 1) := by decide +kernel
theorem dX7_weighs_35 : decode cX7_weighs 35 = .ok (.iinc 3 1, 3) := by decide +kernel
theorem dX7_weighs_38 : decode cX7_weighs 38 = .ok (.goto (-34), 3) := by decide +kernel
theorem dX7_weighs_41 : decode cX7_weighs 41 = .ok (.iload_n 2, 1) := by decide +kernel
theorem dX7_weighs_42 : decode cX7_weighs 42 = .ok (.ireturn, 1) := by decide +kernel
theorem dX7_offBy_0 : decode cX7_offBy 0 = .ok (.iconst 2, 1) := by decide +kernel
theorem dX7_offBy_1 : decode cX7_offBy 1 = .ok (.aload_n 0, 1) := by decide +kernel
theorem dX7_offBy_2 : decode cX7_offBy 2 = .ok (.iload_n 1, 1) := by decide +kernel
theorem dX7_offBy_3 : decode cX7_offBy 3 = .ok (.invokevirtual 189, 3) := by decide +kernel
theorem dX7_offBy_6 : decode cX7_offBy 6 = .ok (.imul, 1) := by decide +kernel
theorem dX7_offBy_7 : decode cX7_offBy 7 = .ok (.aload_n 0, 1) := by decide +kernel
theorem dX7_offBy_8 : decode cX7_offBy 8 = .ok (.iload_n 2, 1) := by decide +kernel
theorem dX7_offBy_9 : decode cX7_offBy 9 = .ok (.invokevirtual 189, 3) := by decide +kernel
theorem dX7_offBy_12 : decode cX7_offBy 12 = .ok (.isub, 1) := by decide +kernel
theorem dX7_offBy_13 : decode cX7_offBy 13 = .ok (.istore_n 3, 1) := by decide +kernel
theorem dX7_offBy_14 : decode cX7_offBy 14 = .ok (.iload_n 3, 1) := by decide +kernel
theorem dX7_offBy_15 : decode cX7_offBy 15 = .ok (.ifCond .ge 9, 3) := by decide +kernel
theorem dX7_offBy_18 : decode cX7_offBy 18 = .ok (.iconst 0, 1) := by decide +kernel
theorem dX7_offBy_19 : decode cX7_offBy 19 = .ok (.iload_n 3, 1) := by decide +kernel
theorem dX7_offBy_20 : decode cX7_offBy 20 = .ok (.isub, 1) := by decide +kernel
theorem dX7_offBy_21 : decode cX7_offBy 21 = .ok (.goto 4, 3) := by decide +kernel
theorem dX7_offBy_24 : decode cX7_offBy 24 = .ok (.iload_n 3, 1) := by decide +kernel
theorem dX7_offBy_25 : decode cX7_offBy 25 = .ok (.ireturn, 1) := by decide +kernel
theorem dX7_packed_0 : decode cX7_packed 0 = .ok (.iload_n 1, 1) := by decide +kernel
theorem dX7_packed_1 : decode cX7_packed 1 = .ok (.iconst 0, 1) := by decide +kernel
theorem dX7_packed_2 : decode cX7_packed 2 = .ok (.iload_n 1, 1) := by decide +kernel
theorem dX7_packed_3 : decode cX7_packed 3 = .ok (.isub, 1) := by decide +kernel
theorem dX7_packed_4 : decode cX7_packed 4 = .ok (.iand, 1) := by decide +kernel
theorem dX7_packed_5 : decode cX7_packed 5 = .ok (.istore_n 2, 1) := by decide +kernel
theorem dX7_packed_6 : decode cX7_packed 6 = .ok (.iload_n 1, 1) := by decide +kernel
theorem dX7_packed_7 : decode cX7_packed 7 = .ok (.istore_n 3, 1) := by decide +kernel
theorem dX7_packed_8 : decode cX7_packed 8 = .ok (.iconst 1, 1) := by decide +kernel
theorem dX7_packed_9 : decode cX7_packed 9 = .ok (.istore 4, 2) := by decide +kernel
theorem dX7_packed_11 : decode cX7_packed 11 = .ok (.iload 4, 2) := by decide +kernel
theorem dX7_packed_13 : decode cX7_packed 13 = .ok (.iload_n 1, 1) := by decide +kernel
theorem dX7_packed_14 : decode cX7_packed 14 = .ok (.if_icmp .ge 82, 3) := by decide +kernel
theorem dX7_packed_17 : decode cX7_packed 17 = .ok (.iload 4, 2) := by decide +kernel
theorem dX7_packed_19 : decode cX7_packed 19 = .ok (.iload_n 1, 1) := by decide +kernel
theorem dX7_packed_20 : decode cX7_packed 20 = .ok (.iconst (-1), 1) := by decide +kernel
theorem dX7_packed_21 : decode cX7_packed 21 = .ok (.ixor, 1) := by decide +kernel
theorem dX7_packed_22 : decode cX7_packed 22 = .ok (.iand, 1) := by decide +kernel
theorem dX7_packed_23 : decode cX7_packed 23 = .ok (.ifCond .ne 14, 3) := by decide +kernel
theorem dX7_packed_26 : decode cX7_packed 26 = .ok (.iload 4, 2) := by decide +kernel
theorem dX7_packed_28 : decode cX7_packed 28 = .ok (.iload_n 2, 1) := by decide +kernel
theorem dX7_packed_29 : decode cX7_packed 29 = .ok (.iand, 1) := by decide +kernel
theorem dX7_packed_30 : decode cX7_packed 30 = .ok (.ifCond .eq 7, 3) := by decide +kernel
theorem dX7_packed_33 : decode cX7_packed 33 = .ok (.iconst 1, 1) := by decide +kernel
theorem dX7_packed_34 : decode cX7_packed 34 = .ok (.goto 4, 3) := by decide +kernel
theorem dX7_packed_37 : decode cX7_packed 37 = .ok (.iconst 0, 1) := by decide +kernel
theorem dX7_packed_38 : decode cX7_packed 38 = .ok (.istore 5, 2) := by decide +kernel
theorem dX7_packed_40 : decode cX7_packed 40 = .ok (.aload_n 0, 1) := by decide +kernel
theorem dX7_packed_41 : decode cX7_packed 41 = .ok (.iload_n 3, 1) := by decide +kernel
theorem dX7_packed_42 : decode cX7_packed 42 = .ok (.iload_n 1, 1) := by decide +kernel
theorem dX7_packed_43 : decode cX7_packed 43 = .ok (.invokevirtual 192, 3) := by decide +kernel
theorem dX7_packed_46 : decode cX7_packed 46 = .ok (.istore 6, 2) := by decide +kernel
theorem dX7_packed_48 : decode cX7_packed 48 = .ok (.iload 5, 2) := by decide +kernel
theorem dX7_packed_50 : decode cX7_packed 50 = .ok (.ifCond .eq 38, 3) := by decide +kernel
theorem dX7_packed_53 : decode cX7_packed 53 = .ok (.aload_n 0, 1) := by decide +kernel
theorem dX7_packed_54 : decode cX7_packed 54 = .ok (.iload 4, 2) := by decide +kernel
theorem dX7_packed_56 : decode cX7_packed 56 = .ok (.iload_n 1, 1) := by decide +kernel
theorem dX7_packed_57 : decode cX7_packed 57 = .ok (.invokevirtual 192, 3) := by decide +kernel
theorem dX7_packed_60 : decode cX7_packed 60 = .ok (.iload 6, 2) := by decide +kernel
theorem dX7_packed_62 : decode cX7_packed 62 = .ok (.if_icmp .lt 21, 3) := by decide +kernel
theorem dX7_packed_65 : decode cX7_packed 65 = .ok (.aload_n 0, 1) := by decide +kernel
theorem dX7_packed_66 : decode cX7_packed 66 = .ok (.iload 4, 2) := by decide +kernel
theorem dX7_packed_68 : decode cX7_packed 68 = .ok (.iload_n 1, 1) := by decide +kernel
theorem dX7_packed_69 : decode cX7_packed 69 = .ok (.invokevirtual 192, 3) := by decide +kernel
theorem dX7_packed_72 : decode cX7_packed 72 = .ok (.iload 6, 2) := by decide +kernel
theorem dX7_packed_74 : decode cX7_packed 74 = .ok (.if_icmp .ne 14, 3) := by decide +kernel
theorem dX7_packed_77 : decode cX7_packed 77 = .ok (.iload 4, 2) := by decide +kernel
theorem dX7_packed_79 : decode cX7_packed 79 = .ok (.iload_n 3, 1) := by decide +kernel
theorem dX7_packed_80 : decode cX7_packed 80 = .ok (.if_icmp .ge 8, 3) := by decide +kernel
theorem dX7_packed_83 : decode cX7_packed 83 = .ok (.iload 4, 2) := by decide +kernel
theorem dX7_packed_85 : decode cX7_packed 85 = .ok (.goto 4, 3) := by decide +kernel
theorem dX7_packed_88 : decode cX7_packed 88 = .ok (.iload_n 3, 1) := by decide +kernel
theorem dX7_packed_89 : decode cX7_packed 89 = .ok (.istore_n 3, 1) := by decide +kernel
theorem dX7_packed_90 : decode cX7_packed 90 = .ok (.iinc 4 1, 3) := by decide +kernel
theorem dX7_packed_93 : decode cX7_packed 93 = .ok (.goto (-82), 3) := by decide +kernel
theorem dX7_packed_96 : decode cX7_packed 96 = .ok (.iload_n 3, 1) := by decide +kernel
theorem dX7_packed_97 : decode cX7_packed 97 = .ok (.ireturn, 1) := by decide +kernel
theorem dX7_pack_0 : decode cX7_pack 0 = .ok (.aload_n 0, 1) := by decide +kernel
theorem dX7_pack_1 : decode cX7_pack 1 = .ok (.iload_n 1, 1) := by decide +kernel
theorem dX7_pack_2 : decode cX7_pack 2 = .ok (.invokevirtual 195, 3) := by decide +kernel
theorem dX7_pack_5 : decode cX7_pack 5 = .ok (.ifCond .eq 11, 3) := by decide +kernel
theorem dX7_pack_8 : decode cX7_pack 8 = .ok (.aload_n 0, 1) := by decide +kernel
theorem dX7_pack_9 : decode cX7_pack 9 = .ok (.iload_n 1, 1) := by decide +kernel
theorem dX7_pack_10 : decode cX7_pack 10 = .ok (.invokevirtual 198, 3) := by decide +kernel
theorem dX7_pack_13 : decode cX7_pack 13 = .ok (.goto 9, 3) := by decide +kernel
theorem dX7_pack_16 : decode cX7_pack 16 = .ok (.aload_n 0, 1) := by decide +kernel
theorem dX7_pack_17 : decode cX7_pack 17 = .ok (.ldc 43, 2) := by decide +kernel
theorem dX7_pack_19 : decode cX7_pack 19 = .ok (.invokevirtual 59, 3) := by decide +kernel
theorem dX7_pack_22 : decode cX7_pack 22 = .ok (.ireturn, 1) := by decide +kernel
theorem dX7_lean_0 : decode cX7_lean 0 = .ok (.aload_n 0, 1) := by decide +kernel
theorem dX7_lean_1 : decode cX7_lean 1 = .ok (.iload_n 1, 1) := by decide +kernel
theorem dX7_lean_2 : decode cX7_lean 2 = .ok (.invokevirtual 195, 3) := by decide +kernel
theorem dX7_lean_5 : decode cX7_lean 5 = .ok (.ifCond .eq 16, 3) := by decide +kernel
theorem dX7_lean_8 : decode cX7_lean 8 = .ok (.aload_n 0, 1) := by decide +kernel
theorem dX7_lean_9 : decode cX7_lean 9 = .ok (.aload_n 0, 1) := by decide +kernel
theorem dX7_lean_10 : decode cX7_lean 10 = .ok (.iload_n 1, 1) := by decide +kernel
theorem dX7_lean_11 : decode cX7_lean 11 = .ok (.invokevirtual 198, 3) := by decide +kernel
theorem dX7_lean_14 : decode cX7_lean 14 = .ok (.iload_n 1, 1) := by decide +kernel
theorem dX7_lean_15 : decode cX7_lean 15 = .ok (.invokevirtual 192, 3) := by decide +kernel
theorem dX7_lean_18 : decode cX7_lean 18 = .ok (.goto 9, 3) := by decide +kernel
theorem dX7_lean_21 : decode cX7_lean 21 = .ok (.aload_n 0, 1) := by decide +kernel
theorem dX7_lean_22 : decode cX7_lean 22 = .ok (.ldc 43, 2) := by decide +kernel
theorem dX7_lean_24 : decode cX7_lean 24 = .ok (.invokevirtual 59, 3) := by decide +kernel
theorem dX7_lean_27 : decode cX7_lean 27 = .ok (.ireturn, 1) := by decide +kernel
theorem dX7_drums_0 : decode cX7_drums 0 = .ok (.aload_n 0, 1) := by decide +kernel
theorem dX7_drums_1 : decode cX7_drums 1 = .ok (.iload_n 1, 1) := by decide +kernel
theorem dX7_drums_2 : decode cX7_drums 2 = .ok (.invokevirtual 195, 3) := by decide +kernel
theorem dX7_drums_5 : decode cX7_drums 5 = .ok (.ifCond .eq 15, 3) := by decide +kernel
theorem dX7_drums_8 : decode cX7_drums 8 = .ok (.iload_n 2, 1) := by decide +kernel
theorem dX7_drums_9 : decode cX7_drums 9 = .ok (.i2l, 1) := by decide +kernel
theorem dX7_drums_10 : decode cX7_drums 10 = .ok (.lconst 1, 1) := by decide +kernel
theorem dX7_drums_11 : decode cX7_drums 11 = .ok (.ldc2_w 201, 3) := by decide +kernel
theorem dX7_drums_14 : decode cX7_drums 14 = .ok (.invokestatic 46, 3) := by decide +kernel
theorem dX7_drums_17 : decode cX7_drums 17 = .ok (.ifCond .ne 10, 3) := by decide +kernel
theorem dX7_drums_20 : decode cX7_drums 20 = .ok (.aload_n 0, 1) := by decide +kernel
theorem dX7_drums_21 : decode cX7_drums 21 = .ok (.ldc 43, 2) := by decide +kernel
theorem dX7_drums_23 : decode cX7_drums 23 = .ok (.invokevirtual 59, 3) := by decide +kernel
theorem dX7_drums_26 : decode cX7_drums 26 = .ok (.ireturn, 1) := by decide +kernel
theorem dX7_drums_27 : decode cX7_drums 27 = .ok (.iconst 1, 1) := by decide +kernel
theorem dX7_drums_28 : decode cX7_drums 28 = .ok (.istore_n 3, 1) := by decide +kernel
theorem dX7_drums_29 : decode cX7_drums 29 = .ok (.iconst 0, 1) := by decide +kernel
theorem dX7_drums_30 : decode cX7_drums 30 = .ok (.istore 4, 2) := by decide +kernel
theorem dX7_drums_32 : decode cX7_drums 32 = .ok (.iload 4, 2) := by decide +kernel
theorem dX7_drums_34 : decode cX7_drums 34 = .ok (.aload_n 0, 1) := by decide +kernel
theorem dX7_drums_35 : decode cX7_drums 35 = .ok (.getfield 7, 3) := by decide +kernel
theorem dX7_drums_38 : decode cX7_drums 38 = .ok (.iconst 1, 1) := by decide +kernel
theorem dX7_drums_39 : decode cX7_drums 39 = .ok (.iaload, 1) := by decide +kernel
theorem dX7_drums_40 : decode cX7_drums 40 = .ok (.if_icmp .ge 39, 3) := by decide +kernel
theorem dX7_drums_43 : decode cX7_drums 43 = .ok (.iload_n 3, 1) := by decide +kernel
theorem dX7_drums_44 : decode cX7_drums 44 = .ok (.ifCond .eq 27, 3) := by decide +kernel
theorem dX7_drums_47 : decode cX7_drums 47 = .ok (.iload_n 1, 1) := by decide +kernel
theorem dX7_drums_48 : decode cX7_drums 48 = .ok (.iload 4, 2) := by decide +kernel
theorem dX7_drums_50 : decode cX7_drums 50 = .ok (.invokestatic 186, 3) := by decide +kernel
theorem dX7_drums_53 : decode cX7_drums 53 = .ok (.ifCond .eq 14, 3) := by decide +kernel
theorem dX7_drums_56 : decode cX7_drums 56 = .ok (.aload_n 0, 1) := by decide +kernel
theorem dX7_drums_57 : decode cX7_drums 57 = .ok (.iload 4, 2) := by decide +kernel
theorem dX7_drums_59 : decode cX7_drums 59 = .ok (.iconst 1, 1) := by decide +kernel
theorem dX7_drums_60 : decode cX7_drums 60 = .ok (.invokevirtual 89, 3) := by decide +kernel
theorem dX7_drums_63 : decode cX7_drums 63 = .ok (.iload_n 2, 1) := by decide +kernel
theorem dX7_drums_64 : decode cX7_drums 64 = .ok (.if_icmp .gt 7, 3) := by decide +kernel
theorem dX7_drums_67 : decode cX7_drums 67 = .ok (.iconst 1, 1) := by decide +kernel
theorem dX7_drums_68 : decode cX7_drums 68 = .ok (.goto 4, 3) := by decide +kernel
theorem dX7_drums_71 : decode cX7_drums 71 = .ok (.iconst 0, 1) := by decide +kernel
theorem dX7_drums_72 : decode cX7_drums 72 = .ok (.istore_n 3, 1) := by decide +kernel
theorem dX7_drums_73 : decode cX7_drums 73 = .ok (.iinc 4 1, 3) := by decide +kernel
theorem dX7_drums_76 : decode cX7_drums 76 = .ok (.goto (-44), 3) := by decide +kernel
theorem dX7_drums_79 : decode cX7_drums 79 = .ok (.iload_n 3, 1) := by decide +kernel
theorem dX7_drums_80 : decode cX7_drums 80 = .ok (.ifCond .ne 10, 3) := by decide +kernel
theorem dX7_drums_83 : decode cX7_drums 83 = .ok (.aload_n 0, 1) := by decide +kernel
theorem dX7_drums_84 : decode cX7_drums 84 = .ok (.ldc 157, 2) := by decide +kernel
theorem dX7_drums_86 : decode cX7_drums 86 = .ok (.invokevirtual 59, 3) := by decide +kernel
theorem dX7_drums_89 : decode cX7_drums 89 = .ok (.ireturn, 1) := by decide +kernel
theorem dX7_drums_90 : decode cX7_drums 90 = .ok (.aload_n 0, 1) := by decide +kernel
theorem dX7_drums_91 : decode cX7_drums 91 = .ok (.getfield 22, 3) := by decide +kernel
theorem dX7_drums_94 : decode cX7_drums 94 = .ok (.iconst 0, 1) := by decide +kernel
theorem dX7_drums_95 : decode cX7_drums 95 = .ok (.iconst 0, 1) := by decide +kernel
theorem dX7_drums_96 : decode cX7_drums 96 = .ok (.iastore, 1) := by decide +kernel
theorem dX7_drums_97 : decode cX7_drums 97 = .ok (.iconst 1, 1) := by decide +kernel
theorem dX7_drums_98 : decode cX7_drums 98 = .ok (.istore 4, 2) := by decide +kernel
theorem dX7_drums_100 : decode cX7_drums 100 = .ok (.iload 4, 2) := by decide +kernel
theorem dX7_drums_102 : decode cX7_drums 102 = .ok (.iload_n 1, 1) := by decide +kernel
theorem dX7_drums_103 : decode cX7_drums 103 = .ok (.if_icmp .gt 173, 3) := by decide +kernel
theorem dX7_drums_106 : decode cX7_drums 106 = .ok (.aload_n 0, 1) := by decide +kernel
theorem dX7_drums_107 : decode cX7_drums 107 = .ok (.getfield 22, 3) := by decide +kernel
theorem dX7_drums_110 : decode cX7_drums 110 = .ok (.iload 4, 2) := by decide +kernel
theorem dX7_drums_112 : decode cX7_drums 112 = .ok (.ldc 203, 2) := by decide +kernel
theorem dX7_drums_114 : decode cX7_drums 114 = .ok (.iastore, 1) := by decide +kernel
theorem dX7_drums_115 : decode cX7_drums 115 = .ok (.iconst 0, 1) := by decide +kernel
theorem dX7_drums_116 : decode cX7_drums 116 = .ok (.istore 5, 2) := by decide +kernel
theorem dX7_drums_118 : decode cX7_drums 118 = .ok (.iload 5, 2) := by decide +kernel
theorem dX7_drums_120 : decode cX7_drums 120 = .ok (.aload_n 0, 1) := by decide +kernel
theorem dX7_drums_121 : decode cX7_drums 121 = .ok (.getfield 7, 3) := by decide +kernel
theorem dX7_drums_124 : decode cX7_drums 124 = .ok (.iconst 1, 1) := by decide +kernel
theorem dX7_drums_125 : decode cX7_drums 125 = .ok (.iaload, 1) := by decide +kernel
theorem dX7_drums_126 : decode cX7_drums 126 = .ok (.if_icmp .ge 144, 3) := by decide +kernel
theorem dX7_drums_129 : decode cX7_drums 129 = .ok (.iload 4, 2) := by decide +kernel
theorem dX7_drums_131 : decode cX7_drums 131 = .ok (.iload_n 1, 1) := by decide +kernel
theorem dX7_drums_132 : decode cX7_drums 132 = .ok (.iconst (-1), 1) := by decide +kernel
theorem dX7_drums_133 : decode cX7_drums 133 = .ok (.ixor, 1) := by decide +kernel
theorem dX7_drums_134 : decode cX7_drums 134 = .ok (.iand, 1) := by decide +kernel
theorem dX7_drums_135 : decode cX7_drums 135 = .ok (.ifCond .ne 135, 3) := by decide +kernel
theorem dX7_drums_138 : decode cX7_drums 138 = .ok (.iload 4, 2) := by decide +kernel
theorem dX7_drums_140 : decode cX7_drums 140 = .ok (.iload 5, 2) := by decide +kernel
theorem dX7_drums_142 : decode cX7_drums 142 = .ok (.invokestatic 186, 3) := by decide +kernel
theorem dX7_drums_145 : decode cX7_drums 145 = .ok (.ifCond .eq 119, 3) := by decide +kernel
theorem dX7_drums_148 : decode cX7_drums 148 = .ok (.aload_n 0, 1) := by decide +kernel
theorem dX7_drums_149 : decode cX7_drums 149 = .ok (.getfield 22, 3) := by decide +kernel
theorem dX7_drums_152 : decode cX7_drums 152 = .ok (.iload 4, 2) := by decide +kernel
theorem dX7_drums_154 : decode cX7_drums 154 = .ok (.iconst 1, 1) := by decide +kernel
theorem dX7_drums_155 : decode cX7_drums 155 = .ok (.iload 5, 2) := by decide +kernel
theorem dX7_drums_157 : decode cX7_drums 157 = .ok (.ishl, 1) := by decide +kernel
theorem dX7_drums_158 : decode cX7_drums 158 = .ok (.iconst (-1), 1) := by decide +kernel
theorem dX7_drums_159 : decode cX7_drums 159 = .ok (.ixor, 1) := by decide +kernel
theorem dX7_drums_160 : decode cX7_drums 160 = .ok (.iand, 1) := by decide +kernel
theorem dX7_drums_161 : decode cX7_drums 161 = .ok (.iaload, 1) := by decide +kernel
theorem dX7_drums_162 : decode cX7_drums 162 = .ok (.istore 6, 2) := by decide +kernel
theorem dX7_drums_164 : decode cX7_drums 164 = .ok (.aload_n 0, 1) := by decide +kernel
theorem dX7_drums_165 : decode cX7_drums 165 = .ok (.iload 5, 2) := by decide +kernel
theorem dX7_drums_167 : decode cX7_drums 167 = .ok (.iconst 1, 1) := by decide +kernel
theorem dX7_drums_168 : decode cX7_drums 168 = .ok (.invokevirtual 89, 3) := by decide +kernel
theorem dX7_drums_171 : decode cX7_drums 171 = .ok (.istore 7, 2) := by decide +kernel
theorem dX7_drums_173 : decode cX7_drums 173 = .ok (.iload 6, 2) := by decide +kernel
theorem dX7_drums_175 : decode cX7_drums 175 = .ok (.sipush 1000, 3) := by decide +kernel
theorem dX7_drums_178 : decode cX7_drums 178 = .ok (.if_icmp .lt 20, 3) := by decide +kernel
theorem dX7_drums_181 : decode cX7_drums 181 = .ok (.iload 6, 2) := by decide +kernel
theorem dX7_drums_183 : decode cX7_drums 183 = .ok (.sipush 1000, 3) := by decide +kernel
theorem dX7_drums_186 : decode cX7_drums 186 = .ok (.irem, 1) := by decide +kernel
theorem dX7_drums_187 : decode cX7_drums 187 = .ok (.iload 7, 2) := by decide +kernel
theorem dX7_drums_189 : decode cX7_drums 189 = .ok (.iadd, 1) := by decide +kernel
theorem dX7_drums_190 : decode cX7_drums 190 = .ok (.iload_n 2, 1) := by decide +kernel
theorem dX7_drums_191 : decode cX7_drums 191 = .ok (.if_icmp .gt 7, 3) := by decide +kernel
theorem dX7_drums_194 : decode cX7_drums 194 = .ok (.iconst 1, 1) := by decide +kernel
theorem dX7_drums_195 : decode cX7_drums 195 = .ok (.goto 4, 3) := by decide +kernel
theorem dX7_drums_198 : decode cX7_drums 198 = .ok (.iconst 0, 1) := by decide +kernel
theorem dX7_drums_199 : decode cX7_drums 199 = .ok (.istore 8, 2) := by decide +kernel
theorem dX7_drums_201 : decode cX7_drums 201 = .ok (.iload 8, 2) := by decide +kernel
theorem dX7_drums_203 : decode cX7_drums 203 = .ok (.ifCond .eq 11, 3) := by decide +kernel
theorem dX7_drums_206 : decode cX7_drums 206 = .ok (.iload 6, 2) := by decide +kernel
theorem dX7_drums_208 : decode cX7_drums 208 = .ok (.iload 7, 2) := by decide +kernel
theorem dX7_drums_210 : decode cX7_drums 210 = .ok (.iadd, 1) := by decide +kernel
theorem dX7_drums_211 : decode cX7_drums 211 = .ok (.goto 20, 3) := by decide +kernel
theorem dX7_drums_214 : decode cX7_drums 214 = .ok (.iload 6, 2) := by decide +kernel
theorem dX7_drums_216 : decode cX7_drums 216 = .ok (.sipush 1000, 3) := by decide +kernel
theorem dX7_drums_219 : decode cX7_drums 219 = .ok (.idiv, 1) := by decide +kernel
theorem dX7_drums_220 : decode cX7_drums 220 = .ok (.sipush 1000, 3) := by decide +kernel
theorem dX7_drums_223 : decode cX7_drums 223 = .ok (.imul, 1) := by decide +kernel
theorem dX7_drums_224 : decode cX7_drums 224 = .ok (.sipush 1000, 3) := by decide +kernel
theorem dX7_drums_227 : decode cX7_drums 227 = .ok (.iadd, 1) := by decide +kernel
theorem dX7_drums_228 : decode cX7_drums 228 = .ok (.iload 7, 2) := by decide +kernel
theorem dX7_drums_230 : decode cX7_drums 230 = .ok (.iadd, 1) := by decide +kernel
theorem dX7_drums_231 : decode cX7_drums 231 = .ok (.istore 9, 2) := by decide +kernel
theorem dX7_drums_233 : decode cX7_drums 233 = .ok (.aload_n 0, 1) := by decide +kernel
theorem dX7_drums_234 : decode cX7_drums 234 = .ok (.getfield 22, 3) := by decide +kernel
theorem dX7_drums_237 : decode cX7_drums 237 = .ok (.iload 4, 2) := by decide +kernel
theorem dX7_drums_239 : decode cX7_drums 239 = .ok (.iload 9, 2) := by decide +kernel
theorem dX7_drums_241 : decode cX7_drums 241 = .ok (.aload_n 0, 1) := by decide +kernel
theorem dX7_drums_242 : decode cX7_drums 242 = .ok (.getfield 22, 3) := by decide +kernel
theorem dX7_drums_245 : decode cX7_drums 245 = .ok (.iload 4, 2) := by decide +kernel
theorem dX7_drums_247 : decode cX7_drums 247 = .ok (.iaload, 1) := by decide +kernel
theorem dX7_drums_248 : decode cX7_drums 248 = .ok (.if_icmp .ge 8, 3) := by decide +kernel
theorem dX7_drums_251 : decode cX7_drums 251 = .ok (.iload 9, 2) := by decide +kernel
theorem dX7_drums_253 : decode cX7_drums 253 = .ok (.goto 10, 3) := by decide +kernel
theorem dX7_drums_256 : decode cX7_drums 256 = .ok (.aload_n 0, 1) := by decide +kernel
theorem dX7_drums_257 : decode cX7_drums 257 = .ok (.getfield 22, 3) := by decide +kernel
theorem dX7_drums_260 : decode cX7_drums 260 = .ok (.iload 4, 2) := by decide +kernel
theorem dX7_drums_262 : decode cX7_drums 262 = .ok (.iaload, 1) := by decide +kernel
theorem dX7_drums_263 : decode cX7_drums 263 = .ok (.iastore, 1) := by decide +kernel
theorem dX7_drums_264 : decode cX7_drums 264 = .ok (.iinc 5 1, 3) := by decide +kernel
theorem dX7_drums_267 : decode cX7_drums 267 = .ok (.goto (-149), 3) := by decide +kernel
theorem dX7_drums_270 : decode cX7_drums 270 = .ok (.iinc 4 1, 3) := by decide +kernel
theorem dX7_drums_273 : decode cX7_drums 273 = .ok (.goto (-173), 3) := by decide +kernel
theorem dX7_drums_276 : decode cX7_drums 276 = .ok (.aload_n 0, 1) := by decide +kernel
theorem dX7_drums_277 : decode cX7_drums 277 = .ok (.getfield 22, 3) := by decide +kernel
theorem dX7_drums_280 : decode cX7_drums 280 = .ok (.iload_n 1, 1) := by decide +kernel
theorem dX7_drums_281 : decode cX7_drums 281 = .ok (.iaload, 1) := by decide +kernel
theorem dX7_drums_282 : decode cX7_drums 282 = .ok (.sipush 1000, 3) := by decide +kernel
theorem dX7_drums_285 : decode cX7_drums 285 = .ok (.idiv, 1) := by decide +kernel
theorem dX7_drums_286 : decode cX7_drums 286 = .ok (.ireturn, 1) := by decide +kernel
theorem dX7_findLine_0 : decode cX7_findLine 0 = .ok (.aload_n 0, 1) := by decide +kernel
theorem dX7_findLine_1 : decode cX7_findLine 1 = .ok (.iconst 0, 1) := by decide +kernel
theorem dX7_findLine_2 : decode cX7_findLine 2 = .ok (.putfield 204, 3) := by decide +kernel
theorem dX7_findLine_5 : decode cX7_findLine 5 = .ok (.iconst 1, 1) := by decide +kernel
theorem dX7_findLine_6 : decode cX7_findLine 6 = .ok (.istore_n 1, 1) := by decide +kernel
theorem dX7_findLine_7 : decode cX7_findLine 7 = .ok (.iload_n 1, 1) := by decide +kernel
theorem dX7_findLine_8 : decode cX7_findLine 8 = .ok (.bipush 100, 2) := by decide +kernel
theorem dX7_findLine_10 : decode cX7_findLine 10 = .ok (.if_icmp .ge 78, 3) := by decide +kernel
theorem dX7_findLine_13 : decode cX7_findLine 13 = .ok (.iconst 0, 1) := by decide +kernel
theorem dX7_findLine_14 : decode cX7_findLine 14 = .ok (.istore_n 2, 1) := by decide +kernel
theorem dX7_findLine_15 : decode cX7_findLine 15 = .ok (.iload_n 2, 1) := by decide +kernel
theorem dX7_findLine_16 : decode cX7_findLine 16 = .ok (.aload_n 0, 1) := by decide +kernel
theorem dX7_findLine_17 : decode cX7_findLine 17 = .ok (.getfield 7, 3) := by decide +kernel
theorem dX7_findLine_20 : decode cX7_findLine 20 = .ok (.iconst 1, 1) := by decide +kernel
theorem dX7_findLine_21 : decode cX7_findLine 21 = .ok (.iaload, 1) := by decide +kernel
theorem dX7_findLine_22 : decode cX7_findLine 22 = .ok (.if_icmp .ge 60, 3) := by decide +kernel
theorem dX7_findLine_25 : decode cX7_findLine 25 = .ok (.aload_n 0, 1) := by decide +kernel
theorem dX7_findLine_26 : decode cX7_findLine 26 = .ok (.iload_n 2, 1) := by decide +kernel
theorem dX7_findLine_27 : decode cX7_findLine 27 = .ok (.bipush 6, 2) := by decide +kernel
theorem dX7_findLine_29 : decode cX7_findLine 29 = .ok (.invokevirtual 89, 3) := by decide +kernel
theorem dX7_findLine_32 : decode cX7_findLine 32 = .ok (.ifCond .ne 44, 3) := by decide +kernel
theorem dX7_findLine_35 : decode cX7_findLine 35 = .ok (.aload_n 0, 1) := by decide +kernel
theorem dX7_findLine_36 : decode cX7_findLine 36 = .ok (.iload_n 2, 1) := by decide +kernel
theorem dX7_findLine_37 : decode cX7_findLine 37 = .ok (.iconst 4, 1) := by decide +kernel
theorem dX7_findLine_38 : decode cX7_findLine 38 = .ok (.invokevirtual 89, 3) := by decide +kernel
theorem dX7_findLine_41 : decode cX7_findLine 41 = .ok (.bipush 30, 2) := by decide +kernel
theorem dX7_findLine_43 : decode cX7_findLine 43 = .ok (.if_icmp .ne 33, 3) := by decide +kernel
theorem dX7_findLine_46 : decode cX7_findLine 46 = .ok (.aload_n 0, 1) := by decide +kernel
theorem dX7_findLine_47 : decode cX7_findLine 47 = .ok (.iload_n 2, 1) := by decide +kernel
theorem dX7_findLine_48 : decode cX7_findLine 48 = .ok (.iconst 1, 1) := by decide +kernel
theorem dX7_findLine_49 : decode cX7_findLine 49 = .ok (.invokevirtual 89, 3) := by decide +kernel
theorem dX7_findLine_52 : decode cX7_findLine 52 = .ok (.iload_n 1, 1) := by decide +kernel
theorem dX7_findLine_53 : decode cX7_findLine 53 = .ok (.if_icmp .ne 23, 3) := by decide +kernel
theorem dX7_findLine_56 : decode cX7_findLine 56 = .ok (.aload_n 0, 1) := by decide +kernel
theorem dX7_findLine_57 : decode cX7_findLine 57 = .ok (.getfield 25, 3) := by decide +kernel
theorem dX7_findLine_60 : decode cX7_findLine 60 = .ok (.aload_n 0, 1) := by decide +kernel
theorem dX7_findLine_61 : decode cX7_findLine 61 = .ok (.getfield 204, 3) := by decide +kernel
theorem dX7_findLine_64 : decode cX7_findLine 64 = .ok (.iload_n 2, 1) := by decide +kernel
theorem dX7_findLine_65 : decode cX7_findLine 65 = .ok (.iastore, 1) := by decide +kernel
theorem dX7_findLine_66 : decode cX7_findLine 66 = .ok (.aload_n 0, 1) := by decide +kernel
theorem dX7_findLine_67 : decode cX7_findLine 67 = .ok (.dup, 1) := by decide +kernel
theorem dX7_findLine_68 : decode cX7_findLine 68 = .ok (.getfield 204, 3) := by decide +kernel
theorem dX7_findLine_71 : decode cX7_findLine 71 = .ok (.iconst 1, 1) := by decide +kernel
theorem dX7_findLine_72 : decode cX7_findLine 72 = .ok (.iadd, 1) := by decide +kernel
theorem dX7_findLine_73 : decode cX7_findLine 73 = .ok (.putfield 204, 3) := by decide +kernel
theorem dX7_findLine_76 : decode cX7_findLine 76 = .ok (.iinc 2 1, 3) := by decide +kernel
theorem dX7_findLine_79 : decode cX7_findLine 79 = .ok (.goto (-64), 3) := by decide +kernel
theorem dX7_findLine_82 : decode cX7_findLine 82 = .ok (.iinc 1 1, 3) := by decide +kernel
theorem dX7_findLine_85 : decode cX7_findLine 85 = .ok (.goto (-78), 3) := by decide +kernel
theorem dX7_findLine_88 : decode cX7_findLine 88 = .ok (.return_, 1) := by decide +kernel
theorem dX7_minutesUp_0 : decode cX7_minutesUp 0 = .ok (.aload_n 0, 1) := by decide +kernel
theorem dX7_minutesUp_1 : decode cX7_minutesUp 1 = .ok (.iload_n 1, 1) := by decide +kernel
theorem dX7_minutesUp_2 : decode cX7_minutesUp 2 = .ok (.iconst 1, 1) := by decide +kernel
theorem dX7_minutesUp_3 : decode cX7_minutesUp 3 = .ok (.invokevirtual 89, 3) := by decide +kernel
theorem dX7_minutesUp_6 : decode cX7_minutesUp 6 = .ok (.bipush 10, 2) := by decide +kernel
theorem dX7_minutesUp_8 : decode cX7_minutesUp 8 = .ok (.idiv, 1) := by decide +kernel
theorem dX7_minutesUp_9 : decode cX7_minutesUp 9 = .ok (.iconst 1, 1) := by decide +kernel
theorem dX7_minutesUp_10 : decode cX7_minutesUp 10 = .ok (.iadd, 1) := by decide +kernel
theorem dX7_minutesUp_11 : decode cX7_minutesUp 11 = .ok (.ireturn, 1) := by decide +kernel
theorem dX7_waits_0 : decode cX7_waits 0 = .ok (.iconst 0, 1) := by decide +kernel
theorem dX7_waits_1 : decode cX7_waits 1 = .ok (.istore_n 1, 1) := by decide +kernel
theorem dX7_waits_2 : decode cX7_waits 2 = .ok (.iconst 0, 1) := by decide +kernel
theorem dX7_waits_3 : decode cX7_waits 3 = .ok (.istore_n 2, 1) := by decide +kernel
theorem dX7_waits_4 : decode cX7_waits 4 = .ok (.iconst 0, 1) := by decide +kernel
theorem dX7_waits_5 : decode cX7_waits 5 = .ok (.istore_n 3, 1) := by decide +kernel
theorem dX7_waits_6 : decode cX7_waits 6 = .ok (.iload_n 3, 1) := by decide +kernel
theorem dX7_waits_7 : decode cX7_waits 7 = .ok (.aload_n 0, 1) := by decide +kernel
theorem dX7_waits_8 : decode cX7_waits 8 = .ok (.getfield 7, 3) := by decide +kernel
theorem dX7_waits_11 : decode cX7_waits 11 = .ok (.iconst 1, 1) := by decide +kernel
theorem dX7_waits_12 : decode cX7_waits 12 = .ok (.iaload, 1) := by decide +kernel
theorem dX7_waits_13 : decode cX7_waits 13 = .ok (.if_icmp .ge 42, 3) := by decide +kernel
theorem dX7_waits_16 : decode cX7_waits 16 = .ok (.aload_n 0, 1) := by decide +kernel
theorem dX7_waits_17 : decode cX7_waits 17 = .ok (.iload_n 3, 1) := by decide +kernel
theorem dX7_waits_18 : decode cX7_waits 18 = .ok (.bipush 6, 2) := by decide +kernel
theorem dX7_waits_20 : decode cX7_waits 20 = .ok (.invokevirtual 89, 3) := by decide +kernel
theorem dX7_waits_23 : decode cX7_waits 23 = .ok (.ifCond .ne 26, 3) := by decide +kernel
theorem dX7_waits_26 : decode cX7_waits 26 = .ok (.aload_n 0, 1) := by decide +kernel
theorem dX7_waits_27 : decode cX7_waits 27 = .ok (.iload_n 3, 1) := by decide +kernel
theorem dX7_waits_28 : decode cX7_waits 28 = .ok (.iconst 4, 1) := by decide +kernel
theorem dX7_waits_29 : decode cX7_waits 29 = .ok (.invokevirtual 89, 3) := by decide +kernel
theorem dX7_waits_32 : decode cX7_waits 32 = .ok (.bipush 30, 2) := by decide +kernel
theorem dX7_waits_34 : decode cX7_waits 34 = .ok (.if_icmp .ne 15, 3) := by decide +kernel
theorem dX7_waits_37 : decode cX7_waits 37 = .ok (.iload_n 2, 1) := by decide +kernel
theorem dX7_waits_38 : decode cX7_waits 38 = .ok (.aload_n 0, 1) := by decide +kernel
theorem dX7_waits_39 : decode cX7_waits 39 = .ok (.iload_n 3, 1) := by decide +kernel
theorem dX7_waits_40 : decode cX7_waits 40 = .ok (.invokevirtual 207, 3) := by decide +kernel
theorem dX7_waits_43 : decode cX7_waits 43 = .ok (.iadd, 1) := by decide +kernel
theorem dX7_waits_44 : decode cX7_waits 44 = .ok (.istore_n 2, 1) := by decide +kernel
theorem dX7_waits_45 : decode cX7_waits 45 = .ok (.iload_n 1, 1) := by decide +kernel
theorem dX7_waits_46 : decode cX7_waits 46 = .ok (.iload_n 2, 1) := by decide +kernel
theorem dX7_waits_47 : decode cX7_waits 47 = .ok (.iadd, 1) := by decide +kernel
theorem dX7_waits_48 : decode cX7_waits 48 = .ok (.istore_n 1, 1) := by decide +kernel
theorem dX7_waits_49 : decode cX7_waits 49 = .ok (.iinc 3 1, 3) := by decide +kernel
theorem dX7_waits_52 : decode cX7_waits 52 = .ok (.goto (-46), 3) := by decide +kernel
theorem dX7_waits_55 : decode cX7_waits 55 = .ok (.iload_n 1, 1) := by decide +kernel
theorem dX7_waits_56 : decode cX7_waits 56 = .ok (.ireturn, 1) := by decide +kernel
theorem dX7_least_0 : decode cX7_least 0 = .ok (.aload_n 0, 1) := by decide +kernel
theorem dX7_least_1 : decode cX7_least 1 = .ok (.invokevirtual 210, 3) := by decide +kernel
theorem dX7_least_4 : decode cX7_least 4 = .ok (.iconst 0, 1) := by decide +kernel
theorem dX7_least_5 : decode cX7_least 5 = .ok (.istore_n 1, 1) := by decide +kernel
theorem dX7_least_6 : decode cX7_least 6 = .ok (.iconst 0, 1) := by decide +kernel
theorem dX7_least_7 : decode cX7_least 7 = .ok (.istore_n 2, 1) := by decide +kernel
theorem dX7_least_8 : decode cX7_least 8 = .ok (.iconst 0, 1) := by decide +kernel
theorem dX7_least_9 : decode cX7_least 9 = .ok (.istore_n 3, 1) := by decide +kernel
theorem dX7_least_10 : decode cX7_least 10 = .ok (.iload_n 3, 1) := by decide +kernel
theorem dX7_least_11 : decode cX7_least 11 = .ok (.aload_n 0, 1) := by decide +kernel
theorem dX7_least_12 : decode cX7_least 12 = .ok (.getfield 204, 3) := by decide +kernel
theorem dX7_least_15 : decode cX7_least 15 = .ok (.if_icmp .ge 26, 3) := by decide +kernel
theorem dX7_least_18 : decode cX7_least 18 = .ok (.iload_n 2, 1) := by decide +kernel
theorem dX7_least_19 : decode cX7_least 19 = .ok (.aload_n 0, 1) := by decide +kernel
theorem dX7_least_20 : decode cX7_least 20 = .ok (.aload_n 0, 1) := by decide +kernel
theorem dX7_least_21 : decode cX7_least 21 = .ok (.getfield 25, 3) := by decide +kernel
theorem dX7_least_24 : decode cX7_least 24 = .ok (.iload_n 3, 1) := by decide +kernel
theorem dX7_least_25 : decode cX7_least 25 = .ok (.iaload, 1) := by decide +kernel
theorem dX7_least_26 : decode cX7_least 26 = .ok (.invokevirtual 207, 3) := by decide +kernel
theorem dX7_least_29 : decode cX7_least 29 = .ok (.iadd, 1) := by decide +kernel
theorem dX7_least_30 : decode cX7_least 30 = .ok (.istore_n 2, 1) := by decide +kernel
theorem dX7_least_31 : decode cX7_least 31 = .ok (.iload_n 1, 1) := by decide +kernel
theorem dX7_least_32 : decode cX7_least 32 = .ok (.iload_n 2, 1) := by decide +kernel
theorem dX7_least_33 : decode cX7_least 33 = .ok (.iadd, 1) := by decide +kernel
theorem dX7_least_34 : decode cX7_least 34 = .ok (.istore_n 1, 1) := by decide +kernel
theorem dX7_least_35 : decode cX7_least 35 = .ok (.iinc 3 1, 3) := by decide +kernel
theorem dX7_least_38 : decode cX7_least 38 = .ok (.goto (-28), 3) := by decide +kernel
theorem dX7_least_41 : decode cX7_least 41 = .ok (.iload_n 1, 1) := by decide +kernel
theorem dX7_least_42 : decode cX7_least 42 = .ok (.ireturn, 1) := by decide +kernel
theorem dX7_order_0 : decode cX7_order 0 = .ok (.iload_n 1, 1) := by decide +kernel
theorem dX7_order_1 : decode cX7_order 1 = .ok (.i2l, 1) := by decide +kernel
theorem dX7_order_2 : decode cX7_order 2 = .ok (.lconst 0, 1) := by decide +kernel
theorem dX7_order_3 : decode cX7_order 3 = .ok (.ldc2_w 57, 3) := by decide +kernel
theorem dX7_order_6 : decode cX7_order 6 = .ok (.invokestatic 46, 3) := by decide +kernel
theorem dX7_order_9 : decode cX7_order 9 = .ok (.ifCond .ne 10, 3) := by decide +kernel
theorem dX7_order_12 : decode cX7_order 12 = .ok (.aload_n 0, 1) := by decide +kernel
theorem dX7_order_13 : decode cX7_order 13 = .ok (.ldc 43, 2) := by decide +kernel
theorem dX7_order_15 : decode cX7_order 15 = .ok (.invokevirtual 59, 3) := by decide +kernel
theorem dX7_order_18 : decode cX7_order 18 = .ok (.ireturn, 1) := by decide +kernel
theorem dX7_order_19 : decode cX7_order 19 = .ok (.aload_n 0, 1) := by decide +kernel
theorem dX7_order_20 : decode cX7_order 20 = .ok (.invokevirtual 210, 3) := by decide +kernel
theorem dX7_order_23 : decode cX7_order 23 = .ok (.iload_n 1, 1) := by decide +kernel
theorem dX7_order_24 : decode cX7_order 24 = .ok (.aload_n 0, 1) := by decide +kernel
theorem dX7_order_25 : decode cX7_order 25 = .ok (.getfield 204, 3) := by decide +kernel
theorem dX7_order_28 : decode cX7_order 28 = .ok (.if_icmp .ge 12, 3) := by decide +kernel
theorem dX7_order_31 : decode cX7_order 31 = .ok (.aload_n 0, 1) := by decide +kernel
theorem dX7_order_32 : decode cX7_order 32 = .ok (.getfield 25, 3) := by decide +kernel
theorem dX7_order_35 : decode cX7_order 35 = .ok (.iload_n 1, 1) := by decide +kernel
theorem dX7_order_36 : decode cX7_order 36 = .ok (.iaload, 1) := by decide +kernel
theorem dX7_order_37 : decode cX7_order 37 = .ok (.goto 9, 3) := by decide +kernel
theorem dX7_order_40 : decode cX7_order 40 = .ok (.aload_n 0, 1) := by decide +kernel
theorem dX7_order_41 : decode cX7_order 41 = .ok (.ldc 157, 2) := by decide +kernel
theorem dX7_order_43 : decode cX7_order 43 = .ok (.invokevirtual 59, 3) := by decide +kernel
theorem dX7_order_46 : decode cX7_order 46 = .ok (.ireturn, 1) := by decide +kernel
theorem dX7_wheel_0 : decode cX7_wheel 0 = .ok (.iload_n 1, 1) := by decide +kernel
theorem dX7_wheel_1 : decode cX7_wheel 1 = .ok (.i2l, 1) := by decide +kernel
theorem dX7_wheel_2 : decode cX7_wheel 2 = .ok (.lconst 1, 1) := by decide +kernel
theorem dX7_wheel_3 : decode cX7_wheel 3 = .ok (.ldc2_w 201, 3) := by decide +kernel
theorem dX7_wheel_6 : decode cX7_wheel 6 = .ok (.invokestatic 46, 3) := by decide +kernel
theorem dX7_wheel_9 : decode cX7_wheel 9 = .ok (.ifCond .ne 10, 3) := by decide +kernel
theorem dX7_wheel_12 : decode cX7_wheel 12 = .ok (.aload_n 0, 1) := by decide +kernel
theorem dX7_wheel_13 : decode cX7_wheel 13 = .ok (.ldc 43, 2) := by decide +kernel
theorem dX7_wheel_15 : decode cX7_wheel 15 = .ok (.invokevirtual 59, 3) := by decide +kernel
theorem dX7_wheel_18 : decode cX7_wheel 18 = .ok (.ireturn, 1) := by decide +kernel
theorem dX7_wheel_19 : decode cX7_wheel 19 = .ok (.aload_n 0, 1) := by decide +kernel
theorem dX7_wheel_20 : decode cX7_wheel 20 = .ok (.invokevirtual 210, 3) := by decide +kernel
theorem dX7_wheel_23 : decode cX7_wheel 23 = .ok (.iload_n 1, 1) := by decide +kernel
theorem dX7_wheel_24 : decode cX7_wheel 24 = .ok (.istore_n 2, 1) := by decide +kernel
theorem dX7_wheel_25 : decode cX7_wheel 25 = .ok (.iconst 0, 1) := by decide +kernel
theorem dX7_wheel_26 : decode cX7_wheel 26 = .ok (.istore_n 3, 1) := by decide +kernel
theorem dX7_wheel_27 : decode cX7_wheel 27 = .ok (.iload_n 3, 1) := by decide +kernel
theorem dX7_wheel_28 : decode cX7_wheel 28 = .ok (.aload_n 0, 1) := by decide +kernel
theorem dX7_wheel_29 : decode cX7_wheel 29 = .ok (.getfield 204, 3) := by decide +kernel
theorem dX7_wheel_32 : decode cX7_wheel 32 = .ok (.if_icmp .ge 53, 3) := by decide +kernel
theorem dX7_wheel_35 : decode cX7_wheel 35 = .ok (.aload_n 0, 1) := by decide +kernel
theorem dX7_wheel_36 : decode cX7_wheel 36 = .ok (.aload_n 0, 1) := by decide +kernel
theorem dX7_wheel_37 : decode cX7_wheel 37 = .ok (.getfield 25, 3) := by decide +kernel
theorem dX7_wheel_40 : decode cX7_wheel 40 = .ok (.iload_n 3, 1) := by decide +kernel
theorem dX7_wheel_41 : decode cX7_wheel 41 = .ok (.iaload, 1) := by decide +kernel
theorem dX7_wheel_42 : decode cX7_wheel 42 = .ok (.invokevirtual 207, 3) := by decide +kernel
theorem dX7_wheel_45 : decode cX7_wheel 45 = .ok (.iload_n 2, 1) := by decide +kernel
theorem dX7_wheel_46 : decode cX7_wheel 46 = .ok (.if_icmp .gt 39, 3) := by decide +kernel
theorem dX7_wheel_49 : decode cX7_wheel 49 = .ok (.iload_n 2, 1) := by decide +kernel
theorem dX7_wheel_50 : decode cX7_wheel 50 = .ok (.aload_n 0, 1) := by decide +kernel
theorem dX7_wheel_51 : decode cX7_wheel 51 = .ok (.aload_n 0, 1) := by decide +kernel
theorem dX7_wheel_52 : decode cX7_wheel 52 = .ok (.getfield 25, 3) := by decide +kernel
theorem dX7_wheel_55 : decode cX7_wheel 55 = .ok (.iload_n 3, 1) := by decide +kernel
theorem dX7_wheel_56 : decode cX7_wheel 56 = .ok (.iaload, 1) := by decide +kernel
theorem dX7_wheel_57 : decode cX7_wheel 57 = .ok (.invokevirtual 207, 3) := by decide +kernel
theorem dX7_wheel_60 : decode cX7_wheel 60 = .ok (.isub, 1) := by decide +kernel
theorem dX7_wheel_61 : decode cX7_wheel 61 = .ok (.istore_n 2, 1) := by decide +kernel
theorem dX7_wheel_62 : decode cX7_wheel 62 = .ok (.aload_n 0, 1) := by decide +kernel
theorem dX7_wheel_63 : decode cX7_wheel 63 = .ok (.getfield 7, 3) := by decide +kernel
theorem dX7_wheel_66 : decode cX7_wheel 66 = .ok (.aload_n 0, 1) := by decide +kernel
theorem dX7_wheel_67 : decode cX7_wheel 67 = .ok (.getfield 25, 3) := by decide +kernel
theorem dX7_wheel_70 : decode cX7_wheel 70 = .ok (.iload_n 3, 1) := by decide +kernel
theorem dX7_wheel_71 : decode cX7_wheel 71 = .ok (.iaload, 1) := by decide +kernel
theorem dX7_wheel_72 : decode cX7_wheel 72 = .ok (.bipush 6, 2) := by decide +kernel
theorem dX7_wheel_74 : decode cX7_wheel 74 = .ok (.invokestatic 72, 3) := by decide +kernel
theorem dX7_wheel_77 : decode cX7_wheel 77 = .ok (.iconst 3, 1) := by decide +kernel
theorem dX7_wheel_78 : decode cX7_wheel 78 = .ok (.iastore, 1) := by decide +kernel
theorem dX7_wheel_79 : decode cX7_wheel 79 = .ok (.iinc 3 1, 3) := by decide +kernel
theorem dX7_wheel_82 : decode cX7_wheel 82 = .ok (.goto (-55), 3) := by decide +kernel
theorem dX7_wheel_85 : decode cX7_wheel 85 = .ok (.iload_n 3, 1) := by decide +kernel
theorem dX7_wheel_86 : decode cX7_wheel 86 = .ok (.ireturn, 1) := by decide +kernel
theorem dX7_odds_0 : decode cX7_odds 0 = .ok (.aload_n 0, 1) := by decide +kernel
theorem dX7_odds_1 : decode cX7_odds 1 = .ok (.iload_n 1, 1) := by decide +kernel
theorem dX7_odds_2 : decode cX7_odds 2 = .ok (.invokevirtual 92, 3) := by decide +kernel
theorem dX7_odds_5 : decode cX7_odds 5 = .ok (.ifCond .eq 15, 3) := by decide +kernel
theorem dX7_odds_8 : decode cX7_odds 8 = .ok (.iload_n 2, 1) := by decide +kernel
theorem dX7_odds_9 : decode cX7_odds 9 = .ok (.i2l, 1) := by decide +kernel
theorem dX7_odds_10 : decode cX7_odds 10 = .ok (.lconst 1, 1) := by decide +kernel
theorem dX7_odds_11 : decode cX7_odds 11 = .ok (.ldc2_w 213, 3) := by decide +kernel
theorem dX7_odds_14 : decode cX7_odds 14 = .ok (.invokestatic 46, 3) := by decide +kernel
theorem dX7_odds_17 : decode cX7_odds 17 = .ok (.ifCond .ne 10, 3) := by decide +kernel
theorem dX7_odds_20 : decode cX7_odds 20 = .ok (.aload_n 0, 1) := by decide +kernel
theorem dX7_odds_21 : decode cX7_odds 21 = .ok (.ldc 43, 2) := by decide +kernel
theorem dX7_odds_23 : decode cX7_odds 23 = .ok (.invokevirtual 59, 3) := by decide +kernel
theorem dX7_odds_26 : decode cX7_odds 26 = .ok (.ireturn, 1) := by decide +kernel
theorem dX7_odds_27 : decode cX7_odds 27 = .ok (.aload_n 0, 1) := by decide +kernel
theorem dX7_odds_28 : decode cX7_odds 28 = .ok (.iload_n 1, 1) := by decide +kernel
theorem dX7_odds_29 : decode cX7_odds 29 = .ok (.invokevirtual 106, 3) := by decide +kernel
theorem dX7_odds_32 : decode cX7_odds 32 = .ok (.ifCond .eq 13, 3) := by decide +kernel
theorem dX7_odds_35 : decode cX7_odds 35 = .ok (.aload_n 0, 1) := by decide +kernel
theorem dX7_odds_36 : decode cX7_odds 36 = .ok (.sipush 200, 3) := by decide +kernel
theorem dX7_odds_39 : decode cX7_odds 39 = .ok (.invokevirtual 132, 3) := by decide +kernel
theorem dX7_odds_42 : decode cX7_odds 42 = .ok (.ifCond .eq 10, 3) := by decide +kernel
theorem dX7_odds_45 : decode cX7_odds 45 = .ok (.aload_n 0, 1) := by decide +kernel
theorem dX7_odds_46 : decode cX7_odds 46 = .ok (.ldc 109, 2) := by decide +kernel
theorem dX7_odds_48 : decode cX7_odds 48 = .ok (.invokevirtual 59, 3) := by decide +kernel
theorem dX7_odds_51 : decode cX7_odds 51 = .ok (.ireturn, 1) := by decide +kernel
theorem dX7_odds_52 : decode cX7_odds 52 = .ok (.iconst 0, 1) := by decide +kernel
theorem dX7_odds_53 : decode cX7_odds 53 = .ok (.istore_n 3, 1) := by decide +kernel
theorem dX7_odds_54 : decode cX7_odds 54 = .ok (.iconst 0, 1) := by decide +kernel
theorem dX7_odds_55 : decode cX7_odds 55 = .ok (.istore 4, 2) := by decide +kernel
theorem dX7_odds_57 : decode cX7_odds 57 = .ok (.iload 4, 2) := by decide +kernel
theorem dX7_odds_59 : decode cX7_odds 59 = .ok (.iload_n 2, 1) := by decide +kernel
theorem dX7_odds_60 : decode cX7_odds 60 = .ok (.if_icmp .ge 40, 3) := by decide +kernel
theorem dX7_odds_63 : decode cX7_odds 63 = .ok (.aload_n 0, 1) := by decide +kernel
theorem dX7_odds_64 : decode cX7_odds 64 = .ok (.iload_n 1, 1) := by decide +kernel
theorem dX7_odds_65 : decode cX7_odds 65 = .ok (.bipush 10, 2) := by decide +kernel
theorem dX7_odds_67 : decode cX7_odds 67 = .ok (.aload_n 0, 1) := by decide +kernel
theorem dX7_odds_68 : decode cX7_odds 68 = .ok (.invokevirtual 215, 3) := by decide +kernel
theorem dX7_odds_71 : decode cX7_odds 71 = .ok (.bipush 30, 2) := by decide +kernel
theorem dX7_odds_73 : decode cX7_odds 73 = .ok (.irem, 1) := by decide +kernel
theorem dX7_odds_74 : decode cX7_odds 74 = .ok (.iadd, 1) := by decide +kernel
theorem dX7_odds_75 : decode cX7_odds 75 = .ok (.invokevirtual 173, 3) := by decide +kernel
theorem dX7_odds_78 : decode cX7_odds 78 = .ok (.iload_n 3, 1) := by decide +kernel
theorem dX7_odds_79 : decode cX7_odds 79 = .ok (.aload_n 0, 1) := by decide +kernel
theorem dX7_odds_80 : decode cX7_odds 80 = .ok (.getfield 167, 3) := by decide +kernel
theorem dX7_odds_83 : decode cX7_odds 83 = .ok (.iconst 2, 1) := by decide +kernel
theorem dX7_odds_84 : decode cX7_odds 84 = .ok (.if_icmp .ne 7, 3) := by decide +kernel
theorem dX7_odds_87 : decode cX7_odds 87 = .ok (.iconst 1, 1) := by decide +kernel
theorem dX7_odds_88 : decode cX7_odds 88 = .ok (.goto 4, 3) := by decide +kernel
theorem dX7_odds_91 : decode cX7_odds 91 = .ok (.iconst 0, 1) := by decide +kernel
theorem dX7_odds_92 : decode cX7_odds 92 = .ok (.iadd, 1) := by decide +kernel
theorem dX7_odds_93 : decode cX7_odds 93 = .ok (.istore_n 3, 1) := by decide +kernel
theorem dX7_odds_94 : decode cX7_odds 94 = .ok (.iinc 4 1, 3) := by decide +kernel
theorem dX7_odds_97 : decode cX7_odds 97 = .ok (.goto (-40), 3) := by decide +kernel
theorem dX7_odds_100 : decode cX7_odds 100 = .ok (.iload_n 3, 1) := by decide +kernel
theorem dX7_odds_101 : decode cX7_odds 101 = .ok (.ireturn, 1) := by decide +kernel
theorem dX7_worst_0 : decode cX7_worst 0 = .ok (.iconst (-1), 1) := by decide +kernel
theorem dX7_worst_1 : decode cX7_worst 1 = .ok (.istore_n 1, 1) := by decide +kernel
theorem dX7_worst_2 : decode cX7_worst 2 = .ok (.iconst 0, 1) := by decide +kernel
theorem dX7_worst_3 : decode cX7_worst 3 = .ok (.istore_n 2, 1) := by decide +kernel
theorem dX7_worst_4 : decode cX7_worst 4 = .ok (.iconst 0, 1) := by decide +kernel
theorem dX7_worst_5 : decode cX7_worst 5 = .ok (.istore_n 3, 1) := by decide +kernel
theorem dX7_worst_6 : decode cX7_worst 6 = .ok (.iload_n 3, 1) := by decide +kernel
theorem dX7_worst_7 : decode cX7_worst 7 = .ok (.aload_n 0, 1) := by decide +kernel
theorem dX7_worst_8 : decode cX7_worst 8 = .ok (.getfield 7, 3) := by decide +kernel
theorem dX7_worst_11 : decode cX7_worst 11 = .ok (.iconst 1, 1) := by decide +kernel
theorem dX7_worst_12 : decode cX7_worst 12 = .ok (.iaload, 1) := by decide +kernel
theorem dX7_worst_13 : decode cX7_worst 13 = .ok (.if_icmp .ge 49, 3) := by decide +kernel
theorem dX7_worst_16 : decode cX7_worst 16 = .ok (.aload_n 0, 1) := by decide +kernel
theorem dX7_worst_17 : decode cX7_worst 17 = .ok (.iload_n 3, 1) := by decide +kernel
theorem dX7_worst_18 : decode cX7_worst 18 = .ok (.bipush 7, 2) := by decide +kernel
theorem dX7_worst_20 : decode cX7_worst 20 = .ok (.invokevirtual 89, 3) := by decide +kernel
theorem dX7_worst_23 : decode cX7_worst 23 = .ok (.iload_n 2, 1) := by decide +kernel
theorem dX7_worst_24 : decode cX7_worst 24 = .ok (.if_icmp .le 7, 3) := by decide +kernel
theorem dX7_worst_27 : decode cX7_worst 27 = .ok (.iload_n 3, 1) := by decide +kernel
theorem dX7_worst_28 : decode cX7_worst 28 = .ok (.goto 4, 3) := by decide +kernel
theorem dX7_worst_31 : decode cX7_worst 31 = .ok (.iload_n 1, 1) := by decide +kernel
theorem dX7_worst_32 : decode cX7_worst 32 = .ok (.istore_n 1, 1) := by decide +kernel
theorem dX7_worst_33 : decode cX7_worst 33 = .ok (.aload_n 0, 1) := by decide +kernel
theorem dX7_worst_34 : decode cX7_worst 34 = .ok (.iload_n 3, 1) := by decide +kernel
theorem dX7_worst_35 : decode cX7_worst 35 = .ok (.bipush 7, 2) := by decide +kernel
theorem dX7_worst_37 : decode cX7_worst 37 = .ok (.invokevirtual 89, 3) := by decide +kernel
theorem dX7_worst_40 : decode cX7_worst 40 = .ok (.iload_n 2, 1) := by decide +kernel
theorem dX7_worst_41 : decode cX7_worst 41 = .ok (.if_icmp .le 13, 3) := by decide +kernel
theorem dX7_worst_44 : decode cX7_worst 44 = .ok (.aload_n 0, 1) := by decide +kernel
theorem dX7_worst_45 : decode cX7_worst 45 = .ok (.iload_n 3, 1) := by decide +kernel
theorem dX7_worst_46 : decode cX7_worst 46 = .ok (.bipush 7, 2) := by decide +kernel
theorem dX7_worst_48 : decode cX7_worst 48 = .ok (.invokevirtual 89, 3) := by decide +kernel
theorem dX7_worst_51 : decode cX7_worst 51 = .ok (.goto 4, 3) := by decide +kernel
theorem dX7_worst_54 : decode cX7_worst 54 = .ok (.iload_n 2, 1) := by decide +kernel
theorem dX7_worst_55 : decode cX7_worst 55 = .ok (.istore_n 2, 1) := by decide +kernel
theorem dX7_worst_56 : decode cX7_worst 56 = .ok (.iinc 3 1, 3) := by decide +kernel
theorem dX7_worst_59 : decode cX7_worst 59 = .ok (.goto (-53), 3) := by decide +kernel
theorem dX7_worst_62 : decode cX7_worst 62 = .ok (.iload_n 1, 1) := by decide +kernel
theorem dX7_worst_63 : decode cX7_worst 63 = .ok (.ifCond .ge 12, 3) := by decide +kernel
theorem dX7_worst_66 : decode cX7_worst 66 = .ok (.aload_n 0, 1) := by decide +kernel
theorem dX7_worst_67 : decode cX7_worst 67 = .ok (.ldc 157, 2) := by decide +kernel
theorem dX7_worst_69 : decode cX7_worst 69 = .ok (.invokevirtual 59, 3) := by decide +kernel
theorem dX7_worst_72 : decode cX7_worst 72 = .ok (.goto 4, 3) := by decide +kernel
theorem dX7_worst_75 : decode cX7_worst 75 = .ok (.iload_n 1, 1) := by decide +kernel
theorem dX7_worst_76 : decode cX7_worst 76 = .ok (.ireturn, 1) := by decide +kernel
theorem dX7_seed_0 : decode cX7_seed 0 = .ok (.aload_n 0, 1) := by decide +kernel
theorem dX7_seed_1 : decode cX7_seed 1 = .ok (.getfield 7, 3) := by decide +kernel
theorem dX7_seed_4 : decode cX7_seed 4 = .ok (.iconst 4, 1) := by decide +kernel
theorem dX7_seed_5 : decode cX7_seed 5 = .ok (.iaload, 1) := by decide +kernel
theorem dX7_seed_6 : decode cX7_seed 6 = .ok (.istore_n 2, 1) := by decide +kernel
theorem dX7_seed_7 : decode cX7_seed 7 = .ok (.aload_n 0, 1) := by decide +kernel
theorem dX7_seed_8 : decode cX7_seed 8 = .ok (.getfield 7, 3) := by decide +kernel
theorem dX7_seed_11 : decode cX7_seed 11 = .ok (.iconst 4, 1) := by decide +kernel
theorem dX7_seed_12 : decode cX7_seed 12 = .ok (.iload_n 1, 1) := by decide +kernel
theorem dX7_seed_13 : decode cX7_seed 13 = .ok (.iastore, 1) := by decide +kernel
theorem dX7_seed_14 : decode cX7_seed 14 = .ok (.iload_n 2, 1) := by decide +kernel
theorem dX7_seed_15 : decode cX7_seed 15 = .ok (.ireturn, 1) := by decide +kernel
theorem dX7_feed_0 : decode cX7_feed 0 = .ok (.iload_n 2, 1) := by decide +kernel
theorem dX7_feed_1 : decode cX7_feed 1 = .ok (.i2l, 1) := by decide +kernel
theorem dX7_feed_2 : decode cX7_feed 2 = .ok (.lconst 1, 1) := by decide +kernel
theorem dX7_feed_3 : decode cX7_feed 3 = .ok (.ldc2_w 63, 3) := by decide +kernel
theorem dX7_feed_6 : decode cX7_feed 6 = .ok (.invokestatic 46, 3) := by decide +kernel
theorem dX7_feed_9 : decode cX7_feed 9 = .ok (.ifCond .ne 10, 3) := by decide +kernel
theorem dX7_feed_12 : decode cX7_feed 12 = .ok (.aload_n 0, 1) := by decide +kernel
theorem dX7_feed_13 : decode cX7_feed 13 = .ok (.ldc 43, 2) := by decide +kernel
theorem dX7_feed_15 : decode cX7_feed 15 = .ok (.invokevirtual 59, 3) := by decide +kernel
theorem dX7_feed_18 : decode cX7_feed 18 = .ok (.ireturn, 1) := by decide +kernel
theorem dX7_feed_19 : decode cX7_feed 19 = .ok (.aload_n 0, 1) := by decide +kernel
theorem dX7_feed_20 : decode cX7_feed 20 = .ok (.getfield 219, 3) := by decide +kernel
theorem dX7_feed_23 : decode cX7_feed 23 = .ok (.iload_n 2, 1) := by decide +kernel
theorem dX7_feed_24 : decode cX7_feed 24 = .ok (.iadd, 1) := by decide +kernel
theorem dX7_feed_25 : decode cX7_feed 25 = .ok (.bipush 120, 2) := by decide +kernel
theorem dX7_feed_27 : decode cX7_feed 27 = .ok (.if_icmp .le 10, 3) := by decide +kernel
theorem dX7_feed_30 : decode cX7_feed 30 = .ok (.aload_n 0, 1) := by decide +kernel
theorem dX7_feed_31 : decode cX7_feed 31 = .ok (.ldc 84, 2) := by decide +kernel
theorem dX7_feed_33 : decode cX7_feed 33 = .ok (.invokevirtual 59, 3) := by decide +kernel
theorem dX7_feed_36 : decode cX7_feed 36 = .ok (.ireturn, 1) := by decide +kernel
theorem dX7_feed_37 : decode cX7_feed 37 = .ok (.iload_n 2, 1) := by decide +kernel
theorem dX7_feed_38 : decode cX7_feed 38 = .ok (.iconst 1, 1) := by decide +kernel
theorem dX7_feed_39 : decode cX7_feed 39 = .ok (.isub, 1) := by decide +kernel
theorem dX7_feed_40 : decode cX7_feed 40 = .ok (.istore_n 3, 1) := by decide +kernel
theorem dX7_feed_41 : decode cX7_feed 41 = .ok (.iload_n 3, 1) := by decide +kernel
theorem dX7_feed_42 : decode cX7_feed 42 = .ok (.ifCond .lt 38, 3) := by decide +kernel
theorem dX7_feed_45 : decode cX7_feed 45 = .ok (.aload_n 0, 1) := by decide +kernel
theorem dX7_feed_46 : decode cX7_feed 46 = .ok (.getfield 28, 3) := by decide +kernel
theorem dX7_feed_49 : decode cX7_feed 49 = .ok (.aload_n 0, 1) := by decide +kernel
theorem dX7_feed_50 : decode cX7_feed 50 = .ok (.getfield 219, 3) := by decide +kernel
theorem dX7_feed_53 : decode cX7_feed 53 = .ok (.iload_n 1, 1) := by decide +kernel
theorem dX7_feed_54 : decode cX7_feed 54 = .ok (.bipush 8, 2) := by decide +kernel
theorem dX7_feed_56 : decode cX7_feed 56 = .ok (.iload_n 3, 1) := by decide +kernel
theorem dX7_feed_57 : decode cX7_feed 57 = .ok (.imul, 1) := by decide +kernel
theorem dX7_feed_58 : decode cX7_feed 58 = .ok (.ishr, 1) := by decide +kernel
theorem dX7_feed_59 : decode cX7_feed 59 = .ok (.sipush 255, 3) := by decide +kernel
theorem dX7_feed_62 : decode cX7_feed 62 = .ok (.iand, 1) := by decide +kernel
theorem dX7_feed_63 : decode cX7_feed 63 = .ok (.iastore, 1) := by decide +kernel
theorem dX7_feed_64 : decode cX7_feed 64 = .ok (.aload_n 0, 1) := by decide +kernel
theorem dX7_feed_65 : decode cX7_feed 65 = .ok (.dup, 1) := by decide +kernel
theorem dX7_feed_66 : decode cX7_feed 66 = .ok (.getfield 219, 3) := by decide +kernel
theorem dX7_feed_69 : decode cX7_feed 69 = .ok (.iconst 1, 1) := by decide +kernel
theorem dX7_feed_70 : decode cX7_feed 70 = .ok (.iadd, 1) := by decide +kernel
theorem dX7_feed_71 : decode cX7_feed 71 = .ok (.putfield 219, 3) := by decide +kernel
theorem dX7_feed_74 : decode cX7_feed 74 = .ok (.iinc 3 (-1), 3) := by decide +kernel
theorem dX7_feed_77 : decode cX7_feed 77 = .ok (.goto (-36), 3) := by decide +kernel
theorem dX7_feed_80 : decode cX7_feed 80 = .ok (.aload_n 0, 1) := by decide +kernel
theorem dX7_feed_81 : decode cX7_feed 81 = .ok (.getfield 219, 3) := by decide +kernel
theorem dX7_feed_84 : decode cX7_feed 84 = .ok (.ireturn, 1) := by decide +kernel
theorem dX7_wipe_0 : decode cX7_wipe 0 = .ok (.aload_n 0, 1) := by decide +kernel
theorem dX7_wipe_1 : decode cX7_wipe 1 = .ok (.getfield 219, 3) := by decide +kernel
theorem dX7_wipe_4 : decode cX7_wipe 4 = .ok (.istore_n 1, 1) := by decide +kernel
theorem dX7_wipe_5 : decode cX7_wipe 5 = .ok (.aload_n 0, 1) := by decide +kernel
theorem dX7_wipe_6 : decode cX7_wipe 6 = .ok (.iconst 0, 1) := by decide +kernel
theorem dX7_wipe_7 : decode cX7_wipe 7 = .ok (.putfield 219, 3) := by decide +kernel
theorem dX7_wipe_10 : decode cX7_wipe 10 = .ok (.iload_n 1, 1) := by decide +kernel
theorem dX7_wipe_11 : decode cX7_wipe 11 = .ok (.ireturn, 1) := by decide +kernel
theorem dX7_byteAt_0 : decode cX7_byteAt 0 = .ok (.iload_n 1, 1) := by decide +kernel
theorem dX7_byteAt_1 : decode cX7_byteAt 1 = .ok (.aload_n 0, 1) := by decide +kernel
theorem dX7_byteAt_2 : decode cX7_byteAt 2 = .ok (.getfield 219, 3) := by decide +kernel
theorem dX7_byteAt_5 : decode cX7_byteAt 5 = .ok (.if_icmp .ge 12, 3) := by decide +kernel
theorem dX7_byteAt_8 : decode cX7_byteAt 8 = .ok (.aload_n 0, 1) := by decide +kernel
theorem dX7_byteAt_9 : decode cX7_byteAt 9 = .ok (.getfield 28, 3) := by decide +kernel
theorem dX7_byteAt_12 : decode cX7_byteAt 12 = .ok (.iload_n 1, 1) := by decide +kernel
theorem dX7_byteAt_13 : decode cX7_byteAt 13 = .ok (.iaload, 1) := by decide +kernel
theorem dX7_byteAt_14 : decode cX7_byteAt 14 = .ok (.goto 4, 3) := by decide +kernel
theorem dX7_byteAt_17 : decode cX7_byteAt 17 = .ok (.iconst (-1), 1) := by decide +kernel
theorem dX7_byteAt_18 : decode cX7_byteAt 18 = .ok (.ireturn, 1) := by decide +kernel
theorem dX7_isLetter_0 : decode cX7_isLetter 0 = .ok (.iload_n 0, 1) := by decide +kernel
theorem dX7_isLetter_1 : decode cX7_isLetter 1 = .ok (.i2l, 1) := by decide +kernel
theorem dX7_isLetter_2 : decode cX7_isLetter 2 = .ok (.ldc2_w 222, 3) := by decide +kernel
theorem dX7_isLetter_5 : decode cX7_isLetter 5 = .ok (.ldc2_w 224, 3) := by decide +kernel
theorem dX7_isLetter_8 : decode cX7_isLetter 8 = .ok (.invokestatic 46, 3) := by decide +kernel
theorem dX7_isLetter_11 : decode cX7_isLetter 11 = .ok (.ireturn, 1) := by decide +kernel
theorem dX7_isDigit_0 : decode cX7_isDigit 0 = .ok (.iload_n 0, 1) := by decide +kernel
theorem dX7_isDigit_1 : decode cX7_isDigit 1 = .ok (.i2l, 1) := by decide +kernel
theorem dX7_isDigit_2 : decode cX7_isDigit 2 = .ok (.ldc2_w 226, 3) := by decide +kernel
theorem dX7_isDigit_5 : decode cX7_isDigit 5 = .ok (.ldc2_w 228, 3) := by decide +kernel
theorem dX7_isDigit_8 : decode cX7_isDigit 8 = .ok (.invokestatic 46, 3) := by decide +kernel
theorem dX7_isDigit_11 : decode cX7_isDigit 11 = .ok (.ireturn, 1) := by decide +kernel
theorem dX7_token_0 : decode cX7_token 0 = .ok (.aload_n 0, 1) := by decide +kernel
theorem dX7_token_1 : decode cX7_token 1 = .ok (.aload_n 0, 1) := by decide +kernel
theorem dX7_token_2 : decode cX7_token 2 = .ok (.getfield 230, 3) := by decide +kernel
theorem dX7_token_5 : decode cX7_token 5 = .ok (.putfield 233, 3) := by decide +kernel
theorem dX7_token_8 : decode cX7_token 8 = .ok (.aload_n 0, 1) := by decide +kernel
theorem dX7_token_9 : decode cX7_token 9 = .ok (.aload_n 0, 1) := by decide +kernel
theorem dX7_token_10 : decode cX7_token 10 = .ok (.getfield 233, 3) := by decide +kernel
theorem dX7_token_13 : decode cX7_token 13 = .ok (.invokevirtual 236, 3) := by decide +kernel
theorem dX7_token_16 : decode cX7_token 16 = .ok (.bipush 32, 2) := by decide +kernel
theorem dX7_token_18 : decode cX7_token 18 = .ok (.if_icmp .ne 16, 3) := by decide +kernel
theorem dX7_token_21 : decode cX7_token 21 = .ok (.aload_n 0, 1) := by decide +kernel
theorem dX7_token_22 : decode cX7_token 22 = .ok (.dup, 1) := by decide +kernel
theorem dX7_token_23 : decode cX7_token 23 = .ok (.getfield 233, 3) := by decide +kernel
theorem dX7_token_26 : decode cX7_token 26 = .ok (.iconst 1, 1) := by decide +kernel
theorem dX7_token_27 : decode cX7_token 27 = .ok (.iadd, 1) := by decide +kernel
theorem dX7_token_28 : decode cX7_token 28 = .ok (.putfield 233, 3) := by decide +kernel
theorem dX7_token_31 : decode cX7_token 31 = .ok (.goto (-23), 3) := by decide +kernel
theorem dX7_token_34 : decode cX7_token 34 = .ok (.aload_n 0, 1) := by decide +kernel
theorem dX7_token_35 : decode cX7_token 35 = .ok (.aload_n 0, 1) := by decide +kernel
theorem dX7_token_36 : decode cX7_token 36 = .ok (.getfield 233, 3) := by decide +kernel
theorem dX7_token_39 : decode cX7_token 39 = .ok (.invokevirtual 236, 3) := by decide +kernel
theorem dX7_token_42 : decode cX7_token 42 = .ok (.invokestatic 239, 3) := by decide +kernel
theorem dX7_token_45 : decode cX7_token 45 = .ok (.istore_n 1, 1) := by decide +kernel
theorem dX7_token_46 : decode cX7_token 46 = .ok (.aload_n 0, 1) := by decide +kernel
theorem dX7_token_47 : decode cX7_token 47 = .ok (.aload_n 0, 1) := by decide +kernel
theorem dX7_token_48 : decode cX7_token 48 = .ok (.getfield 233, 3) := by decide +kernel
theorem dX7_token_51 : decode cX7_token 51 = .ok (.invokevirtual 236, 3) := by decide +kernel
theorem dX7_token_54 : decode cX7_token 54 = .ok (.invokestatic 242, 3) := by decide +kernel
theorem dX7_token_57 : decode cX7_token 57 = .ok (.istore_n 2, 1) := by decide +kernel
theorem dX7_token_58 : decode cX7_token 58 = .ok (.aload_n 0, 1) := by decide +kernel
theorem dX7_token_59 : decode cX7_token 59 = .ok (.aload_n 0, 1) := by decide +kernel
theorem dX7_token_60 : decode cX7_token 60 = .ok (.getfield 233, 3) := by decide +kernel
theorem dX7_token_63 : decode cX7_token 63 = .ok (.aload_n 0, 1) := by decide +kernel
theorem dX7_token_64 : decode cX7_token 64 = .ok (.getfield 219, 3) := by decide +kernel
theorem dX7_token_67 : decode cX7_token 67 = .ok (.if_icmp .ge 12, 3) := by decide +kernel
theorem dX7_token_70 : decode cX7_token 70 = .ok (.aload_n 0, 1) := by decide +kernel
theorem dX7_token_71 : decode cX7_token 71 = .ok (.getfield 233, 3) := by decide +kernel
theorem dX7_token_74 : decode cX7_token 74 = .ok (.iconst 1, 1) := by decide +kernel
theorem dX7_token_75 : decode cX7_token 75 = .ok (.iadd, 1) := by decide +kernel
theorem dX7_token_76 : decode cX7_token 76 = .ok (.goto 7, 3) := by decide +kernel
theorem dX7_token_79 : decode cX7_token 79 = .ok (.aload_n 0, 1) := by decide +kernel
theorem dX7_token_80 : decode cX7_token 80 = .ok (.getfield 233, 3) := by decide +kernel
theorem dX7_token_83 : decode cX7_token 83 = .ok (.putfield 230, 3) := by decide +kernel
theorem dX7_token_86 : decode cX7_token 86 = .ok (.iload_n 1, 1) := by decide +kernel
theorem dX7_token_87 : decode cX7_token 87 = .ok (.ifCond .eq 17, 3) := by decide +kernel
theorem dX7_token_90 : decode cX7_token 90 = .ok (.aload_n 0, 1) := by decide +kernel
theorem dX7_token_91 : decode cX7_token 91 = .ok (.aload_n 0, 1) := by decide +kernel
theorem dX7_token_92 : decode cX7_token 92 = .ok (.getfield 230, 3) := by decide +kernel
theorem dX7_token_95 : decode cX7_token 95 = .ok (.invokevirtual 236, 3) := by decide +kernel
theorem dX7_token_98 : decode cX7_token 98 = .ok (.invokestatic 239, 3) := by decide +kernel
theorem dX7_token_101 : decode cX7_token 101 = .ok (.ifCond .ne 21, 3) := by decide +kernel
theorem dX7_token_104 : decode cX7_token 104 = .ok (.iload_n 2, 1) := by decide +kernel
theorem dX7_token_105 : decode cX7_token 105 = .ok (.ifCond .eq 30, 3) := by decide +kernel
theorem dX7_token_108 : decode cX7_token 108 = .ok (.aload_n 0, 1) := by decide +kernel
theorem dX7_token_109 : decode cX7_token 109 = .ok (.aload_n 0, 1) := by decide +kernel
theorem dX7_token_110 : decode cX7_token 110 = .ok (.getfield 230, 3) := by decide +kernel
theorem dX7_token_113 : decode cX7_token 113 = .ok (.invokevirtual 236, 3) := by decide +kernel
theorem dX7_token_116 : decode cX7_token 116 = .ok (.invokestatic 242, 3) := by decide +kernel
theorem dX7_token_119 : decode cX7_token 119 = .ok (.ifCond .eq 16, 3) := by decide +kernel
theorem dX7_token_122 : decode cX7_token 122 = .ok (.aload_n 0, 1) := by decide +kernel
theorem dX7_token_123 : decode cX7_token 123 = .ok (.dup, 1) := by decide +kernel
theorem dX7_token_124 : decode cX7_token 124 = .ok (.getfield 230, 3) := by decide +kernel
theorem dX7_token_127 : decode cX7_token 127 = .ok (.iconst 1, 1) := by decide +kernel
theorem dX7_token_128 : decode cX7_token 128 = .ok (.iadd, 1) := by decide +kernel
theorem dX7_token_129 : decode cX7_token 129 = .ok (.putfield 230, 3) := by decide +kernel
theorem dX7_token_132 : decode cX7_token 132 = .ok (.goto (-46), 3) := by decide +kernel
theorem dX7_token_135 : decode cX7_token 135 = .ok (.return_, 1) := by decide +kernel
theorem dX7_needs_0 : decode cX7_needs 0 = .ok (.aload_n 0, 1) := by decide +kernel
theorem dX7_needs_1 : decode cX7_needs 1 = .ok (.aload_n 0, 1) := by decide +kernel
theorem dX7_needs_2 : decode cX7_needs 2 = .ok (.getfield 245, 3) := by decide +kernel
theorem dX7_needs_5 : decode cX7_needs 5 = .ok (.ifCond .ne 7, 3) := by decide +kernel
theorem dX7_needs_8 : decode cX7_needs 8 = .ok (.iload_n 1, 1) := by decide +kernel
theorem dX7_needs_9 : decode cX7_needs 9 = .ok (.ifCond .ne 7, 3) := by decide +kernel
theorem dX7_needs_12 : decode cX7_needs 12 = .ok (.iconst 1, 1) := by decide +kernel
theorem dX7_needs_13 : decode cX7_needs 13 = .ok (.goto 4, 3) := by decide +kernel
theorem dX7_needs_16 : decode cX7_needs 16 = .ok (.iconst 0, 1) := by decide +kernel
theorem dX7_needs_17 : decode cX7_needs 17 = .ok (.putfield 245, 3) := by decide +kernel
theorem dX7_needs_20 : decode cX7_needs 20 = .ok (.aload_n 0, 1) := by decide +kernel
theorem dX7_needs_21 : decode cX7_needs 21 = .ok (.getfield 245, 3) := by decide +kernel
theorem dX7_needs_24 : decode cX7_needs 24 = .ok (.ifCond .ne 7, 3) := by decide +kernel
theorem dX7_needs_27 : decode cX7_needs 27 = .ok (.aload_n 0, 1) := by decide +kernel
theorem dX7_needs_28 : decode cX7_needs 28 = .ok (.invokevirtual 249, 3) := by decide +kernel
theorem dX7_needs_31 : decode cX7_needs 31 = .ok (.return_, 1) := by decide +kernel
theorem dX7_word_0 : decode cX7_word 0 = .ok (.lconst 0, 1) := by decide +kernel
theorem dX7_word_1 : decode cX7_word 1 = .ok (.lstore_n 1, 1) := by decide +kernel
theorem dX7_word_2 : decode cX7_word 2 = .ok (.aload_n 0, 1) := by decide +kernel
theorem dX7_word_3 : decode cX7_word 3 = .ok (.getfield 233, 3) := by decide +kernel
theorem dX7_word_6 : decode cX7_word 6 = .ok (.istore_n 3, 1) := by decide +kernel
theorem dX7_word_7 : decode cX7_word 7 = .ok (.iload_n 3, 1) := by decide +kernel
theorem dX7_word_8 : decode cX7_word 8 = .ok (.aload_n 0, 1) := by decide +kernel
theorem dX7_word_9 : decode cX7_word 9 = .ok (.getfield 230, 3) := by decide +kernel
theorem dX7_word_12 : decode cX7_word 12 = .ok (.if_icmp .ge 38, 3) := by decide +kernel
theorem dX7_word_15 : decode cX7_word 15 = .ok (.lload_n 1, 1) := by decide +kernel
theorem dX7_word_16 : decode cX7_word 16 = .ok (.ldc2_w 252, 3) := by decide +kernel
theorem dX7_word_19 : decode cX7_word 19 = .ok (.lcmp, 1) := by decide +kernel
theorem dX7_word_20 : decode cX7_word 20 = .ok (.ifCond .le 7, 3) := by decide +kernel
theorem dX7_word_23 : decode cX7_word 23 = .ok (.lload_n 1, 1) := by decide +kernel
theorem dX7_word_24 : decode cX7_word 24 = .ok (.goto 19, 3) := by decide +kernel
theorem dX7_word_27 : decode cX7_word 27 = .ok (.ldc2_w 254, 3) := by decide +kernel
theorem dX7_word_30 : decode cX7_word 30 = .ok (.lload_n 1, 1) := by decide +kernel
theorem dX7_word_31 : decode cX7_word 31 = .ok (.lmul, 1) := by decide +kernel
theorem dX7_word_32 : decode cX7_word 32 = .ok (.aload_n 0, 1) := by decide +kernel
theorem dX7_word_33 : decode cX7_word 33 = .ok (.getfield 28, 3) := by decide +kernel
theorem dX7_word_36 : decode cX7_word 36 = .ok (.iload_n 3, 1) := by decide +kernel
theorem dX7_word_37 : decode cX7_word 37 = .ok (.iaload, 1) := by decide +kernel
theorem dX7_word_38 : decode cX7_word 38 = .ok (.bipush 96, 2) := by decide +kernel
theorem dX7_word_40 : decode cX7_word 40 = .ok (.isub, 1) := by decide +kernel
theorem dX7_word_41 : decode cX7_word 41 = .ok (.i2l, 1) := by decide +kernel
theorem dX7_word_42 : decode cX7_word 42 = .ok (.ladd, 1) := by decide +kernel
theorem dX7_word_43 : decode cX7_word 43 = .ok (.lstore_n 1, 1) := by decide +kernel
theorem dX7_word_44 : decode cX7_word 44 = .ok (.iinc 3 1, 3) := by decide +kernel
theorem dX7_word_47 : decode cX7_word 47 = .ok (.goto (-40), 3) := by decide +kernel
theorem dX7_word_50 : decode cX7_word 50 = .ok (.aload_n 0, 1) := by decide +kernel
theorem dX7_word_51 : decode cX7_word 51 = .ok (.getfield 245, 3) := by decide +kernel
theorem dX7_word_54 : decode cX7_word 54 = .ok (.ifCond .ne 17, 3) := by decide +kernel
theorem dX7_word_57 : decode cX7_word 57 = .ok (.aload_n 0, 1) := by decide +kernel
theorem dX7_word_58 : decode cX7_word 58 = .ok (.aload_n 0, 1) := by decide +kernel
theorem dX7_word_59 : decode cX7_word 59 = .ok (.getfield 233, 3) := by decide +kernel
theorem dX7_word_62 : decode cX7_word 62 = .ok (.invokevirtual 236, 3) := by decide +kernel
theorem dX7_word_65 : decode cX7_word 65 = .ok (.invokestatic 239, 3) := by decide +kernel
theorem dX7_word_68 : decode cX7_word 68 = .ok (.ifCond .ne 7, 3) := by decide +kernel
theorem dX7_word_71 : decode cX7_word 71 = .ok (.lconst 0, 1) := by decide +kernel
theorem dX7_word_72 : decode cX7_word 72 = .ok (.goto 4, 3) := by decide +kernel
theorem dX7_word_75 : decode cX7_word 75 = .ok (.lload_n 1, 1) := by decide +kernel
theorem dX7_word_76 : decode cX7_word 76 = .ok (.lreturn, 1) := by decide +kernel
theorem dX7_number_0 : decode cX7_number 0 = .ok (.aload_n 0, 1) := by decide +kernel
theorem dX7_number_1 : decode cX7_number 1 = .ok (.getfield 245, 3) := by decide +kernel
theorem dX7_number_4 : decode cX7_number 4 = .ok (.ifCond .eq 4, 3) := by decide +kernel
theorem dX7_number_7 : decode cX7_number 7 = .ok (.return_, 1) := by decide +kernel
theorem dX7_number_8 : decode cX7_number 8 = .ok (.aload_n 0, 1) := by decide +kernel
theorem dX7_number_9 : decode cX7_number 9 = .ok (.aload_n 0, 1) := by decide +kernel
theorem dX7_number_10 : decode cX7_number 10 = .ok (.getfield 233, 3) := by decide +kernel
theorem dX7_number_13 : decode cX7_number 13 = .ok (.invokevirtual 236, 3) := by decide +kernel
theorem dX7_number_16 : decode cX7_number 16 = .ok (.invokestatic 242, 3) := by decide +kernel
theorem dX7_number_19 : decode cX7_number 19 = .ok (.istore_n 3, 1) := by decide +kernel
theorem dX7_number_20 : decode cX7_number 20 = .ok (.iconst 0, 1) := by decide +kernel
theorem dX7_number_21 : decode cX7_number 21 = .ok (.istore 4, 2) := by decide +kernel
theorem dX7_number_23 : decode cX7_number 23 = .ok (.aload_n 0, 1) := by decide +kernel
theorem dX7_number_24 : decode cX7_number 24 = .ok (.getfield 233, 3) := by decide +kernel
theorem dX7_number_27 : decode cX7_number 27 = .ok (.istore 5, 2) := by decide +kernel
theorem dX7_number_29 : decode cX7_number 29 = .ok (.iload 5, 2) := by decide +kernel
theorem dX7_number_31 : decode cX7_number 31 = .ok (.aload_n 0, 1) := by decide +kernel
end
section
theorem dX7_number_32 : decode cX7_number 32 = .ok (.getfield 230, 3) := by decide +kernel
theorem dX7_number_35 : decode cX7_number 35 = .ok (.if_icmp .ge 44, 3) := by decide +kernel
theorem dX7_number_38 : decode cX7_number 38 = .ok (.iload_n 3, 1) := by decide +kernel
theorem dX7_number_39 : decode cX7_number 39 = .ok (.ifCond .eq 40, 3) := by decide +kernel
theorem dX7_number_42 : decode cX7_number 42 = .ok (.iload 4, 2) := by decide +kernel
theorem dX7_number_44 : decode cX7_number 44 = .ok (.sipush 999, 3) := by decide +kernel
theorem dX7_number_47 : decode cX7_number 47 = .ok (.if_icmp .le 8, 3) := by decide +kernel
theorem dX7_number_50 : decode cX7_number 50 = .ok (.iload 4, 2) := by decide +kernel
theorem dX7_number_52 : decode cX7_number 52 = .ok (.goto 19, 3) := by decide +kernel
theorem dX7_number_55 : decode cX7_number 55 = .ok (.bipush 10, 2) := by decide +kernel
theorem dX7_number_57 : decode cX7_number 57 = .ok (.iload 4, 2) := by decide +kernel
theorem dX7_number_59 : decode cX7_number 59 = .ok (.imul, 1) := by decide +kernel
theorem dX7_number_60 : decode cX7_number 60 = .ok (.aload_n 0, 1) := by decide +kernel
theorem dX7_number_61 : decode cX7_number 61 = .ok (.getfield 28, 3) := by decide +kernel
theorem dX7_number_64 : decode cX7_number 64 = .ok (.iload 5, 2) := by decide +kernel
theorem dX7_number_66 : decode cX7_number 66 = .ok (.iaload, 1) := by decide +kernel
theorem dX7_number_67 : decode cX7_number 67 = .ok (.iadd, 1) := by decide +kernel
theorem dX7_number_68 : decode cX7_number 68 = .ok (.bipush 48, 2) := by decide +kernel
theorem dX7_number_70 : decode cX7_number 70 = .ok (.isub, 1) := by decide +kernel
theorem dX7_number_71 : decode cX7_number 71 = .ok (.istore 4, 2) := by decide +kernel
theorem dX7_number_73 : decode cX7_number 73 = .ok (.iinc 5 1, 3) := by decide +kernel
theorem dX7_number_76 : decode cX7_number 76 = .ok (.goto (-47), 3) := by decide +kernel
theorem dX7_number_79 : decode cX7_number 79 = .ok (.aload_n 0, 1) := by decide +kernel
theorem dX7_number_80 : decode cX7_number 80 = .ok (.iload 4, 2) := by decide +kernel
theorem dX7_number_82 : decode cX7_number 82 = .ok (.putfield 256, 3) := by decide +kernel
theorem dX7_number_85 : decode cX7_number 85 = .ok (.aload_n 0, 1) := by decide +kernel
theorem dX7_number_86 : decode cX7_number 86 = .ok (.iload_n 3, 1) := by decide +kernel
theorem dX7_number_87 : decode cX7_number 87 = .ok (.ifCond .eq 20, 3) := by decide +kernel
theorem dX7_number_90 : decode cX7_number 90 = .ok (.iload 4, 2) := by decide +kernel
theorem dX7_number_92 : decode cX7_number 92 = .ok (.i2l, 1) := by decide +kernel
theorem dX7_number_93 : decode cX7_number 93 = .ok (.iload_n 1, 1) := by decide +kernel
theorem dX7_number_94 : decode cX7_number 94 = .ok (.i2l, 1) := by decide +kernel
theorem dX7_number_95 : decode cX7_number 95 = .ok (.iload_n 2, 1) := by decide +kernel
theorem dX7_number_96 : decode cX7_number 96 = .ok (.i2l, 1) := by decide +kernel
theorem dX7_number_97 : decode cX7_number 97 = .ok (.invokestatic 46, 3) := by decide +kernel
theorem dX7_number_100 : decode cX7_number 100 = .ok (.ifCond .eq 7, 3) := by decide +kernel
theorem dX7_number_103 : decode cX7_number 103 = .ok (.iconst 1, 1) := by decide +kernel
theorem dX7_number_104 : decode cX7_number 104 = .ok (.goto 4, 3) := by decide +kernel
theorem dX7_number_107 : decode cX7_number 107 = .ok (.iconst 0, 1) := by decide +kernel
theorem dX7_number_108 : decode cX7_number 108 = .ok (.invokevirtual 259, 3) := by decide +kernel
theorem dX7_number_111 : decode cX7_number 111 = .ok (.return_, 1) := by decide +kernel
theorem dX7_groundHere_0 : decode cX7_groundHere 0 = .ok (.aload_n 0, 1) := by decide +kernel
theorem dX7_groundHere_1 : decode cX7_groundHere 1 = .ok (.invokevirtual 263, 3) := by decide +kernel
theorem dX7_groundHere_4 : decode cX7_groundHere 4 = .ok (.lstore_n 1, 1) := by decide +kernel
theorem dX7_groundHere_5 : decode cX7_groundHere 5 = .ok (.lload_n 1, 1) := by decide +kernel
theorem dX7_groundHere_6 : decode cX7_groundHere 6 = .ok (.ldc2_w 267, 3) := by decide +kernel
theorem dX7_groundHere_9 : decode cX7_groundHere 9 = .ok (.lcmp, 1) := by decide +kernel
theorem dX7_groundHere_10 : decode cX7_groundHere 10 = .ok (.ifCond .ne 7, 3) := by decide +kernel
theorem dX7_groundHere_13 : decode cX7_groundHere 13 = .ok (.iconst 0, 1) := by decide +kernel
theorem dX7_groundHere_14 : decode cX7_groundHere 14 = .ok (.goto 52, 3) := by decide +kernel
theorem dX7_groundHere_17 : decode cX7_groundHere 17 = .ok (.lload_n 1, 1) := by decide +kernel
theorem dX7_groundHere_18 : decode cX7_groundHere 18 = .ok (.ldc2_w 269, 3) := by decide +kernel
theorem dX7_groundHere_21 : decode cX7_groundHere 21 = .ok (.lcmp, 1) := by decide +kernel
theorem dX7_groundHere_22 : decode cX7_groundHere 22 = .ok (.ifCond .ne 7, 3) := by decide +kernel
theorem dX7_groundHere_25 : decode cX7_groundHere 25 = .ok (.iconst 1, 1) := by decide +kernel
theorem dX7_groundHere_26 : decode cX7_groundHere 26 = .ok (.goto 40, 3) := by decide +kernel
theorem dX7_groundHere_29 : decode cX7_groundHere 29 = .ok (.lload_n 1, 1) := by decide +kernel
theorem dX7_groundHere_30 : decode cX7_groundHere 30 = .ok (.ldc2_w 271, 3) := by decide +kernel
theorem dX7_groundHere_33 : decode cX7_groundHere 33 = .ok (.lcmp, 1) := by decide +kernel
theorem dX7_groundHere_34 : decode cX7_groundHere 34 = .ok (.ifCond .ne 7, 3) := by decide +kernel
theorem dX7_groundHere_37 : decode cX7_groundHere 37 = .ok (.iconst 2, 1) := by decide +kernel
theorem dX7_groundHere_38 : decode cX7_groundHere 38 = .ok (.goto 28, 3) := by decide +kernel
theorem dX7_groundHere_41 : decode cX7_groundHere 41 = .ok (.lload_n 1, 1) := by decide +kernel
theorem dX7_groundHere_42 : decode cX7_groundHere 42 = .ok (.ldc2_w 273, 3) := by decide +kernel
theorem dX7_groundHere_45 : decode cX7_groundHere 45 = .ok (.lcmp, 1) := by decide +kernel
theorem dX7_groundHere_46 : decode cX7_groundHere 46 = .ok (.ifCond .ne 7, 3) := by decide +kernel
theorem dX7_groundHere_49 : decode cX7_groundHere 49 = .ok (.iconst 3, 1) := by decide +kernel
theorem dX7_groundHere_50 : decode cX7_groundHere 50 = .ok (.goto 16, 3) := by decide +kernel
theorem dX7_groundHere_53 : decode cX7_groundHere 53 = .ok (.lload_n 1, 1) := by decide +kernel
theorem dX7_groundHere_54 : decode cX7_groundHere 54 = .ok (.ldc2_w 275, 3) := by decide +kernel
theorem dX7_groundHere_57 : decode cX7_groundHere 57 = .ok (.lcmp, 1) := by decide +kernel
theorem dX7_groundHere_58 : decode cX7_groundHere 58 = .ok (.ifCond .ne 7, 3) := by decide +kernel
theorem dX7_groundHere_61 : decode cX7_groundHere 61 = .ok (.iconst 4, 1) := by decide +kernel
theorem dX7_groundHere_62 : decode cX7_groundHere 62 = .ok (.goto 4, 3) := by decide +kernel
theorem dX7_groundHere_65 : decode cX7_groundHere 65 = .ok (.iconst (-1), 1) := by decide +kernel
theorem dX7_groundHere_66 : decode cX7_groundHere 66 = .ok (.ireturn, 1) := by decide +kernel
theorem dX7_kindHere_0 : decode cX7_kindHere 0 = .ok (.aload_n 0, 1) := by decide +kernel
theorem dX7_kindHere_1 : decode cX7_kindHere 1 = .ok (.invokevirtual 263, 3) := by decide +kernel
theorem dX7_kindHere_4 : decode cX7_kindHere 4 = .ok (.lstore_n 1, 1) := by decide +kernel
theorem dX7_kindHere_5 : decode cX7_kindHere 5 = .ok (.lload_n 1, 1) := by decide +kernel
theorem dX7_kindHere_6 : decode cX7_kindHere 6 = .ok (.ldc2_w 277, 3) := by decide +kernel
theorem dX7_kindHere_9 : decode cX7_kindHere 9 = .ok (.lcmp, 1) := by decide +kernel
theorem dX7_kindHere_10 : decode cX7_kindHere 10 = .ok (.ifCond .ne 7, 3) := by decide +kernel
theorem dX7_kindHere_13 : decode cX7_kindHere 13 = .ok (.iconst 0, 1) := by decide +kernel
theorem dX7_kindHere_14 : decode cX7_kindHere 14 = .ok (.goto 77, 3) := by decide +kernel
theorem dX7_kindHere_17 : decode cX7_kindHere 17 = .ok (.lload_n 1, 1) := by decide +kernel
theorem dX7_kindHere_18 : decode cX7_kindHere 18 = .ok (.ldc2_w 279, 3) := by decide +kernel
theorem dX7_kindHere_21 : decode cX7_kindHere 21 = .ok (.lcmp, 1) := by decide +kernel
theorem dX7_kindHere_22 : decode cX7_kindHere 22 = .ok (.ifCond .ne 7, 3) := by decide +kernel
theorem dX7_kindHere_25 : decode cX7_kindHere 25 = .ok (.iconst 1, 1) := by decide +kernel
theorem dX7_kindHere_26 : decode cX7_kindHere 26 = .ok (.goto 65, 3) := by decide +kernel
theorem dX7_kindHere_29 : decode cX7_kindHere 29 = .ok (.lload_n 1, 1) := by decide +kernel
theorem dX7_kindHere_30 : decode cX7_kindHere 30 = .ok (.ldc2_w 281, 3) := by decide +kernel
theorem dX7_kindHere_33 : decode cX7_kindHere 33 = .ok (.lcmp, 1) := by decide +kernel
theorem dX7_kindHere_34 : decode cX7_kindHere 34 = .ok (.ifCond .ne 7, 3) := by decide +kernel
theorem dX7_kindHere_37 : decode cX7_kindHere 37 = .ok (.iconst 2, 1) := by decide +kernel
theorem dX7_kindHere_38 : decode cX7_kindHere 38 = .ok (.goto 53, 3) := by decide +kernel
theorem dX7_kindHere_41 : decode cX7_kindHere 41 = .ok (.lload_n 1, 1) := by decide +kernel
theorem dX7_kindHere_42 : decode cX7_kindHere 42 = .ok (.ldc2_w 283, 3) := by decide +kernel
theorem dX7_kindHere_45 : decode cX7_kindHere 45 = .ok (.lcmp, 1) := by decide +kernel
theorem dX7_kindHere_46 : decode cX7_kindHere 46 = .ok (.ifCond .ne 7, 3) := by decide +kernel
theorem dX7_kindHere_49 : decode cX7_kindHere 49 = .ok (.iconst 3, 1) := by decide +kernel
theorem dX7_kindHere_50 : decode cX7_kindHere 50 = .ok (.goto 41, 3) := by decide +kernel
theorem dX7_kindHere_53 : decode cX7_kindHere 53 = .ok (.lload_n 1, 1) := by decide +kernel
theorem dX7_kindHere_54 : decode cX7_kindHere 54 = .ok (.ldc2_w 285, 3) := by decide +kernel
theorem dX7_kindHere_57 : decode cX7_kindHere 57 = .ok (.lcmp, 1) := by decide +kernel
theorem dX7_kindHere_58 : decode cX7_kindHere 58 = .ok (.ifCond .ne 7, 3) := by decide +kernel
theorem dX7_kindHere_61 : decode cX7_kindHere 61 = .ok (.iconst 4, 1) := by decide +kernel
theorem dX7_kindHere_62 : decode cX7_kindHere 62 = .ok (.goto 29, 3) := by decide +kernel
theorem dX7_kindHere_65 : decode cX7_kindHere 65 = .ok (.lload_n 1, 1) := by decide +kernel
theorem dX7_kindHere_66 : decode cX7_kindHere 66 = .ok (.ldc2_w 287, 3) := by decide +kernel
theorem dX7_kindHere_69 : decode cX7_kindHere 69 = .ok (.lcmp, 1) := by decide +kernel
theorem dX7_kindHere_70 : decode cX7_kindHere 70 = .ok (.ifCond .ne 7, 3) := by decide +kernel
theorem dX7_kindHere_73 : decode cX7_kindHere 73 = .ok (.iconst 5, 1) := by decide +kernel
theorem dX7_kindHere_74 : decode cX7_kindHere 74 = .ok (.goto 17, 3) := by decide +kernel
theorem dX7_kindHere_77 : decode cX7_kindHere 77 = .ok (.lload_n 1, 1) := by decide +kernel
theorem dX7_kindHere_78 : decode cX7_kindHere 78 = .ok (.ldc2_w 289, 3) := by decide +kernel
theorem dX7_kindHere_81 : decode cX7_kindHere 81 = .ok (.lcmp, 1) := by decide +kernel
theorem dX7_kindHere_82 : decode cX7_kindHere 82 = .ok (.ifCond .ne 8, 3) := by decide +kernel
theorem dX7_kindHere_85 : decode cX7_kindHere 85 = .ok (.bipush 6, 2) := by decide +kernel
theorem dX7_kindHere_87 : decode cX7_kindHere 87 = .ok (.goto 4, 3) := by decide +kernel
theorem dX7_kindHere_90 : decode cX7_kindHere 90 = .ok (.iconst (-1), 1) := by decide +kernel
theorem dX7_kindHere_91 : decode cX7_kindHere 91 = .ok (.ireturn, 1) := by decide +kernel
theorem dX7_perhaps_0 : decode cX7_perhaps 0 = .ok (.iload_n 1, 1) := by decide +kernel
theorem dX7_perhaps_1 : decode cX7_perhaps 1 = .ok (.ifCond .ne 6, 3) := by decide +kernel
theorem dX7_perhaps_4 : decode cX7_perhaps 4 = .ok (.iload 4, 2) := by decide +kernel
theorem dX7_perhaps_6 : decode cX7_perhaps 6 = .ok (.ireturn, 1) := by decide +kernel
theorem dX7_perhaps_7 : decode cX7_perhaps 7 = .ok (.aload_n 0, 1) := by decide +kernel
theorem dX7_perhaps_8 : decode cX7_perhaps 8 = .ok (.iconst 1, 1) := by decide +kernel
theorem dX7_perhaps_9 : decode cX7_perhaps 9 = .ok (.invokevirtual 259, 3) := by decide +kernel
theorem dX7_perhaps_12 : decode cX7_perhaps 12 = .ok (.aload_n 0, 1) := by decide +kernel
theorem dX7_perhaps_13 : decode cX7_perhaps 13 = .ok (.iload_n 2, 1) := by decide +kernel
theorem dX7_perhaps_14 : decode cX7_perhaps 14 = .ok (.iload_n 3, 1) := by decide +kernel
theorem dX7_perhaps_15 : decode cX7_perhaps 15 = .ok (.invokevirtual 291, 3) := by decide +kernel
theorem dX7_perhaps_18 : decode cX7_perhaps 18 = .ok (.aload_n 0, 1) := by decide +kernel
theorem dX7_perhaps_19 : decode cX7_perhaps 19 = .ok (.getfield 256, 3) := by decide +kernel
theorem dX7_perhaps_22 : decode cX7_perhaps 22 = .ok (.ireturn, 1) := by decide +kernel
theorem dX7_cells_0 : decode cX7_cells 0 = .ok (.aload_n 0, 1) := by decide +kernel
theorem dX7_cells_1 : decode cX7_cells 1 = .ok (.iconst 1, 1) := by decide +kernel
theorem dX7_cells_2 : decode cX7_cells 2 = .ok (.invokevirtual 259, 3) := by decide +kernel
theorem dX7_cells_5 : decode cX7_cells 5 = .ok (.aload_n 0, 1) := by decide +kernel
theorem dX7_cells_6 : decode cX7_cells 6 = .ok (.iconst 0, 1) := by decide +kernel
theorem dX7_cells_7 : decode cX7_cells 7 = .ok (.bipush 30, 2) := by decide +kernel
theorem dX7_cells_9 : decode cX7_cells 9 = .ok (.invokevirtual 291, 3) := by decide +kernel
theorem dX7_cells_12 : decode cX7_cells 12 = .ok (.aload_n 0, 1) := by decide +kernel
theorem dX7_cells_13 : decode cX7_cells 13 = .ok (.aload_n 0, 1) := by decide +kernel
theorem dX7_cells_14 : decode cX7_cells 14 = .ok (.getfield 256, 3) := by decide +kernel
theorem dX7_cells_17 : decode cX7_cells 17 = .ok (.putfield 293, 3) := by decide +kernel
theorem dX7_cells_20 : decode cX7_cells 20 = .ok (.aload_n 0, 1) := by decide +kernel
theorem dX7_cells_21 : decode cX7_cells 21 = .ok (.aload_n 0, 1) := by decide +kernel
theorem dX7_cells_22 : decode cX7_cells 22 = .ok (.aload_n 0, 1) := by decide +kernel
theorem dX7_cells_23 : decode cX7_cells 23 = .ok (.invokevirtual 263, 3) := by decide +kernel
theorem dX7_cells_26 : decode cX7_cells 26 = .ok (.ldc2_w 296, 3) := by decide +kernel
theorem dX7_cells_29 : decode cX7_cells 29 = .ok (.lcmp, 1) := by decide +kernel
theorem dX7_cells_30 : decode cX7_cells 30 = .ok (.ifCond .ne 7, 3) := by decide +kernel
theorem dX7_cells_33 : decode cX7_cells 33 = .ok (.iconst 1, 1) := by decide +kernel
theorem dX7_cells_34 : decode cX7_cells 34 = .ok (.goto 4, 3) := by decide +kernel
theorem dX7_cells_37 : decode cX7_cells 37 = .ok (.iconst 0, 1) := by decide +kernel
theorem dX7_cells_38 : decode cX7_cells 38 = .ok (.aload_n 0, 1) := by decide +kernel
theorem dX7_cells_39 : decode cX7_cells 39 = .ok (.getfield 293, 3) := by decide +kernel
theorem dX7_cells_42 : decode cX7_cells 42 = .ok (.bipush 30, 2) := by decide +kernel
theorem dX7_cells_44 : decode cX7_cells 44 = .ok (.aload_n 0, 1) := by decide +kernel
theorem dX7_cells_45 : decode cX7_cells 45 = .ok (.getfield 293, 3) := by decide +kernel
theorem dX7_cells_48 : decode cX7_cells 48 = .ok (.invokevirtual 298, 3) := by decide +kernel
theorem dX7_cells_51 : decode cX7_cells 51 = .ok (.putfield 302, 3) := by decide +kernel
theorem dX7_cells_54 : decode cX7_cells 54 = .ok (.return_, 1) := by decide +kernel
theorem dX7_groundItem_0 : decode cX7_groundItem 0 = .ok (.aload_n 0, 1) := by decide +kernel
theorem dX7_groundItem_1 : decode cX7_groundItem 1 = .ok (.invokevirtual 305, 3) := by decide +kernel
theorem dX7_groundItem_4 : decode cX7_groundItem 4 = .ok (.aload_n 0, 1) := by decide +kernel
theorem dX7_groundItem_5 : decode cX7_groundItem 5 = .ok (.getfield 293, 3) := by decide +kernel
theorem dX7_groundItem_8 : decode cX7_groundItem 8 = .ok (.istore_n 2, 1) := by decide +kernel
theorem dX7_groundItem_9 : decode cX7_groundItem 9 = .ok (.iload_n 2, 1) := by decide +kernel
theorem dX7_groundItem_10 : decode cX7_groundItem 10 = .ok (.aload_n 0, 1) := by decide +kernel
theorem dX7_groundItem_11 : decode cX7_groundItem 11 = .ok (.getfield 302, 3) := by decide +kernel
theorem dX7_groundItem_14 : decode cX7_groundItem 14 = .ok (.if_icmp .gt 26, 3) := by decide +kernel
theorem dX7_groundItem_17 : decode cX7_groundItem 17 = .ok (.aload_n 0, 1) := by decide +kernel
theorem dX7_groundItem_18 : decode cX7_groundItem 18 = .ok (.getfield 245, 3) := by decide +kernel
theorem dX7_groundItem_21 : decode cX7_groundItem 21 = .ok (.ifCond .ne 19, 3) := by decide +kernel
theorem dX7_groundItem_24 : decode cX7_groundItem 24 = .ok (.aload_n 0, 1) := by decide +kernel
theorem dX7_groundItem_25 : decode cX7_groundItem 25 = .ok (.getfield 7, 3) := by decide +kernel
theorem dX7_groundItem_28 : decode cX7_groundItem 28 = .ok (.bipush 36, 2) := by decide +kernel
theorem dX7_groundItem_30 : decode cX7_groundItem 30 = .ok (.iload_n 2, 1) := by decide +kernel
theorem dX7_groundItem_31 : decode cX7_groundItem 31 = .ok (.iadd, 1) := by decide +kernel
theorem dX7_groundItem_32 : decode cX7_groundItem 32 = .ok (.iload_n 1, 1) := by decide +kernel
theorem dX7_groundItem_33 : decode cX7_groundItem 33 = .ok (.iastore, 1) := by decide +kernel
theorem dX7_groundItem_34 : decode cX7_groundItem 34 = .ok (.iinc 2 1, 3) := by decide +kernel
theorem dX7_groundItem_37 : decode cX7_groundItem 37 = .ok (.goto (-28), 3) := by decide +kernel
theorem dX7_groundItem_40 : decode cX7_groundItem 40 = .ok (.return_, 1) := by decide +kernel
theorem dX7_fallItem_0 : decode cX7_fallItem 0 = .ok (.aload_n 0, 1) := by decide +kernel
theorem dX7_fallItem_1 : decode cX7_fallItem 1 = .ok (.invokevirtual 305, 3) := by decide +kernel
theorem dX7_fallItem_4 : decode cX7_fallItem 4 = .ok (.aload_n 0, 1) := by decide +kernel
theorem dX7_fallItem_5 : decode cX7_fallItem 5 = .ok (.aload_n 0, 1) := by decide +kernel
theorem dX7_fallItem_6 : decode cX7_fallItem 6 = .ok (.invokevirtual 263, 3) := by decide +kernel
theorem dX7_fallItem_9 : decode cX7_fallItem 9 = .ok (.ldc2_w 308, 3) := by decide +kernel
theorem dX7_fallItem_12 : decode cX7_fallItem 12 = .ok (.lcmp, 1) := by decide +kernel
theorem dX7_fallItem_13 : decode cX7_fallItem 13 = .ok (.ifCond .ne 7, 3) := by decide +kernel
theorem dX7_fallItem_16 : decode cX7_fallItem 16 = .ok (.iconst 1, 1) := by decide +kernel
theorem dX7_fallItem_17 : decode cX7_fallItem 17 = .ok (.goto 4, 3) := by decide +kernel
theorem dX7_fallItem_20 : decode cX7_fallItem 20 = .ok (.iconst 0, 1) := by decide +kernel
theorem dX7_fallItem_21 : decode cX7_fallItem 21 = .ok (.invokevirtual 259, 3) := by decide +kernel
theorem dX7_fallItem_24 : decode cX7_fallItem 24 = .ok (.aload_n 0, 1) := by decide +kernel
theorem dX7_fallItem_25 : decode cX7_fallItem 25 = .ok (.getfield 245, 3) := by decide +kernel
theorem dX7_fallItem_28 : decode cX7_fallItem 28 = .ok (.ifCond .ne 20, 3) := by decide +kernel
theorem dX7_fallItem_31 : decode cX7_fallItem 31 = .ok (.aload_n 0, 1) := by decide +kernel
theorem dX7_fallItem_32 : decode cX7_fallItem 32 = .ok (.aload_n 0, 1) := by decide +kernel
theorem dX7_fallItem_33 : decode cX7_fallItem 33 = .ok (.getfield 233, 3) := by decide +kernel
theorem dX7_fallItem_36 : decode cX7_fallItem 36 = .ok (.invokevirtual 236, 3) := by decide +kernel
theorem dX7_fallItem_39 : decode cX7_fallItem 39 = .ok (.bipush 45, 2) := by decide +kernel
theorem dX7_fallItem_41 : decode cX7_fallItem 41 = .ok (.if_icmp .ne 7, 3) := by decide +kernel
theorem dX7_fallItem_44 : decode cX7_fallItem 44 = .ok (.iconst 1, 1) := by decide +kernel
theorem dX7_fallItem_45 : decode cX7_fallItem 45 = .ok (.goto 4, 3) := by decide +kernel
theorem dX7_fallItem_48 : decode cX7_fallItem 48 = .ok (.iconst 0, 1) := by decide +kernel
theorem dX7_fallItem_49 : decode cX7_fallItem 49 = .ok (.istore_n 1, 1) := by decide +kernel
theorem dX7_fallItem_50 : decode cX7_fallItem 50 = .ok (.iload_n 1, 1) := by decide +kernel
theorem dX7_fallItem_51 : decode cX7_fallItem 51 = .ok (.ifCond .eq 8, 3) := by decide +kernel
theorem dX7_fallItem_54 : decode cX7_fallItem 54 = .ok (.aload_n 0, 1) := by decide +kernel
theorem dX7_fallItem_55 : decode cX7_fallItem 55 = .ok (.iconst 1, 1) := by decide +kernel
theorem dX7_fallItem_56 : decode cX7_fallItem 56 = .ok (.invokevirtual 259, 3) := by decide +kernel
theorem dX7_fallItem_59 : decode cX7_fallItem 59 = .ok (.aload_n 0, 1) := by decide +kernel
theorem dX7_fallItem_60 : decode cX7_fallItem 60 = .ok (.iconst 0, 1) := by decide +kernel
theorem dX7_fallItem_61 : decode cX7_fallItem 61 = .ok (.bipush 9, 2) := by decide +kernel
theorem dX7_fallItem_63 : decode cX7_fallItem 63 = .ok (.invokevirtual 291, 3) := by decide +kernel
theorem dX7_fallItem_66 : decode cX7_fallItem 66 = .ok (.aload_n 0, 1) := by decide +kernel
theorem dX7_fallItem_67 : decode cX7_fallItem 67 = .ok (.getfield 293, 3) := by decide +kernel
theorem dX7_fallItem_70 : decode cX7_fallItem 70 = .ok (.istore_n 2, 1) := by decide +kernel
theorem dX7_fallItem_71 : decode cX7_fallItem 71 = .ok (.iload_n 2, 1) := by decide +kernel
theorem dX7_fallItem_72 : decode cX7_fallItem 72 = .ok (.aload_n 0, 1) := by decide +kernel
theorem dX7_fallItem_73 : decode cX7_fallItem 73 = .ok (.getfield 302, 3) := by decide +kernel
theorem dX7_fallItem_76 : decode cX7_fallItem 76 = .ok (.if_icmp .gt 41, 3) := by decide +kernel
theorem dX7_fallItem_79 : decode cX7_fallItem 79 = .ok (.aload_n 0, 1) := by decide +kernel
theorem dX7_fallItem_80 : decode cX7_fallItem 80 = .ok (.getfield 245, 3) := by decide +kernel
theorem dX7_fallItem_83 : decode cX7_fallItem 83 = .ok (.ifCond .ne 34, 3) := by decide +kernel
theorem dX7_fallItem_86 : decode cX7_fallItem 86 = .ok (.aload_n 0, 1) := by decide +kernel
theorem dX7_fallItem_87 : decode cX7_fallItem 87 = .ok (.getfield 7, 3) := by decide +kernel
theorem dX7_fallItem_90 : decode cX7_fallItem 90 = .ok (.iconst 5, 1) := by decide +kernel
theorem dX7_fallItem_91 : decode cX7_fallItem 91 = .ok (.iload_n 2, 1) := by decide +kernel
theorem dX7_fallItem_92 : decode cX7_fallItem 92 = .ok (.iadd, 1) := by decide +kernel
theorem dX7_fallItem_93 : decode cX7_fallItem 93 = .ok (.iload_n 1, 1) := by decide +kernel
theorem dX7_fallItem_94 : decode cX7_fallItem 94 = .ok (.ifCond .eq 12, 3) := by decide +kernel
theorem dX7_fallItem_97 : decode cX7_fallItem 97 = .ok (.iconst 0, 1) := by decide +kernel
theorem dX7_fallItem_98 : decode cX7_fallItem 98 = .ok (.aload_n 0, 1) := by decide +kernel
theorem dX7_fallItem_99 : decode cX7_fallItem 99 = .ok (.getfield 256, 3) := by decide +kernel
theorem dX7_fallItem_102 : decode cX7_fallItem 102 = .ok (.isub, 1) := by decide +kernel
theorem dX7_fallItem_103 : decode cX7_fallItem 103 = .ok (.goto 7, 3) := by decide +kernel
theorem dX7_fallItem_106 : decode cX7_fallItem 106 = .ok (.aload_n 0, 1) := by decide +kernel
theorem dX7_fallItem_107 : decode cX7_fallItem 107 = .ok (.getfield 256, 3) := by decide +kernel
theorem dX7_fallItem_110 : decode cX7_fallItem 110 = .ok (.iastore, 1) := by decide +kernel
theorem dX7_fallItem_111 : decode cX7_fallItem 111 = .ok (.iinc 2 1, 3) := by decide +kernel
theorem dX7_fallItem_114 : decode cX7_fallItem 114 = .ok (.goto (-43), 3) := by decide +kernel
theorem dX7_fallItem_117 : decode cX7_fallItem 117 = .ok (.return_, 1) := by decide +kernel
theorem dX7_shutItem_0 : decode cX7_shutItem 0 = .ok (.aload_n 0, 1) := by decide +kernel
theorem dX7_shutItem_1 : decode cX7_shutItem 1 = .ok (.aload_n 0, 1) := by decide +kernel
theorem dX7_shutItem_2 : decode cX7_shutItem 2 = .ok (.invokevirtual 263, 3) := by decide +kernel
theorem dX7_shutItem_5 : decode cX7_shutItem 5 = .ok (.ldc2_w 310, 3) := by decide +kernel
theorem dX7_shutItem_8 : decode cX7_shutItem 8 = .ok (.lcmp, 1) := by decide +kernel
theorem dX7_shutItem_9 : decode cX7_shutItem 9 = .ok (.ifCond .ne 7, 3) := by decide +kernel
theorem dX7_shutItem_12 : decode cX7_shutItem 12 = .ok (.iconst 1, 1) := by decide +kernel
theorem dX7_shutItem_13 : decode cX7_shutItem 13 = .ok (.goto 4, 3) := by decide +kernel
theorem dX7_shutItem_16 : decode cX7_shutItem 16 = .ok (.iconst 0, 1) := by decide +kernel
theorem dX7_shutItem_17 : decode cX7_shutItem 17 = .ok (.invokevirtual 259, 3) := by decide +kernel
theorem dX7_shutItem_20 : decode cX7_shutItem 20 = .ok (.aload_n 0, 1) := by decide +kernel
theorem dX7_shutItem_21 : decode cX7_shutItem 21 = .ok (.iconst 0, 1) := by decide +kernel
theorem dX7_shutItem_22 : decode cX7_shutItem 22 = .ok (.bipush 59, 2) := by decide +kernel
theorem dX7_shutItem_24 : decode cX7_shutItem 24 = .ok (.invokevirtual 291, 3) := by decide +kernel
theorem dX7_shutItem_27 : decode cX7_shutItem 27 = .ok (.aload_n 0, 1) := by decide +kernel
theorem dX7_shutItem_28 : decode cX7_shutItem 28 = .ok (.getfield 256, 3) := by decide +kernel
theorem dX7_shutItem_31 : decode cX7_shutItem 31 = .ok (.istore_n 1, 1) := by decide +kernel
theorem dX7_shutItem_32 : decode cX7_shutItem 32 = .ok (.aload_n 0, 1) := by decide +kernel
theorem dX7_shutItem_33 : decode cX7_shutItem 33 = .ok (.aload_n 0, 1) := by decide +kernel
theorem dX7_shutItem_34 : decode cX7_shutItem 34 = .ok (.invokevirtual 263, 3) := by decide +kernel
theorem dX7_shutItem_37 : decode cX7_shutItem 37 = .ok (.ldc2_w 296, 3) := by decide +kernel
theorem dX7_shutItem_40 : decode cX7_shutItem 40 = .ok (.lcmp, 1) := by decide +kernel
theorem dX7_shutItem_41 : decode cX7_shutItem 41 = .ok (.ifCond .ne 7, 3) := by decide +kernel
theorem dX7_shutItem_44 : decode cX7_shutItem 44 = .ok (.iconst 1, 1) := by decide +kernel
theorem dX7_shutItem_45 : decode cX7_shutItem 45 = .ok (.goto 4, 3) := by decide +kernel
theorem dX7_shutItem_48 : decode cX7_shutItem 48 = .ok (.iconst 0, 1) := by decide +kernel
theorem dX7_shutItem_49 : decode cX7_shutItem 49 = .ok (.invokevirtual 259, 3) := by decide +kernel
theorem dX7_shutItem_52 : decode cX7_shutItem 52 = .ok (.aload_n 0, 1) := by decide +kernel
theorem dX7_shutItem_53 : decode cX7_shutItem 53 = .ok (.iconst 0, 1) := by decide +kernel
theorem dX7_shutItem_54 : decode cX7_shutItem 54 = .ok (.bipush 59, 2) := by decide +kernel
theorem dX7_shutItem_56 : decode cX7_shutItem 56 = .ok (.invokevirtual 291, 3) := by decide +kernel
theorem dX7_shutItem_59 : decode cX7_shutItem 59 = .ok (.aload_n 0, 1) := by decide +kernel
theorem dX7_shutItem_60 : decode cX7_shutItem 60 = .ok (.getfield 245, 3) := by decide +kernel
theorem dX7_shutItem_63 : decode cX7_shutItem 63 = .ok (.ifCond .ne 20, 3) := by decide +kernel
theorem dX7_shutItem_66 : decode cX7_shutItem 66 = .ok (.aload_n 0, 1) := by decide +kernel
theorem dX7_shutItem_67 : decode cX7_shutItem 67 = .ok (.getfield 7, 3) := by decide +kernel
theorem dX7_shutItem_70 : decode cX7_shutItem 70 = .ok (.iconst 2, 1) := by decide +kernel
theorem dX7_shutItem_71 : decode cX7_shutItem 71 = .ok (.iload_n 1, 1) := by decide +kernel
theorem dX7_shutItem_72 : decode cX7_shutItem 72 = .ok (.iastore, 1) := by decide +kernel
theorem dX7_shutItem_73 : decode cX7_shutItem 73 = .ok (.aload_n 0, 1) := by decide +kernel
theorem dX7_shutItem_74 : decode cX7_shutItem 74 = .ok (.getfield 7, 3) := by decide +kernel
theorem dX7_shutItem_77 : decode cX7_shutItem 77 = .ok (.iconst 3, 1) := by decide +kernel
theorem dX7_shutItem_78 : decode cX7_shutItem 78 = .ok (.aload_n 0, 1) := by decide +kernel
theorem dX7_shutItem_79 : decode cX7_shutItem 79 = .ok (.getfield 256, 3) := by decide +kernel
theorem dX7_shutItem_82 : decode cX7_shutItem 82 = .ok (.iastore, 1) := by decide +kernel
theorem dX7_shutItem_83 : decode cX7_shutItem 83 = .ok (.return_, 1) := by decide +kernel
theorem dX7_thingItem_0 : decode cX7_thingItem 0 = .ok (.aload_n 0, 1) := by decide +kernel
theorem dX7_thingItem_1 : decode cX7_thingItem 1 = .ok (.aload_n 0, 1) := by decide +kernel
theorem dX7_thingItem_2 : decode cX7_thingItem 2 = .ok (.getfield 7, 3) := by decide +kernel
theorem dX7_thingItem_5 : decode cX7_thingItem 5 = .ok (.iconst 1, 1) := by decide +kernel
theorem dX7_thingItem_6 : decode cX7_thingItem 6 = .ok (.iaload, 1) := by decide +kernel
theorem dX7_thingItem_7 : decode cX7_thingItem 7 = .ok (.bipush 10, 2) := by decide +kernel
theorem dX7_thingItem_9 : decode cX7_thingItem 9 = .ok (.if_icmp .ge 7, 3) := by decide +kernel
theorem dX7_thingItem_12 : decode cX7_thingItem 12 = .ok (.iconst 1, 1) := by decide +kernel
theorem dX7_thingItem_13 : decode cX7_thingItem 13 = .ok (.goto 4, 3) := by decide +kernel
theorem dX7_thingItem_16 : decode cX7_thingItem 16 = .ok (.iconst 0, 1) := by decide +kernel
theorem dX7_thingItem_17 : decode cX7_thingItem 17 = .ok (.invokevirtual 259, 3) := by decide +kernel
theorem dX7_thingItem_20 : decode cX7_thingItem 20 = .ok (.aload_n 0, 1) := by decide +kernel
theorem dX7_thingItem_21 : decode cX7_thingItem 21 = .ok (.aload_n 0, 1) := by decide +kernel
theorem dX7_thingItem_22 : decode cX7_thingItem 22 = .ok (.invokevirtual 263, 3) := by decide +kernel
theorem dX7_thingItem_25 : decode cX7_thingItem 25 = .ok (.ldc2_w 312, 3) := by decide +kernel
theorem dX7_thingItem_28 : decode cX7_thingItem 28 = .ok (.lcmp, 1) := by decide +kernel
theorem dX7_thingItem_29 : decode cX7_thingItem 29 = .ok (.ifCond .ne 7, 3) := by decide +kernel
theorem dX7_thingItem_32 : decode cX7_thingItem 32 = .ok (.iconst 1, 1) := by decide +kernel
theorem dX7_thingItem_33 : decode cX7_thingItem 33 = .ok (.goto 4, 3) := by decide +kernel
theorem dX7_thingItem_36 : decode cX7_thingItem 36 = .ok (.iconst 0, 1) := by decide +kernel
theorem dX7_thingItem_37 : decode cX7_thingItem 37 = .ok (.iconst 1, 1) := by decide +kernel
theorem dX7_thingItem_38 : decode cX7_thingItem 38 = .ok (.bipush 99, 2) := by decide +kernel
theorem dX7_thingItem_40 : decode cX7_thingItem 40 = .ok (.bipush 10, 2) := by decide +kernel
theorem dX7_thingItem_42 : decode cX7_thingItem 42 = .ok (.invokevirtual 298, 3) := by decide +kernel
theorem dX7_thingItem_45 : decode cX7_thingItem 45 = .ok (.istore_n 2, 1) := by decide +kernel
theorem dX7_thingItem_46 : decode cX7_thingItem 46 = .ok (.aload_n 0, 1) := by decide +kernel
theorem dX7_thingItem_47 : decode cX7_thingItem 47 = .ok (.aload_n 0, 1) := by decide +kernel
theorem dX7_thingItem_48 : decode cX7_thingItem 48 = .ok (.invokevirtual 263, 3) := by decide +kernel
theorem dX7_thingItem_51 : decode cX7_thingItem 51 = .ok (.ldc2_w 314, 3) := by decide +kernel
theorem dX7_thingItem_54 : decode cX7_thingItem 54 = .ok (.lcmp, 1) := by decide +kernel
theorem dX7_thingItem_55 : decode cX7_thingItem 55 = .ok (.ifCond .ne 7, 3) := by decide +kernel
theorem dX7_thingItem_58 : decode cX7_thingItem 58 = .ok (.iconst 1, 1) := by decide +kernel
theorem dX7_thingItem_59 : decode cX7_thingItem 59 = .ok (.goto 4, 3) := by decide +kernel
theorem dX7_thingItem_62 : decode cX7_thingItem 62 = .ok (.iconst 0, 1) := by decide +kernel
theorem dX7_thingItem_63 : decode cX7_thingItem 63 = .ok (.iconst 1, 1) := by decide +kernel
theorem dX7_thingItem_64 : decode cX7_thingItem 64 = .ok (.bipush 9, 2) := by decide +kernel
theorem dX7_thingItem_66 : decode cX7_thingItem 66 = .ok (.iconst 4, 1) := by decide +kernel
theorem dX7_thingItem_67 : decode cX7_thingItem 67 = .ok (.invokevirtual 298, 3) := by decide +kernel
theorem dX7_thingItem_70 : decode cX7_thingItem 70 = .ok (.istore_n 3, 1) := by decide +kernel
theorem dX7_thingItem_71 : decode cX7_thingItem 71 = .ok (.aload_n 0, 1) := by decide +kernel
theorem dX7_thingItem_72 : decode cX7_thingItem 72 = .ok (.aload_n 0, 1) := by decide +kernel
theorem dX7_thingItem_73 : decode cX7_thingItem 73 = .ok (.invokevirtual 263, 3) := by decide +kernel
theorem dX7_thingItem_76 : decode cX7_thingItem 76 = .ok (.ldc2_w 316, 3) := by decide +kernel
theorem dX7_thingItem_79 : decode cX7_thingItem 79 = .ok (.lcmp, 1) := by decide +kernel
theorem dX7_thingItem_80 : decode cX7_thingItem 80 = .ok (.ifCond .ne 7, 3) := by decide +kernel
theorem dX7_thingItem_83 : decode cX7_thingItem 83 = .ok (.iconst 1, 1) := by decide +kernel
theorem dX7_thingItem_84 : decode cX7_thingItem 84 = .ok (.goto 4, 3) := by decide +kernel
theorem dX7_thingItem_87 : decode cX7_thingItem 87 = .ok (.iconst 0, 1) := by decide +kernel
theorem dX7_thingItem_88 : decode cX7_thingItem 88 = .ok (.iconst 0, 1) := by decide +kernel
theorem dX7_thingItem_89 : decode cX7_thingItem 89 = .ok (.bipush 9, 2) := by decide +kernel
theorem dX7_thingItem_91 : decode cX7_thingItem 91 = .ok (.iconst 0, 1) := by decide +kernel
theorem dX7_thingItem_92 : decode cX7_thingItem 92 = .ok (.invokevirtual 298, 3) := by decide +kernel
theorem dX7_thingItem_95 : decode cX7_thingItem 95 = .ok (.istore 4, 2) := by decide +kernel
theorem dX7_thingItem_97 : decode cX7_thingItem 97 = .ok (.aload_n 0, 1) := by decide +kernel
theorem dX7_thingItem_98 : decode cX7_thingItem 98 = .ok (.getfield 245, 3) := by decide +kernel
theorem dX7_thingItem_101 : decode cX7_thingItem 101 = .ok (.ifCond .ne 14, 3) := by decide +kernel
theorem dX7_thingItem_104 : decode cX7_thingItem 104 = .ok (.aload_n 0, 1) := by decide +kernel
theorem dX7_thingItem_105 : decode cX7_thingItem 105 = .ok (.iload_n 1, 1) := by decide +kernel
theorem dX7_thingItem_106 : decode cX7_thingItem 106 = .ok (.iload_n 2, 1) := by decide +kernel
theorem dX7_thingItem_107 : decode cX7_thingItem 107 = .ok (.iload_n 3, 1) := by decide +kernel
theorem dX7_thingItem_108 : decode cX7_thingItem 108 = .ok (.iload 4, 2) := by decide +kernel
theorem dX7_thingItem_110 : decode cX7_thingItem 110 = .ok (.invokevirtual 85, 3) := by decide +kernel
theorem dX7_thingItem_113 : decode cX7_thingItem 113 = .ok (.istore 5, 2) := by decide +kernel
theorem dX7_thingItem_115 : decode cX7_thingItem 115 = .ok (.return_, 1) := by decide +kernel
theorem dX7_item_0 : decode cX7_item 0 = .ok (.aload_n 0, 1) := by decide +kernel
theorem dX7_item_1 : decode cX7_item 1 = .ok (.invokevirtual 318, 3) := by decide +kernel
theorem dX7_item_4 : decode cX7_item 4 = .ok (.istore_n 1, 1) := by decide +kernel
theorem dX7_item_5 : decode cX7_item 5 = .ok (.aload_n 0, 1) := by decide +kernel
theorem dX7_item_6 : decode cX7_item 6 = .ok (.invokevirtual 321, 3) := by decide +kernel
theorem dX7_item_9 : decode cX7_item 9 = .ok (.istore_n 2, 1) := by decide +kernel
theorem dX7_item_10 : decode cX7_item 10 = .ok (.iload_n 1, 1) := by decide +kernel
theorem dX7_item_11 : decode cX7_item 11 = .ok (.ifCond .lt 11, 3) := by decide +kernel
theorem dX7_item_14 : decode cX7_item 14 = .ok (.aload_n 0, 1) := by decide +kernel
theorem dX7_item_15 : decode cX7_item 15 = .ok (.iload_n 1, 1) := by decide +kernel
theorem dX7_item_16 : decode cX7_item 16 = .ok (.invokevirtual 324, 3) := by decide +kernel
theorem dX7_item_19 : decode cX7_item 19 = .ok (.goto 37, 3) := by decide +kernel
theorem dX7_item_22 : decode cX7_item 22 = .ok (.iload_n 2, 1) := by decide +kernel
theorem dX7_item_23 : decode cX7_item 23 = .ok (.ifCond .lt 11, 3) := by decide +kernel
theorem dX7_item_26 : decode cX7_item 26 = .ok (.aload_n 0, 1) := by decide +kernel
theorem dX7_item_27 : decode cX7_item 27 = .ok (.iload_n 2, 1) := by decide +kernel
theorem dX7_item_28 : decode cX7_item 28 = .ok (.invokevirtual 328, 3) := by decide +kernel
theorem dX7_item_31 : decode cX7_item 31 = .ok (.goto 25, 3) := by decide +kernel
theorem dX7_item_34 : decode cX7_item 34 = .ok (.aload_n 0, 1) := by decide +kernel
theorem dX7_item_35 : decode cX7_item 35 = .ok (.invokevirtual 263, 3) := by decide +kernel
theorem dX7_item_38 : decode cX7_item 38 = .ok (.ldc2_w 331, 3) := by decide +kernel
theorem dX7_item_41 : decode cX7_item 41 = .ok (.lcmp, 1) := by decide +kernel
theorem dX7_item_42 : decode cX7_item 42 = .ok (.ifCond .ne 10, 3) := by decide +kernel
theorem dX7_item_45 : decode cX7_item 45 = .ok (.aload_n 0, 1) := by decide +kernel
theorem dX7_item_46 : decode cX7_item 46 = .ok (.invokevirtual 333, 3) := by decide +kernel
theorem dX7_item_49 : decode cX7_item 49 = .ok (.goto 7, 3) := by decide +kernel
theorem dX7_item_52 : decode cX7_item 52 = .ok (.aload_n 0, 1) := by decide +kernel
theorem dX7_item_53 : decode cX7_item 53 = .ok (.invokevirtual 336, 3) := by decide +kernel
theorem dX7_item_56 : decode cX7_item 56 = .ok (.return_, 1) := by decide +kernel
theorem dX7_text_0 : decode cX7_text 0 = .ok (.aload_n 0, 1) := by decide +kernel
theorem dX7_text_1 : decode cX7_text 1 = .ok (.invokevirtual 148, 3) := by decide +kernel
theorem dX7_text_4 : decode cX7_text 4 = .ok (.aload_n 0, 1) := by decide +kernel
theorem dX7_text_5 : decode cX7_text 5 = .ok (.iconst 0, 1) := by decide +kernel
theorem dX7_text_6 : decode cX7_text 6 = .ok (.putfield 230, 3) := by decide +kernel
theorem dX7_text_9 : decode cX7_text 9 = .ok (.aload_n 0, 1) := by decide +kernel
theorem dX7_text_10 : decode cX7_text 10 = .ok (.iconst 0, 1) := by decide +kernel
theorem dX7_text_11 : decode cX7_text 11 = .ok (.putfield 245, 3) := by decide +kernel
theorem dX7_text_14 : decode cX7_text 14 = .ok (.aload_n 0, 1) := by decide +kernel
theorem dX7_text_15 : decode cX7_text 15 = .ok (.invokevirtual 249, 3) := by decide +kernel
theorem dX7_text_18 : decode cX7_text 18 = .ok (.iconst 1, 1) := by decide +kernel
theorem dX7_text_19 : decode cX7_text 19 = .ok (.istore_n 1, 1) := by decide +kernel
theorem dX7_text_20 : decode cX7_text 20 = .ok (.aload_n 0, 1) := by decide +kernel
theorem dX7_text_21 : decode cX7_text 21 = .ok (.invokevirtual 339, 3) := by decide +kernel
theorem dX7_text_24 : decode cX7_text 24 = .ok (.aload_n 0, 1) := by decide +kernel
theorem dX7_text_25 : decode cX7_text 25 = .ok (.getfield 245, 3) := by decide +kernel
theorem dX7_text_28 : decode cX7_text 28 = .ok (.ifCond .ne 46, 3) := by decide +kernel
theorem dX7_text_31 : decode cX7_text 31 = .ok (.aload_n 0, 1) := by decide +kernel
theorem dX7_text_32 : decode cX7_text 32 = .ok (.getfield 233, 3) := by decide +kernel
theorem dX7_text_35 : decode cX7_text 35 = .ok (.aload_n 0, 1) := by decide +kernel
theorem dX7_text_36 : decode cX7_text 36 = .ok (.getfield 219, 3) := by decide +kernel
theorem dX7_text_39 : decode cX7_text 39 = .ok (.if_icmp .ge 35, 3) := by decide +kernel
theorem dX7_text_42 : decode cX7_text 42 = .ok (.aload_n 0, 1) := by decide +kernel
theorem dX7_text_43 : decode cX7_text 43 = .ok (.aload_n 0, 1) := by decide +kernel
theorem dX7_text_44 : decode cX7_text 44 = .ok (.aload_n 0, 1) := by decide +kernel
theorem dX7_text_45 : decode cX7_text 45 = .ok (.getfield 233, 3) := by decide +kernel
theorem dX7_text_48 : decode cX7_text 48 = .ok (.invokevirtual 236, 3) := by decide +kernel
theorem dX7_text_51 : decode cX7_text 51 = .ok (.bipush 59, 2) := by decide +kernel
theorem dX7_text_53 : decode cX7_text 53 = .ok (.if_icmp .ne 7, 3) := by decide +kernel
theorem dX7_text_56 : decode cX7_text 56 = .ok (.iconst 1, 1) := by decide +kernel
theorem dX7_text_57 : decode cX7_text 57 = .ok (.goto 4, 3) := by decide +kernel
theorem dX7_text_60 : decode cX7_text 60 = .ok (.iconst 0, 1) := by decide +kernel
theorem dX7_text_61 : decode cX7_text 61 = .ok (.invokevirtual 259, 3) := by decide +kernel
theorem dX7_text_64 : decode cX7_text 64 = .ok (.aload_n 0, 1) := by decide +kernel
theorem dX7_text_65 : decode cX7_text 65 = .ok (.invokevirtual 339, 3) := by decide +kernel
theorem dX7_text_68 : decode cX7_text 68 = .ok (.iinc 1 1, 3) := by decide +kernel
theorem dX7_text_71 : decode cX7_text 71 = .ok (.goto (-47), 3) := by decide +kernel
theorem dX7_text_74 : decode cX7_text 74 = .ok (.aload_n 0, 1) := by decide +kernel
theorem dX7_text_75 : decode cX7_text 75 = .ok (.iconst 0, 1) := by decide +kernel
theorem dX7_text_76 : decode cX7_text 76 = .ok (.putfield 219, 3) := by decide +kernel
theorem dX7_text_79 : decode cX7_text 79 = .ok (.aload_n 0, 1) := by decide +kernel
theorem dX7_text_80 : decode cX7_text 80 = .ok (.getfield 245, 3) := by decide +kernel
theorem dX7_text_83 : decode cX7_text 83 = .ok (.ifCond .eq 14, 3) := by decide +kernel
theorem dX7_text_86 : decode cX7_text 86 = .ok (.aload_n 0, 1) := by decide +kernel
theorem dX7_text_87 : decode cX7_text 87 = .ok (.invokevirtual 154, 3) := by decide +kernel
theorem dX7_text_90 : decode cX7_text 90 = .ok (.iconst (-1), 1) := by decide +kernel
theorem dX7_text_91 : decode cX7_text 91 = .ok (.aload_n 0, 1) := by decide +kernel
theorem dX7_text_92 : decode cX7_text 92 = .ok (.getfield 233, 3) := by decide +kernel
theorem dX7_text_95 : decode cX7_text 95 = .ok (.isub, 1) := by decide +kernel
theorem dX7_text_96 : decode cX7_text 96 = .ok (.ireturn, 1) := by decide +kernel
theorem dX7_text_97 : decode cX7_text 97 = .ok (.iload_n 1, 1) := by decide +kernel
theorem dX7_text_98 : decode cX7_text 98 = .ok (.ireturn, 1) := by decide +kernel
theorem dX7_hold_0 : decode cX7_hold 0 = .ok (.iload_n 1, 1) := by decide +kernel
theorem dX7_hold_1 : decode cX7_hold 1 = .ok (.i2l, 1) := by decide +kernel
theorem dX7_hold_2 : decode cX7_hold 2 = .ok (.lconst 0, 1) := by decide +kernel
theorem dX7_hold_3 : decode cX7_hold 3 = .ok (.ldc2_w 57, 3) := by decide +kernel
theorem dX7_hold_6 : decode cX7_hold 6 = .ok (.invokestatic 46, 3) := by decide +kernel
theorem dX7_hold_9 : decode cX7_hold 9 = .ok (.ifCond .eq 16, 3) := by decide +kernel
theorem dX7_hold_12 : decode cX7_hold 12 = .ok (.iload_n 2, 1) := by decide +kernel
theorem dX7_hold_13 : decode cX7_hold 13 = .ok (.iconst (-1), 1) := by decide +kernel
theorem dX7_hold_14 : decode cX7_hold 14 = .ok (.if_icmp .eq 18, 3) := by decide +kernel
theorem dX7_hold_17 : decode cX7_hold 17 = .ok (.aload_n 0, 1) := by decide +kernel
theorem dX7_hold_18 : decode cX7_hold 18 = .ok (.iload_n 2, 1) := by decide +kernel
theorem dX7_hold_19 : decode cX7_hold 19 = .ok (.invokevirtual 92, 3) := by decide +kernel
theorem dX7_hold_22 : decode cX7_hold 22 = .ok (.ifCond .ne 10, 3) := by decide +kernel
theorem dX7_hold_25 : decode cX7_hold 25 = .ok (.aload_n 0, 1) := by decide +kernel
theorem dX7_hold_26 : decode cX7_hold 26 = .ok (.ldc 43, 2) := by decide +kernel
theorem dX7_hold_28 : decode cX7_hold 28 = .ok (.invokevirtual 59, 3) := by decide +kernel
theorem dX7_hold_31 : decode cX7_hold 31 = .ok (.ireturn, 1) := by decide +kernel
theorem dX7_hold_32 : decode cX7_hold 32 = .ok (.aload_n 0, 1) := by decide +kernel
theorem dX7_hold_33 : decode cX7_hold 33 = .ok (.getfield 7, 3) := by decide +kernel
theorem dX7_hold_36 : decode cX7_hold 36 = .ok (.sipush 157, 3) := by decide +kernel
theorem dX7_hold_39 : decode cX7_hold 39 = .ok (.iload_n 1, 1) := by decide +kernel
theorem dX7_hold_40 : decode cX7_hold 40 = .ok (.iadd, 1) := by decide +kernel
theorem dX7_hold_41 : decode cX7_hold 41 = .ok (.iload_n 2, 1) := by decide +kernel
theorem dX7_hold_42 : decode cX7_hold 42 = .ok (.iastore, 1) := by decide +kernel
theorem dX7_hold_43 : decode cX7_hold 43 = .ok (.iconst 1, 1) := by decide +kernel
theorem dX7_hold_44 : decode cX7_hold 44 = .ok (.ireturn, 1) := by decide +kernel
theorem dX7_as_0 : decode cX7_as 0 = .ok (.iload_n 1, 1) := by decide +kernel
theorem dX7_as_1 : decode cX7_as 1 = .ok (.i2l, 1) := by decide +kernel
theorem dX7_as_2 : decode cX7_as 2 = .ok (.lconst 0, 1) := by decide +kernel
theorem dX7_as_3 : decode cX7_as 3 = .ok (.ldc2_w 57, 3) := by decide +kernel
theorem dX7_as_6 : decode cX7_as 6 = .ok (.invokestatic 46, 3) := by decide +kernel
theorem dX7_as_9 : decode cX7_as 9 = .ok (.ifCond .eq 15, 3) := by decide +kernel
theorem dX7_as_12 : decode cX7_as 12 = .ok (.iload_n 2, 1) := by decide +kernel
theorem dX7_as_13 : decode cX7_as 13 = .ok (.i2l, 1) := by decide +kernel
theorem dX7_as_14 : decode cX7_as 14 = .ok (.lconst 0, 1) := by decide +kernel
theorem dX7_as_15 : decode cX7_as 15 = .ok (.ldc2_w 76, 3) := by decide +kernel
theorem dX7_as_18 : decode cX7_as 18 = .ok (.invokestatic 46, 3) := by decide +kernel
theorem dX7_as_21 : decode cX7_as 21 = .ok (.ifCond .ne 10, 3) := by decide +kernel
theorem dX7_as_24 : decode cX7_as 24 = .ok (.aload_n 0, 1) := by decide +kernel
theorem dX7_as_25 : decode cX7_as 25 = .ok (.ldc 43, 2) := by decide +kernel
theorem dX7_as_27 : decode cX7_as 27 = .ok (.invokevirtual 59, 3) := by decide +kernel
theorem dX7_as_30 : decode cX7_as 30 = .ok (.ireturn, 1) := by decide +kernel
theorem dX7_as_31 : decode cX7_as 31 = .ok (.aload_n 0, 1) := by decide +kernel
theorem dX7_as_32 : decode cX7_as 32 = .ok (.getfield 7, 3) := by decide +kernel
theorem dX7_as_35 : decode cX7_as 35 = .ok (.sipush 157, 3) := by decide +kernel
theorem dX7_as_38 : decode cX7_as 38 = .ok (.iload_n 1, 1) := by decide +kernel
theorem dX7_as_39 : decode cX7_as 39 = .ok (.iadd, 1) := by decide +kernel
theorem dX7_as_40 : decode cX7_as 40 = .ok (.iaload, 1) := by decide +kernel
theorem dX7_as_41 : decode cX7_as 41 = .ok (.istore_n 3, 1) := by decide +kernel
theorem dX7_as_42 : decode cX7_as 42 = .ok (.iload_n 3, 1) := by decide +kernel
theorem dX7_as_43 : decode cX7_as 43 = .ok (.ifCond .ge 11, 3) := by decide +kernel
theorem dX7_as_46 : decode cX7_as 46 = .ok (.aload_n 0, 1) := by decide +kernel
theorem dX7_as_47 : decode cX7_as 47 = .ok (.ldc_w 342, 3) := by decide +kernel
theorem dX7_as_50 : decode cX7_as 50 = .ok (.invokevirtual 59, 3) := by decide +kernel
theorem dX7_as_53 : decode cX7_as 53 = .ok (.ireturn, 1) := by decide +kernel
theorem dX7_as_54 : decode cX7_as 54 = .ok (.aload_n 0, 1) := by decide +kernel
theorem dX7_as_55 : decode cX7_as 55 = .ok (.iload_n 3, 1) := by decide +kernel
theorem dX7_as_56 : decode cX7_as 56 = .ok (.iconst 0, 1) := by decide +kernel
theorem dX7_as_57 : decode cX7_as 57 = .ok (.invokevirtual 89, 3) := by decide +kernel
theorem dX7_as_60 : decode cX7_as 60 = .ok (.istore 4, 2) := by decide +kernel
theorem dX7_as_62 : decode cX7_as 62 = .ok (.iload_n 2, 1) := by decide +kernel
theorem dX7_as_63 : decode cX7_as 63 = .ok (.ifCond .eq 37, 3) := by decide +kernel
theorem dX7_as_66 : decode cX7_as 66 = .ok (.iload 4, 2) := by decide +kernel
theorem dX7_as_68 : decode cX7_as 68 = .ok (.iload_n 2, 1) := by decide +kernel
theorem dX7_as_69 : decode cX7_as 69 = .ok (.if_icmp .eq 31, 3) := by decide +kernel
theorem dX7_as_72 : decode cX7_as 72 = .ok (.iload_n 2, 1) := by decide +kernel
theorem dX7_as_73 : decode cX7_as 73 = .ok (.iconst 1, 1) := by decide +kernel
theorem dX7_as_74 : decode cX7_as 74 = .ok (.if_icmp .ne 15, 3) := by decide +kernel
theorem dX7_as_77 : decode cX7_as 77 = .ok (.iload 4, 2) := by decide +kernel
theorem dX7_as_79 : decode cX7_as 79 = .ok (.iconst 3, 1) := by decide +kernel
theorem dX7_as_80 : decode cX7_as 80 = .ok (.if_icmp .eq 20, 3) := by decide +kernel
theorem dX7_as_83 : decode cX7_as 83 = .ok (.iload 4, 2) := by decide +kernel
theorem dX7_as_85 : decode cX7_as 85 = .ok (.iconst 5, 1) := by decide +kernel
theorem dX7_as_86 : decode cX7_as 86 = .ok (.if_icmp .eq 14, 3) := by decide +kernel
theorem dX7_as_89 : decode cX7_as 89 = .ok (.iload_n 2, 1) := by decide +kernel
theorem dX7_as_90 : decode cX7_as 90 = .ok (.iconst 2, 1) := by decide +kernel
theorem dX7_as_91 : decode cX7_as 91 = .ok (.if_icmp .ne 13, 3) := by decide +kernel
theorem dX7_as_94 : decode cX7_as 94 = .ok (.iload 4, 2) := by decide +kernel
theorem dX7_as_96 : decode cX7_as 96 = .ok (.iconst 4, 1) := by decide +kernel
theorem dX7_as_97 : decode cX7_as 97 = .ok (.if_icmp .ne 7, 3) := by decide +kernel
theorem dX7_as_100 : decode cX7_as 100 = .ok (.iconst 1, 1) := by decide +kernel
theorem dX7_as_101 : decode cX7_as 101 = .ok (.goto 4, 3) := by decide +kernel
theorem dX7_as_104 : decode cX7_as 104 = .ok (.iconst 0, 1) := by decide +kernel
theorem dX7_as_105 : decode cX7_as 105 = .ok (.istore 5, 2) := by decide +kernel
theorem dX7_as_107 : decode cX7_as 107 = .ok (.iload 5, 2) := by decide +kernel
theorem dX7_as_109 : decode cX7_as 109 = .ok (.ifCond .eq 7, 3) := by decide +kernel
theorem dX7_as_112 : decode cX7_as 112 = .ok (.iload_n 3, 1) := by decide +kernel
theorem dX7_as_113 : decode cX7_as 113 = .ok (.goto 10, 3) := by decide +kernel
theorem dX7_as_116 : decode cX7_as 116 = .ok (.aload_n 0, 1) := by decide +kernel
theorem dX7_as_117 : decode cX7_as 117 = .ok (.ldc_w 343, 3) := by decide +kernel
theorem dX7_as_120 : decode cX7_as 120 = .ok (.invokevirtual 59, 3) := by decide +kernel
theorem dX7_as_123 : decode cX7_as 123 = .ok (.ireturn, 1) := by decide +kernel
theorem dX7_isOne_0 : decode cX7_isOne 0 = .ok (.iload_n 0, 1) := by decide +kernel
theorem dX7_isOne_1 : decode cX7_isOne 1 = .ok (.i2l, 1) := by decide +kernel
theorem dX7_isOne_2 : decode cX7_isOne 2 = .ok (.lconst 0, 1) := by decide +kernel
theorem dX7_isOne_3 : decode cX7_isOne 3 = .ok (.ldc2_w 138, 3) := by decide +kernel
theorem dX7_isOne_6 : decode cX7_isOne 6 = .ok (.invokestatic 46, 3) := by decide +kernel
theorem dX7_isOne_9 : decode cX7_isOne 9 = .ok (.ireturn, 1) := by decide +kernel
theorem dX7_sheet_0 : decode cX7_sheet 0 = .ok (.iload_n 1, 1) := by decide +kernel
theorem dX7_sheet_1 : decode cX7_sheet 1 = .ok (.invokestatic 344, 3) := by decide +kernel
theorem dX7_sheet_4 : decode cX7_sheet 4 = .ok (.ifCond .eq 25, 3) := by decide +kernel
theorem dX7_sheet_7 : decode cX7_sheet 7 = .ok (.iload_n 2, 1) := by decide +kernel
theorem dX7_sheet_8 : decode cX7_sheet 8 = .ok (.ifCond .eq 28, 3) := by decide +kernel
theorem dX7_sheet_11 : decode cX7_sheet 11 = .ok (.iload_n 2, 1) := by decide +kernel
theorem dX7_sheet_12 : decode cX7_sheet 12 = .ok (.bipush 8, 2) := by decide +kernel
theorem dX7_sheet_14 : decode cX7_sheet 14 = .ok (.if_icmp .eq 22, 3) := by decide +kernel
theorem dX7_sheet_17 : decode cX7_sheet 17 = .ok (.iload_n 2, 1) := by decide +kernel
theorem dX7_sheet_18 : decode cX7_sheet 18 = .ok (.bipush 16, 2) := by decide +kernel
theorem dX7_sheet_20 : decode cX7_sheet 20 = .ok (.if_icmp .eq 16, 3) := by decide +kernel
theorem dX7_sheet_23 : decode cX7_sheet 23 = .ok (.iload_n 2, 1) := by decide +kernel
theorem dX7_sheet_24 : decode cX7_sheet 24 = .ok (.bipush 32, 2) := by decide +kernel
theorem dX7_sheet_26 : decode cX7_sheet 26 = .ok (.if_icmp .eq 10, 3) := by decide +kernel
theorem dX7_sheet_29 : decode cX7_sheet 29 = .ok (.aload_n 0, 1) := by decide +kernel
theorem dX7_sheet_30 : decode cX7_sheet 30 = .ok (.ldc 43, 2) := by decide +kernel
theorem dX7_sheet_32 : decode cX7_sheet 32 = .ok (.invokevirtual 59, 3) := by decide +kernel
theorem dX7_sheet_35 : decode cX7_sheet 35 = .ok (.ireturn, 1) := by decide +kernel
theorem dX7_sheet_36 : decode cX7_sheet 36 = .ok (.iload_n 3, 1) := by decide +kernel
theorem dX7_sheet_37 : decode cX7_sheet 37 = .ok (.ifCond .ge 11, 3) := by decide +kernel
theorem dX7_sheet_40 : decode cX7_sheet 40 = .ok (.aload_n 0, 1) := by decide +kernel
theorem dX7_sheet_41 : decode cX7_sheet 41 = .ok (.ldc_w 347, 3) := by decide +kernel
theorem dX7_sheet_44 : decode cX7_sheet 44 = .ok (.invokevirtual 59, 3) := by decide +kernel
theorem dX7_sheet_47 : decode cX7_sheet 47 = .ok (.ireturn, 1) := by decide +kernel
theorem dX7_sheet_48 : decode cX7_sheet 48 = .ok (.iload_n 3, 1) := by decide +kernel
theorem dX7_sheet_49 : decode cX7_sheet 49 = .ok (.bipush 40, 2) := by decide +kernel
theorem dX7_sheet_51 : decode cX7_sheet 51 = .ok (.if_icmp .le 10, 3) := by decide +kernel
theorem dX7_sheet_54 : decode cX7_sheet 54 = .ok (.aload_n 0, 1) := by decide +kernel
theorem dX7_sheet_55 : decode cX7_sheet 55 = .ok (.ldc 43, 2) := by decide +kernel
theorem dX7_sheet_57 : decode cX7_sheet 57 = .ok (.invokevirtual 59, 3) := by decide +kernel
theorem dX7_sheet_60 : decode cX7_sheet 60 = .ok (.ireturn, 1) := by decide +kernel
theorem dX7_sheet_61 : decode cX7_sheet 61 = .ok (.aload_n 0, 1) := by decide +kernel
theorem dX7_sheet_62 : decode cX7_sheet 62 = .ok (.getfield 31, 3) := by decide +kernel
theorem dX7_sheet_65 : decode cX7_sheet 65 = .ok (.iload_n 1, 1) := by decide +kernel
theorem dX7_sheet_66 : decode cX7_sheet 66 = .ok (.iload_n 2, 1) := by decide +kernel
theorem dX7_sheet_67 : decode cX7_sheet 67 = .ok (.iastore, 1) := by decide +kernel
theorem dX7_sheet_68 : decode cX7_sheet 68 = .ok (.aload_n 0, 1) := by decide +kernel
theorem dX7_sheet_69 : decode cX7_sheet 69 = .ok (.getfield 34, 3) := by decide +kernel
theorem dX7_sheet_72 : decode cX7_sheet 72 = .ok (.iload_n 1, 1) := by decide +kernel
theorem dX7_sheet_73 : decode cX7_sheet 73 = .ok (.iload_n 2, 1) := by decide +kernel
theorem dX7_sheet_74 : decode cX7_sheet 74 = .ok (.ifCond .ne 7, 3) := by decide +kernel
theorem dX7_sheet_77 : decode cX7_sheet 77 = .ok (.iconst 0, 1) := by decide +kernel
theorem dX7_sheet_78 : decode cX7_sheet 78 = .ok (.goto 4, 3) := by decide +kernel
theorem dX7_sheet_81 : decode cX7_sheet 81 = .ok (.iload_n 3, 1) := by decide +kernel
theorem dX7_sheet_82 : decode cX7_sheet 82 = .ok (.iastore, 1) := by decide +kernel
theorem dX7_sheet_83 : decode cX7_sheet 83 = .ok (.iconst 0, 1) := by decide +kernel
theorem dX7_sheet_84 : decode cX7_sheet 84 = .ok (.istore 4, 2) := by decide +kernel
theorem dX7_sheet_86 : decode cX7_sheet 86 = .ok (.iload 4, 2) := by decide +kernel
theorem dX7_sheet_88 : decode cX7_sheet 88 = .ok (.bipush 40, 2) := by decide +kernel
theorem dX7_sheet_90 : decode cX7_sheet 90 = .ok (.if_icmp .ge 22, 3) := by decide +kernel
theorem dX7_sheet_93 : decode cX7_sheet 93 = .ok (.aload_n 0, 1) := by decide +kernel
theorem dX7_sheet_94 : decode cX7_sheet 94 = .ok (.getfield 37, 3) := by decide +kernel
theorem dX7_sheet_97 : decode cX7_sheet 97 = .ok (.bipush 40, 2) := by decide +kernel
theorem dX7_sheet_99 : decode cX7_sheet 99 = .ok (.iload_n 1, 1) := by decide +kernel
theorem dX7_sheet_100 : decode cX7_sheet 100 = .ok (.imul, 1) := by decide +kernel
theorem dX7_sheet_101 : decode cX7_sheet 101 = .ok (.iload 4, 2) := by decide +kernel
theorem dX7_sheet_103 : decode cX7_sheet 103 = .ok (.iadd, 1) := by decide +kernel
theorem dX7_sheet_104 : decode cX7_sheet 104 = .ok (.iconst 0, 1) := by decide +kernel
theorem dX7_sheet_105 : decode cX7_sheet 105 = .ok (.iastore, 1) := by decide +kernel
theorem dX7_sheet_106 : decode cX7_sheet 106 = .ok (.iinc 4 1, 3) := by decide +kernel
theorem dX7_sheet_109 : decode cX7_sheet 109 = .ok (.goto (-23), 3) := by decide +kernel
theorem dX7_sheet_112 : decode cX7_sheet 112 = .ok (.aload_n 0, 1) := by decide +kernel
theorem dX7_sheet_113 : decode cX7_sheet 113 = .ok (.getfield 34, 3) := by decide +kernel
theorem dX7_sheet_116 : decode cX7_sheet 116 = .ok (.iload_n 1, 1) := by decide +kernel
theorem dX7_sheet_117 : decode cX7_sheet 117 = .ok (.iaload, 1) := by decide +kernel
theorem dX7_sheet_118 : decode cX7_sheet 118 = .ok (.ireturn, 1) := by decide +kernel
theorem dX7_narrowed_0 : decode cX7_narrowed 0 = .ok (.iload_n 0, 1) := by decide +kernel
theorem dX7_narrowed_1 : decode cX7_narrowed 1 = .ok (.bipush 8, 2) := by decide +kernel
theorem dX7_narrowed_3 : decode cX7_narrowed 3 = .ok (.if_icmp .ne 8, 3) := by decide +kernel
theorem dX7_narrowed_6 : decode cX7_narrowed 6 = .ok (.iload_n 1, 1) := by decide +kernel
theorem dX7_narrowed_7 : decode cX7_narrowed 7 = .ok (.i2b, 1) := by decide +kernel
theorem dX7_narrowed_8 : decode cX7_narrowed 8 = .ok (.goto 15, 3) := by decide +kernel
theorem dX7_narrowed_11 : decode cX7_narrowed 11 = .ok (.iload_n 0, 1) := by decide +kernel
theorem dX7_narrowed_12 : decode cX7_narrowed 12 = .ok (.bipush 16, 2) := by decide +kernel
theorem dX7_narrowed_14 : decode cX7_narrowed 14 = .ok (.if_icmp .ne 8, 3) := by decide +kernel
theorem dX7_narrowed_17 : decode cX7_narrowed 17 = .ok (.iload_n 1, 1) := by decide +kernel
theorem dX7_narrowed_18 : decode cX7_narrowed 18 = .ok (.i2s, 1) := by decide +kernel
theorem dX7_narrowed_19 : decode cX7_narrowed 19 = .ok (.goto 4, 3) := by decide +kernel
theorem dX7_narrowed_22 : decode cX7_narrowed 22 = .ok (.iload_n 1, 1) := by decide +kernel
theorem dX7_narrowed_23 : decode cX7_narrowed 23 = .ok (.ireturn, 1) := by decide +kernel
theorem dX7_wrong_0 : decode cX7_wrong 0 = .ok (.iload_n 1, 1) := by decide +kernel
theorem dX7_wrong_1 : decode cX7_wrong 1 = .ok (.invokestatic 344, 3) := by decide +kernel
theorem dX7_wrong_4 : decode cX7_wrong 4 = .ok (.ifCond .ne 8, 3) := by decide +kernel
theorem dX7_wrong_7 : decode cX7_wrong 7 = .ok (.ldc 43, 2) := by decide +kernel
theorem dX7_wrong_9 : decode cX7_wrong 9 = .ok (.goto 19, 3) := by decide +kernel
theorem dX7_wrong_12 : decode cX7_wrong 12 = .ok (.aload_n 0, 1) := by decide +kernel
theorem dX7_wrong_13 : decode cX7_wrong 13 = .ok (.getfield 31, 3) := by decide +kernel
theorem dX7_wrong_16 : decode cX7_wrong 16 = .ok (.iload_n 1, 1) := by decide +kernel
theorem dX7_wrong_17 : decode cX7_wrong 17 = .ok (.iaload, 1) := by decide +kernel
theorem dX7_wrong_18 : decode cX7_wrong 18 = .ok (.ifCond .ne 9, 3) := by decide +kernel
theorem dX7_wrong_21 : decode cX7_wrong 21 = .ok (.ldc_w 342, 3) := by decide +kernel
theorem dX7_wrong_24 : decode cX7_wrong 24 = .ok (.goto 4, 3) := by decide +kernel
theorem dX7_wrong_27 : decode cX7_wrong 27 = .ok (.iconst 0, 1) := by decide +kernel
theorem dX7_wrong_28 : decode cX7_wrong 28 = .ok (.ireturn, 1) := by decide +kernel
theorem dX7_write_0 : decode cX7_write 0 = .ok (.aload_n 0, 1) := by decide +kernel
theorem dX7_write_1 : decode cX7_write 1 = .ok (.iload_n 1, 1) := by decide +kernel
theorem dX7_write_2 : decode cX7_write 2 = .ok (.invokevirtual 348, 3) := by decide +kernel
theorem dX7_write_5 : decode cX7_write 5 = .ok (.istore 4, 2) := by decide +kernel
theorem dX7_write_7 : decode cX7_write 7 = .ok (.iload 4, 2) := by decide +kernel
theorem dX7_write_9 : decode cX7_write 9 = .ok (.ifCond .eq 10, 3) := by decide +kernel
theorem dX7_write_12 : decode cX7_write 12 = .ok (.aload_n 0, 1) := by decide +kernel
theorem dX7_write_13 : decode cX7_write 13 = .ok (.iload 4, 2) := by decide +kernel
theorem dX7_write_15 : decode cX7_write 15 = .ok (.invokevirtual 59, 3) := by decide +kernel
theorem dX7_write_18 : decode cX7_write 18 = .ok (.ireturn, 1) := by decide +kernel
theorem dX7_write_19 : decode cX7_write 19 = .ok (.iload_n 2, 1) := by decide +kernel
theorem dX7_write_20 : decode cX7_write 20 = .ok (.i2l, 1) := by decide +kernel
theorem dX7_write_21 : decode cX7_write 21 = .ok (.lconst 0, 1) := by decide +kernel
theorem dX7_write_22 : decode cX7_write 22 = .ok (.aload_n 0, 1) := by decide +kernel
theorem dX7_write_23 : decode cX7_write 23 = .ok (.getfield 34, 3) := by decide +kernel
theorem dX7_write_26 : decode cX7_write 26 = .ok (.iload_n 1, 1) := by decide +kernel
theorem dX7_write_27 : decode cX7_write 27 = .ok (.iaload, 1) := by decide +kernel
theorem dX7_write_28 : decode cX7_write 28 = .ok (.iconst 1, 1) := by decide +kernel
theorem dX7_write_29 : decode cX7_write 29 = .ok (.isub, 1) := by decide +kernel
theorem dX7_write_30 : decode cX7_write 30 = .ok (.i2l, 1) := by decide +kernel
theorem dX7_write_31 : decode cX7_write 31 = .ok (.invokestatic 46, 3) := by decide +kernel
theorem dX7_write_34 : decode cX7_write 34 = .ok (.ifCond .ne 10, 3) := by decide +kernel
theorem dX7_write_37 : decode cX7_write 37 = .ok (.aload_n 0, 1) := by decide +kernel
theorem dX7_write_38 : decode cX7_write 38 = .ok (.ldc 43, 2) := by decide +kernel
theorem dX7_write_40 : decode cX7_write 40 = .ok (.invokevirtual 59, 3) := by decide +kernel
theorem dX7_write_43 : decode cX7_write 43 = .ok (.ireturn, 1) := by decide +kernel
theorem dX7_write_44 : decode cX7_write 44 = .ok (.aload_n 0, 1) := by decide +kernel
theorem dX7_write_45 : decode cX7_write 45 = .ok (.getfield 37, 3) := by decide +kernel
theorem dX7_write_48 : decode cX7_write 48 = .ok (.bipush 40, 2) := by decide +kernel
theorem dX7_write_50 : decode cX7_write 50 = .ok (.iload_n 1, 1) := by decide +kernel
theorem dX7_write_51 : decode cX7_write 51 = .ok (.imul, 1) := by decide +kernel
theorem dX7_write_52 : decode cX7_write 52 = .ok (.iload_n 2, 1) := by decide +kernel
theorem dX7_write_53 : decode cX7_write 53 = .ok (.iadd, 1) := by decide +kernel
theorem dX7_write_54 : decode cX7_write 54 = .ok (.aload_n 0, 1) := by decide +kernel
theorem dX7_write_55 : decode cX7_write 55 = .ok (.getfield 31, 3) := by decide +kernel
theorem dX7_write_58 : decode cX7_write 58 = .ok (.iload_n 1, 1) := by decide +kernel
theorem dX7_write_59 : decode cX7_write 59 = .ok (.iaload, 1) := by decide +kernel
theorem dX7_write_60 : decode cX7_write 60 = .ok (.iload_n 3, 1) := by decide +kernel
theorem dX7_write_61 : decode cX7_write 61 = .ok (.invokestatic 351, 3) := by decide +kernel
theorem dX7_write_64 : decode cX7_write 64 = .ok (.iastore, 1) := by decide +kernel
theorem dX7_write_65 : decode cX7_write 65 = .ok (.iconst 1, 1) := by decide +kernel
theorem dX7_write_66 : decode cX7_write 66 = .ok (.ireturn, 1) := by decide +kernel
theorem dX7_copy_0 : decode cX7_copy 0 = .ok (.iload_n 1, 1) := by decide +kernel
theorem dX7_copy_1 : decode cX7_copy 1 = .ok (.invokestatic 344, 3) := by decide +kernel
theorem dX7_copy_4 : decode cX7_copy 4 = .ok (.ifCond .eq 10, 3) := by decide +kernel
theorem dX7_copy_7 : decode cX7_copy 7 = .ok (.iload_n 3, 1) := by decide +kernel
theorem dX7_copy_8 : decode cX7_copy 8 = .ok (.invokestatic 344, 3) := by decide +kernel
theorem dX7_copy_11 : decode cX7_copy 11 = .ok (.ifCond .ne 10, 3) := by decide +kernel
theorem dX7_copy_14 : decode cX7_copy 14 = .ok (.aload_n 0, 1) := by decide +kernel
theorem dX7_copy_15 : decode cX7_copy 15 = .ok (.ldc 43, 2) := by decide +kernel
theorem dX7_copy_17 : decode cX7_copy 17 = .ok (.invokevirtual 59, 3) := by decide +kernel
theorem dX7_copy_20 : decode cX7_copy 20 = .ok (.ireturn, 1) := by decide +kernel
theorem dX7_copy_21 : decode cX7_copy 21 = .ok (.aload_n 0, 1) := by decide +kernel
theorem dX7_copy_22 : decode cX7_copy 22 = .ok (.getfield 31, 3) := by decide +kernel
theorem dX7_copy_25 : decode cX7_copy 25 = .ok (.iload_n 1, 1) := by decide +kernel
theorem dX7_copy_26 : decode cX7_copy 26 = .ok (.iaload, 1) := by decide +kernel
theorem dX7_copy_27 : decode cX7_copy 27 = .ok (.ifCond .eq 12, 3) := by decide +kernel
theorem dX7_copy_30 : decode cX7_copy 30 = .ok (.aload_n 0, 1) := by decide +kernel
theorem dX7_copy_31 : decode cX7_copy 31 = .ok (.getfield 31, 3) := by decide +kernel
theorem dX7_copy_34 : decode cX7_copy 34 = .ok (.iload_n 3, 1) := by decide +kernel
theorem dX7_copy_35 : decode cX7_copy 35 = .ok (.iaload, 1) := by decide +kernel
theorem dX7_copy_36 : decode cX7_copy 36 = .ok (.ifCond .ne 11, 3) := by decide +kernel
theorem dX7_copy_39 : decode cX7_copy 39 = .ok (.aload_n 0, 1) := by decide +kernel
theorem dX7_copy_40 : decode cX7_copy 40 = .ok (.ldc_w 342, 3) := by decide +kernel
theorem dX7_copy_43 : decode cX7_copy 43 = .ok (.invokevirtual 59, 3) := by decide +kernel
theorem dX7_copy_46 : decode cX7_copy 46 = .ok (.ireturn, 1) := by decide +kernel
theorem dX7_copy_47 : decode cX7_copy 47 = .ok (.aload_n 0, 1) := by decide +kernel
theorem dX7_copy_48 : decode cX7_copy 48 = .ok (.getfield 31, 3) := by decide +kernel
theorem dX7_copy_51 : decode cX7_copy 51 = .ok (.iload_n 1, 1) := by decide +kernel
theorem dX7_copy_52 : decode cX7_copy 52 = .ok (.iaload, 1) := by decide +kernel
theorem dX7_copy_53 : decode cX7_copy 53 = .ok (.aload_n 0, 1) := by decide +kernel
theorem dX7_copy_54 : decode cX7_copy 54 = .ok (.getfield 31, 3) := by decide +kernel
theorem dX7_copy_57 : decode cX7_copy 57 = .ok (.iload_n 3, 1) := by decide +kernel
theorem dX7_copy_58 : decode cX7_copy 58 = .ok (.iaload, 1) := by decide +kernel
theorem dX7_copy_59 : decode cX7_copy 59 = .ok (.if_icmp .eq 11, 3) := by decide +kernel
theorem dX7_copy_62 : decode cX7_copy 62 = .ok (.aload_n 0, 1) := by decide +kernel
theorem dX7_copy_63 : decode cX7_copy 63 = .ok (.ldc_w 343, 3) := by decide +kernel
theorem dX7_copy_66 : decode cX7_copy 66 = .ok (.invokevirtual 59, 3) := by decide +kernel
theorem dX7_copy_69 : decode cX7_copy 69 = .ok (.ireturn, 1) := by decide +kernel
theorem dX7_copy_70 : decode cX7_copy 70 = .ok (.iload_n 2, 1) := by decide +kernel
theorem dX7_copy_71 : decode cX7_copy 71 = .ok (.ifCond .lt 40, 3) := by decide +kernel
theorem dX7_copy_74 : decode cX7_copy 74 = .ok (.iload 4, 2) := by decide +kernel
theorem dX7_copy_76 : decode cX7_copy 76 = .ok (.ifCond .lt 35, 3) := by decide +kernel
theorem dX7_copy_79 : decode cX7_copy 79 = .ok (.iload 5, 2) := by decide +kernel
theorem dX7_copy_81 : decode cX7_copy 81 = .ok (.ifCond .lt 30, 3) := by decide +kernel
theorem dX7_copy_84 : decode cX7_copy 84 = .ok (.iload 5, 2) := by decide +kernel
theorem dX7_copy_86 : decode cX7_copy 86 = .ok (.aload_n 0, 1) := by decide +kernel
theorem dX7_copy_87 : decode cX7_copy 87 = .ok (.getfield 34, 3) := by decide +kernel
theorem dX7_copy_90 : decode cX7_copy 90 = .ok (.iload_n 1, 1) := by decide +kernel
theorem dX7_copy_91 : decode cX7_copy 91 = .ok (.iaload, 1) := by decide +kernel
theorem dX7_copy_92 : decode cX7_copy 92 = .ok (.iload_n 2, 1) := by decide +kernel
theorem dX7_copy_93 : decode cX7_copy 93 = .ok (.isub, 1) := by decide +kernel
theorem dX7_copy_94 : decode cX7_copy 94 = .ok (.if_icmp .gt 17, 3) := by decide +kernel
theorem dX7_copy_97 : decode cX7_copy 97 = .ok (.iload 5, 2) := by decide +kernel
theorem dX7_copy_99 : decode cX7_copy 99 = .ok (.aload_n 0, 1) := by decide +kernel
theorem dX7_copy_100 : decode cX7_copy 100 = .ok (.getfield 34, 3) := by decide +kernel
theorem dX7_copy_103 : decode cX7_copy 103 = .ok (.iload_n 3, 1) := by decide +kernel
theorem dX7_copy_104 : decode cX7_copy 104 = .ok (.iaload, 1) := by decide +kernel
theorem dX7_copy_105 : decode cX7_copy 105 = .ok (.iload 4, 2) := by decide +kernel
theorem dX7_copy_107 : decode cX7_copy 107 = .ok (.isub, 1) := by decide +kernel
theorem dX7_copy_108 : decode cX7_copy 108 = .ok (.if_icmp .le 10, 3) := by decide +kernel
theorem dX7_copy_111 : decode cX7_copy 111 = .ok (.aload_n 0, 1) := by decide +kernel
theorem dX7_copy_112 : decode cX7_copy 112 = .ok (.ldc 43, 2) := by decide +kernel
theorem dX7_copy_114 : decode cX7_copy 114 = .ok (.invokevirtual 59, 3) := by decide +kernel
theorem dX7_copy_117 : decode cX7_copy 117 = .ok (.ireturn, 1) := by decide +kernel
theorem dX7_copy_118 : decode cX7_copy 118 = .ok (.iconst 0, 1) := by decide +kernel
theorem dX7_copy_119 : decode cX7_copy 119 = .ok (.istore 6, 2) := by decide +kernel
theorem dX7_copy_121 : decode cX7_copy 121 = .ok (.iload 6, 2) := by decide +kernel
theorem dX7_copy_123 : decode cX7_copy 123 = .ok (.iload 5, 2) := by decide +kernel
theorem dX7_copy_125 : decode cX7_copy 125 = .ok (.if_icmp .ge 30, 3) := by decide +kernel
theorem dX7_copy_128 : decode cX7_copy 128 = .ok (.aload_n 0, 1) := by decide +kernel
theorem dX7_copy_129 : decode cX7_copy 129 = .ok (.getfield 40, 3) := by decide +kernel
theorem dX7_copy_132 : decode cX7_copy 132 = .ok (.iload 6, 2) := by decide +kernel
theorem dX7_copy_134 : decode cX7_copy 134 = .ok (.aload_n 0, 1) := by decide +kernel
theorem dX7_copy_135 : decode cX7_copy 135 = .ok (.getfield 37, 3) := by decide +kernel
theorem dX7_copy_138 : decode cX7_copy 138 = .ok (.bipush 40, 2) := by decide +kernel
theorem dX7_copy_140 : decode cX7_copy 140 = .ok (.iload_n 1, 1) := by decide +kernel
theorem dX7_copy_141 : decode cX7_copy 141 = .ok (.imul, 1) := by decide +kernel
theorem dX7_copy_142 : decode cX7_copy 142 = .ok (.iload_n 2, 1) := by decide +kernel
theorem dX7_copy_143 : decode cX7_copy 143 = .ok (.iadd, 1) := by decide +kernel
theorem dX7_copy_144 : decode cX7_copy 144 = .ok (.iload 6, 2) := by decide +kernel
theorem dX7_copy_146 : decode cX7_copy 146 = .ok (.iadd, 1) := by decide +kernel
theorem dX7_copy_147 : decode cX7_copy 147 = .ok (.iaload, 1) := by decide +kernel
theorem dX7_copy_148 : decode cX7_copy 148 = .ok (.iastore, 1) := by decide +kernel
theorem dX7_copy_149 : decode cX7_copy 149 = .ok (.iinc 6 1, 3) := by decide +kernel
theorem dX7_copy_152 : decode cX7_copy 152 = .ok (.goto (-31), 3) := by decide +kernel
theorem dX7_copy_155 : decode cX7_copy 155 = .ok (.iconst 0, 1) := by decide +kernel
theorem dX7_copy_156 : decode cX7_copy 156 = .ok (.istore 6, 2) := by decide +kernel
theorem dX7_copy_158 : decode cX7_copy 158 = .ok (.iload 6, 2) := by decide +kernel
theorem dX7_copy_160 : decode cX7_copy 160 = .ok (.iload 5, 2) := by decide +kernel
theorem dX7_copy_162 : decode cX7_copy 162 = .ok (.if_icmp .ge 31, 3) := by decide +kernel
theorem dX7_copy_165 : decode cX7_copy 165 = .ok (.aload_n 0, 1) := by decide +kernel
theorem dX7_copy_166 : decode cX7_copy 166 = .ok (.getfield 37, 3) := by decide +kernel
theorem dX7_copy_169 : decode cX7_copy 169 = .ok (.bipush 40, 2) := by decide +kernel
theorem dX7_copy_171 : decode cX7_copy 171 = .ok (.iload_n 3, 1) := by decide +kernel
theorem dX7_copy_172 : decode cX7_copy 172 = .ok (.imul, 1) := by decide +kernel
theorem dX7_copy_173 : decode cX7_copy 173 = .ok (.iload 4, 2) := by decide +kernel
theorem dX7_copy_175 : decode cX7_copy 175 = .ok (.iadd, 1) := by decide +kernel
theorem dX7_copy_176 : decode cX7_copy 176 = .ok (.iload 6, 2) := by decide +kernel
theorem dX7_copy_178 : decode cX7_copy 178 = .ok (.iadd, 1) := by decide +kernel
theorem dX7_copy_179 : decode cX7_copy 179 = .ok (.aload_n 0, 1) := by decide +kernel
theorem dX7_copy_180 : decode cX7_copy 180 = .ok (.getfield 40, 3) := by decide +kernel
theorem dX7_copy_183 : decode cX7_copy 183 = .ok (.iload 6, 2) := by decide +kernel
theorem dX7_copy_185 : decode cX7_copy 185 = .ok (.iaload, 1) := by decide +kernel
theorem dX7_copy_186 : decode cX7_copy 186 = .ok (.iastore, 1) := by decide +kernel
theorem dX7_copy_187 : decode cX7_copy 187 = .ok (.iinc 6 1, 3) := by decide +kernel
theorem dX7_copy_190 : decode cX7_copy 190 = .ok (.goto (-32), 3) := by decide +kernel
theorem dX7_copy_193 : decode cX7_copy 193 = .ok (.iload 5, 2) := by decide +kernel
theorem dX7_copy_195 : decode cX7_copy 195 = .ok (.ireturn, 1) := by decide +kernel
theorem dX7_load_0 : decode cX7_load 0 = .ok (.aload_n 0, 1) := by decide +kernel
theorem dX7_load_1 : decode cX7_load 1 = .ok (.iload_n 1, 1) := by decide +kernel
theorem dX7_load_2 : decode cX7_load 2 = .ok (.invokevirtual 348, 3) := by decide +kernel
theorem dX7_load_5 : decode cX7_load 5 = .ok (.istore_n 3, 1) := by decide +kernel
theorem dX7_load_6 : decode cX7_load 6 = .ok (.iload_n 3, 1) := by decide +kernel
theorem dX7_load_7 : decode cX7_load 7 = .ok (.ifCond .eq 9, 3) := by decide +kernel
theorem dX7_load_10 : decode cX7_load 10 = .ok (.aload_n 0, 1) := by decide +kernel
theorem dX7_load_11 : decode cX7_load 11 = .ok (.iload_n 3, 1) := by decide +kernel
theorem dX7_load_12 : decode cX7_load 12 = .ok (.invokevirtual 59, 3) := by decide +kernel
theorem dX7_load_15 : decode cX7_load 15 = .ok (.ireturn, 1) := by decide +kernel
theorem dX7_load_16 : decode cX7_load 16 = .ok (.iload_n 2, 1) := by decide +kernel
theorem dX7_load_17 : decode cX7_load 17 = .ok (.invokestatic 51, 3) := by decide +kernel
theorem dX7_load_20 : decode cX7_load 20 = .ok (.ifCond .ne 10, 3) := by decide +kernel
theorem dX7_load_23 : decode cX7_load 23 = .ok (.aload_n 0, 1) := by decide +kernel
theorem dX7_load_24 : decode cX7_load 24 = .ok (.ldc 43, 2) := by decide +kernel
theorem dX7_load_26 : decode cX7_load 26 = .ok (.invokevirtual 59, 3) := by decide +kernel
theorem dX7_load_29 : decode cX7_load 29 = .ok (.ireturn, 1) := by decide +kernel
theorem dX7_load_30 : decode cX7_load 30 = .ok (.iconst 0, 1) := by decide +kernel
theorem dX7_load_31 : decode cX7_load 31 = .ok (.istore 4, 2) := by decide +kernel
theorem dX7_load_33 : decode cX7_load 33 = .ok (.iload 4, 2) := by decide +kernel
theorem dX7_load_35 : decode cX7_load 35 = .ok (.aload_n 0, 1) := by decide +kernel
theorem dX7_load_36 : decode cX7_load 36 = .ok (.getfield 34, 3) := by decide +kernel
theorem dX7_load_39 : decode cX7_load 39 = .ok (.iload_n 1, 1) := by decide +kernel
theorem dX7_load_40 : decode cX7_load 40 = .ok (.iaload, 1) := by decide +kernel
theorem dX7_load_41 : decode cX7_load 41 = .ok (.if_icmp .ge 66, 3) := by decide +kernel
theorem dX7_load_44 : decode cX7_load 44 = .ok (.iload_n 2, 1) := by decide +kernel
theorem dX7_load_45 : decode cX7_load 45 = .ok (.iload 4, 2) := by decide +kernel
theorem dX7_load_47 : decode cX7_load 47 = .ok (.iadd, 1) := by decide +kernel
theorem dX7_load_48 : decode cX7_load 48 = .ok (.bipush 31, 2) := by decide +kernel
theorem dX7_load_50 : decode cX7_load 50 = .ok (.if_icmp .ge 57, 3) := by decide +kernel
theorem dX7_load_53 : decode cX7_load 53 = .ok (.aload_n 0, 1) := by decide +kernel
theorem dX7_load_54 : decode cX7_load 54 = .ok (.getfield 37, 3) := by decide +kernel
theorem dX7_load_57 : decode cX7_load 57 = .ok (.bipush 40, 2) := by decide +kernel
theorem dX7_load_59 : decode cX7_load 59 = .ok (.iload_n 1, 1) := by decide +kernel
theorem dX7_load_60 : decode cX7_load 60 = .ok (.imul, 1) := by decide +kernel
theorem dX7_load_61 : decode cX7_load 61 = .ok (.iload 4, 2) := by decide +kernel
theorem dX7_load_63 : decode cX7_load 63 = .ok (.iadd, 1) := by decide +kernel
theorem dX7_load_64 : decode cX7_load 64 = .ok (.iaload, 1) := by decide +kernel
theorem dX7_load_65 : decode cX7_load 65 = .ok (.i2l, 1) := by decide +kernel
theorem dX7_load_66 : decode cX7_load 66 = .ok (.ldc2_w 55, 3) := by decide +kernel
theorem dX7_load_69 : decode cX7_load 69 = .ok (.ldc2_w 57, 3) := by decide +kernel
theorem dX7_load_72 : decode cX7_load 72 = .ok (.invokestatic 46, 3) := by decide +kernel
theorem dX7_load_75 : decode cX7_load 75 = .ok (.ifCond .eq 32, 3) := by decide +kernel
theorem dX7_load_78 : decode cX7_load 78 = .ok (.aload_n 0, 1) := by decide +kernel
theorem dX7_load_79 : decode cX7_load 79 = .ok (.getfield 7, 3) := by decide +kernel
theorem dX7_load_82 : decode cX7_load 82 = .ok (.iconst 5, 1) := by decide +kernel
theorem dX7_load_83 : decode cX7_load 83 = .ok (.iload_n 2, 1) := by decide +kernel
theorem dX7_load_84 : decode cX7_load 84 = .ok (.iadd, 1) := by decide +kernel
theorem dX7_load_85 : decode cX7_load 85 = .ok (.iload 4, 2) := by decide +kernel
theorem dX7_load_87 : decode cX7_load 87 = .ok (.iadd, 1) := by decide +kernel
theorem dX7_load_88 : decode cX7_load 88 = .ok (.aload_n 0, 1) := by decide +kernel
theorem dX7_load_89 : decode cX7_load 89 = .ok (.getfield 37, 3) := by decide +kernel
theorem dX7_load_92 : decode cX7_load 92 = .ok (.bipush 40, 2) := by decide +kernel
theorem dX7_load_94 : decode cX7_load 94 = .ok (.iload_n 1, 1) := by decide +kernel
theorem dX7_load_95 : decode cX7_load 95 = .ok (.imul, 1) := by decide +kernel
theorem dX7_load_96 : decode cX7_load 96 = .ok (.iload 4, 2) := by decide +kernel
theorem dX7_load_98 : decode cX7_load 98 = .ok (.iadd, 1) := by decide +kernel
theorem dX7_load_99 : decode cX7_load 99 = .ok (.iaload, 1) := by decide +kernel
theorem dX7_load_100 : decode cX7_load 100 = .ok (.iastore, 1) := by decide +kernel
theorem dX7_load_101 : decode cX7_load 101 = .ok (.iinc 4 1, 3) := by decide +kernel
theorem dX7_load_104 : decode cX7_load 104 = .ok (.goto (-71), 3) := by decide +kernel
theorem dX7_load_107 : decode cX7_load 107 = .ok (.iload 4, 2) := by decide +kernel
theorem dX7_load_109 : decode cX7_load 109 = .ok (.ireturn, 1) := by decide +kernel
theorem dX7_judge_0 : decode cX7_judge 0 = .ok (.aload_n 0, 1) := by decide +kernel
theorem dX7_judge_1 : decode cX7_judge 1 = .ok (.iload_n 1, 1) := by decide +kernel
theorem dX7_judge_2 : decode cX7_judge 2 = .ok (.invokevirtual 348, 3) := by decide +kernel
theorem dX7_judge_5 : decode cX7_judge 5 = .ok (.istore_n 3, 1) := by decide +kernel
theorem dX7_judge_6 : decode cX7_judge 6 = .ok (.iload_n 3, 1) := by decide +kernel
theorem dX7_judge_7 : decode cX7_judge 7 = .ok (.ifCond .eq 9, 3) := by decide +kernel
theorem dX7_judge_10 : decode cX7_judge 10 = .ok (.aload_n 0, 1) := by decide +kernel
theorem dX7_judge_11 : decode cX7_judge 11 = .ok (.iload_n 3, 1) := by decide +kernel
theorem dX7_judge_12 : decode cX7_judge 12 = .ok (.invokevirtual 59, 3) := by decide +kernel
theorem dX7_judge_15 : decode cX7_judge 15 = .ok (.ireturn, 1) := by decide +kernel
theorem dX7_judge_16 : decode cX7_judge 16 = .ok (.aload_n 0, 1) := by decide +kernel
theorem dX7_judge_17 : decode cX7_judge 17 = .ok (.iload_n 2, 1) := by decide +kernel
theorem dX7_judge_18 : decode cX7_judge 18 = .ok (.invokevirtual 92, 3) := by decide +kernel
theorem dX7_judge_21 : decode cX7_judge 21 = .ok (.ifCond .ne 10, 3) := by decide +kernel
theorem dX7_judge_24 : decode cX7_judge 24 = .ok (.aload_n 0, 1) := by decide +kernel
theorem dX7_judge_25 : decode cX7_judge 25 = .ok (.ldc 43, 2) := by decide +kernel
theorem dX7_judge_27 : decode cX7_judge 27 = .ok (.invokevirtual 59, 3) := by decide +kernel
theorem dX7_judge_30 : decode cX7_judge 30 = .ok (.ireturn, 1) := by decide +kernel
theorem dX7_judge_31 : decode cX7_judge 31 = .ok (.aload_n 0, 1) := by decide +kernel
theorem dX7_judge_32 : decode cX7_judge 32 = .ok (.aload_n 0, 1) := by decide +kernel
theorem dX7_judge_33 : decode cX7_judge 33 = .ok (.getfield 34, 3) := by decide +kernel
theorem dX7_judge_36 : decode cX7_judge 36 = .ok (.iload_n 1, 1) := by decide +kernel
theorem dX7_judge_37 : decode cX7_judge 37 = .ok (.iaload, 1) := by decide +kernel
theorem dX7_judge_38 : decode cX7_judge 38 = .ok (.invokevirtual 132, 3) := by decide +kernel
theorem dX7_judge_41 : decode cX7_judge 41 = .ok (.ifCond .eq 10, 3) := by decide +kernel
theorem dX7_judge_44 : decode cX7_judge 44 = .ok (.aload_n 0, 1) := by decide +kernel
theorem dX7_judge_45 : decode cX7_judge 45 = .ok (.ldc 109, 2) := by decide +kernel
theorem dX7_judge_47 : decode cX7_judge 47 = .ok (.invokevirtual 59, 3) := by decide +kernel
theorem dX7_judge_50 : decode cX7_judge 50 = .ok (.ireturn, 1) := by decide +kernel
theorem dX7_judge_51 : decode cX7_judge 51 = .ok (.aload_n 0, 1) := by decide +kernel
theorem dX7_judge_52 : decode cX7_judge 52 = .ok (.invokevirtual 148, 3) := by decide +kernel
theorem dX7_judge_55 : decode cX7_judge 55 = .ok (.iconst 0, 1) := by decide +kernel
theorem dX7_judge_56 : decode cX7_judge 56 = .ok (.istore 4, 2) := by decide +kernel
theorem dX7_judge_58 : decode cX7_judge 58 = .ok (.iconst 1, 1) := by decide +kernel
theorem dX7_judge_59 : decode cX7_judge 59 = .ok (.istore 5, 2) := by decide +kernel
theorem dX7_judge_61 : decode cX7_judge 61 = .ok (.iload 5, 2) := by decide +kernel
theorem dX7_judge_63 : decode cX7_judge 63 = .ok (.ifCond .eq 64, 3) := by decide +kernel
theorem dX7_judge_66 : decode cX7_judge 66 = .ok (.iload 4, 2) := by decide +kernel
theorem dX7_judge_68 : decode cX7_judge 68 = .ok (.aload_n 0, 1) := by decide +kernel
theorem dX7_judge_69 : decode cX7_judge 69 = .ok (.getfield 34, 3) := by decide +kernel
theorem dX7_judge_72 : decode cX7_judge 72 = .ok (.iload_n 1, 1) := by decide +kernel
theorem dX7_judge_73 : decode cX7_judge 73 = .ok (.iaload, 1) := by decide +kernel
theorem dX7_judge_74 : decode cX7_judge 74 = .ok (.if_icmp .ge 53, 3) := by decide +kernel
theorem dX7_judge_77 : decode cX7_judge 77 = .ok (.aload_n 0, 1) := by decide +kernel
theorem dX7_judge_78 : decode cX7_judge 78 = .ok (.invokevirtual 135, 3) := by decide +kernel
theorem dX7_judge_81 : decode cX7_judge 81 = .ok (.aload_n 0, 1) := by decide +kernel
theorem dX7_judge_82 : decode cX7_judge 82 = .ok (.getfield 37, 3) := by decide +kernel
theorem dX7_judge_85 : decode cX7_judge 85 = .ok (.bipush 40, 2) := by decide +kernel
theorem dX7_judge_87 : decode cX7_judge 87 = .ok (.iload_n 1, 1) := by decide +kernel
theorem dX7_judge_88 : decode cX7_judge 88 = .ok (.imul, 1) := by decide +kernel
theorem dX7_judge_89 : decode cX7_judge 89 = .ok (.iload 4, 2) := by decide +kernel
theorem dX7_judge_91 : decode cX7_judge 91 = .ok (.iadd, 1) := by decide +kernel
theorem dX7_judge_92 : decode cX7_judge 92 = .ok (.iaload, 1) := by decide +kernel
theorem dX7_judge_93 : decode cX7_judge 93 = .ok (.aload_n 0, 1) := by decide +kernel
theorem dX7_judge_94 : decode cX7_judge 94 = .ok (.iload_n 2, 1) := by decide +kernel
theorem dX7_judge_95 : decode cX7_judge 95 = .ok (.iconst 4, 1) := by decide +kernel
theorem dX7_judge_96 : decode cX7_judge 96 = .ok (.invokevirtual 89, 3) := by decide +kernel
theorem dX7_judge_99 : decode cX7_judge 99 = .ok (.if_icmp .ne 7, 3) := by decide +kernel
theorem dX7_judge_102 : decode cX7_judge 102 = .ok (.iconst 1, 1) := by decide +kernel
theorem dX7_judge_103 : decode cX7_judge 103 = .ok (.goto 4, 3) := by decide +kernel
theorem dX7_judge_106 : decode cX7_judge 106 = .ok (.iconst 0, 1) := by decide +kernel
theorem dX7_judge_107 : decode cX7_judge 107 = .ok (.istore 5, 2) := by decide +kernel
theorem dX7_judge_109 : decode cX7_judge 109 = .ok (.iload 4, 2) := by decide +kernel
theorem dX7_judge_111 : decode cX7_judge 111 = .ok (.iload 5, 2) := by decide +kernel
theorem dX7_judge_113 : decode cX7_judge 113 = .ok (.ifCond .eq 7, 3) := by decide +kernel
theorem dX7_judge_116 : decode cX7_judge 116 = .ok (.iconst 1, 1) := by decide +kernel
theorem dX7_judge_117 : decode cX7_judge 117 = .ok (.goto 4, 3) := by decide +kernel
theorem dX7_judge_120 : decode cX7_judge 120 = .ok (.iconst 0, 1) := by decide +kernel
theorem dX7_judge_121 : decode cX7_judge 121 = .ok (.iadd, 1) := by decide +kernel
theorem dX7_judge_122 : decode cX7_judge 122 = .ok (.istore 4, 2) := by decide +kernel
theorem dX7_judge_124 : decode cX7_judge 124 = .ok (.goto (-63), 3) := by decide +kernel
theorem dX7_judge_127 : decode cX7_judge 127 = .ok (.aload_n 0, 1) := by decide +kernel
theorem dX7_judge_128 : decode cX7_judge 128 = .ok (.invokevirtual 154, 3) := by decide +kernel
theorem dX7_judge_131 : decode cX7_judge 131 = .ok (.iload 5, 2) := by decide +kernel
theorem dX7_judge_133 : decode cX7_judge 133 = .ok (.ifCond .eq 7, 3) := by decide +kernel
theorem dX7_judge_136 : decode cX7_judge 136 = .ok (.iconst 0, 1) := by decide +kernel
theorem dX7_judge_137 : decode cX7_judge 137 = .ok (.goto 7, 3) := by decide +kernel
theorem dX7_judge_140 : decode cX7_judge 140 = .ok (.iconst 1, 1) := by decide +kernel
theorem dX7_judge_141 : decode cX7_judge 141 = .ok (.iload 4, 2) := by decide +kernel
theorem dX7_judge_143 : decode cX7_judge 143 = .ok (.iadd, 1) := by decide +kernel
theorem dX7_judge_144 : decode cX7_judge 144 = .ok (.ireturn, 1) := by decide +kernel
theorem dX7_image_0 : decode cX7_image 0 = .ok (.iconst 0, 1) := by decide +kernel
theorem dX7_image_1 : decode cX7_image 1 = .ok (.istore_n 1, 1) := by decide +kernel
theorem dX7_image_2 : decode cX7_image 2 = .ok (.iload_n 1, 1) := by decide +kernel
theorem dX7_image_3 : decode cX7_image 3 = .ok (.sipush 167, 3) := by decide +kernel
theorem dX7_image_6 : decode cX7_image 6 = .ok (.if_icmp .ge 21, 3) := by decide +kernel
theorem dX7_image_9 : decode cX7_image 9 = .ok (.aload_n 0, 1) := by decide +kernel
theorem dX7_image_10 : decode cX7_image 10 = .ok (.getfield 13, 3) := by decide +kernel
theorem dX7_image_13 : decode cX7_image 13 = .ok (.iload_n 1, 1) := by decide +kernel
theorem dX7_image_14 : decode cX7_image 14 = .ok (.aload_n 0, 1) := by decide +kernel
theorem dX7_image_15 : decode cX7_image 15 = .ok (.getfield 7, 3) := by decide +kernel
theorem dX7_image_18 : decode cX7_image 18 = .ok (.iload_n 1, 1) := by decide +kernel
theorem dX7_image_19 : decode cX7_image 19 = .ok (.iaload, 1) := by decide +kernel
theorem dX7_image_20 : decode cX7_image 20 = .ok (.iastore, 1) := by decide +kernel
theorem dX7_image_21 : decode cX7_image 21 = .ok (.iinc 1 1, 3) := by decide +kernel
theorem dX7_image_24 : decode cX7_image 24 = .ok (.goto (-22), 3) := by decide +kernel
theorem dX7_image_27 : decode cX7_image 27 = .ok (.aload_n 0, 1) := by decide +kernel
theorem dX7_image_28 : decode cX7_image 28 = .ok (.iconst 1, 1) := by decide +kernel
theorem dX7_image_29 : decode cX7_image 29 = .ok (.putfield 354, 3) := by decide +kernel
theorem dX7_image_32 : decode cX7_image 32 = .ok (.iconst 1, 1) := by decide +kernel
theorem dX7_image_33 : decode cX7_image 33 = .ok (.ireturn, 1) := by decide +kernel
theorem dX7_undo_0 : decode cX7_undo 0 = .ok (.aload_n 0, 1) := by decide +kernel
theorem dX7_undo_1 : decode cX7_undo 1 = .ok (.getfield 354, 3) := by decide +kernel
theorem dX7_undo_4 : decode cX7_undo 4 = .ok (.ifCond .ne 10, 3) := by decide +kernel
theorem dX7_undo_7 : decode cX7_undo 7 = .ok (.aload_n 0, 1) := by decide +kernel
theorem dX7_undo_8 : decode cX7_undo 8 = .ok (.ldc 157, 2) := by decide +kernel
theorem dX7_undo_10 : decode cX7_undo 10 = .ok (.invokevirtual 59, 3) := by decide +kernel
theorem dX7_undo_13 : decode cX7_undo 13 = .ok (.ireturn, 1) := by decide +kernel
theorem dX7_undo_14 : decode cX7_undo 14 = .ok (.iconst 0, 1) := by decide +kernel
theorem dX7_undo_15 : decode cX7_undo 15 = .ok (.istore_n 1, 1) := by decide +kernel
theorem dX7_undo_16 : decode cX7_undo 16 = .ok (.iload_n 1, 1) := by decide +kernel
theorem dX7_undo_17 : decode cX7_undo 17 = .ok (.sipush 167, 3) := by decide +kernel
theorem dX7_undo_20 : decode cX7_undo 20 = .ok (.if_icmp .ge 21, 3) := by decide +kernel
theorem dX7_undo_23 : decode cX7_undo 23 = .ok (.aload_n 0, 1) := by decide +kernel
theorem dX7_undo_24 : decode cX7_undo 24 = .ok (.getfield 7, 3) := by decide +kernel
theorem dX7_undo_27 : decode cX7_undo 27 = .ok (.iload_n 1, 1) := by decide +kernel
theorem dX7_undo_28 : decode cX7_undo 28 = .ok (.aload_n 0, 1) := by decide +kernel
theorem dX7_undo_29 : decode cX7_undo 29 = .ok (.getfield 13, 3) := by decide +kernel
theorem dX7_undo_32 : decode cX7_undo 32 = .ok (.iload_n 1, 1) := by decide +kernel
theorem dX7_undo_33 : decode cX7_undo 33 = .ok (.iaload, 1) := by decide +kernel
theorem dX7_undo_34 : decode cX7_undo 34 = .ok (.iastore, 1) := by decide +kernel
theorem dX7_undo_35 : decode cX7_undo 35 = .ok (.iinc 1 1, 3) := by decide +kernel
theorem dX7_undo_38 : decode cX7_undo 38 = .ok (.goto (-22), 3) := by decide +kernel
theorem dX7_undo_41 : decode cX7_undo 41 = .ok (.aload_n 0, 1) := by decide +kernel
theorem dX7_undo_42 : decode cX7_undo 42 = .ok (.getfield 7, 3) := by decide +kernel
theorem dX7_undo_45 : decode cX7_undo 45 = .ok (.iconst 0, 1) := by decide +kernel
theorem dX7_undo_46 : decode cX7_undo 46 = .ok (.iaload, 1) := by decide +kernel
theorem dX7_undo_47 : decode cX7_undo 47 = .ok (.ireturn, 1) := by decide +kernel
theorem dX7_tear_0 : decode cX7_tear 0 = .ok (.aload_n 0, 1) := by decide +kernel
theorem dX7_tear_1 : decode cX7_tear 1 = .ok (.getfield 354, 3) := by decide +kernel
theorem dX7_tear_4 : decode cX7_tear 4 = .ok (.ifCond .eq 7, 3) := by decide +kernel
theorem dX7_tear_7 : decode cX7_tear 7 = .ok (.iconst 1, 1) := by decide +kernel
theorem dX7_tear_8 : decode cX7_tear 8 = .ok (.goto 4, 3) := by decide +kernel
theorem dX7_tear_11 : decode cX7_tear 11 = .ok (.iconst 0, 1) := by decide +kernel
theorem dX7_tear_12 : decode cX7_tear 12 = .ok (.istore_n 1, 1) := by decide +kernel
theorem dX7_tear_13 : decode cX7_tear 13 = .ok (.aload_n 0, 1) := by decide +kernel
theorem dX7_tear_14 : decode cX7_tear 14 = .ok (.iconst 0, 1) := by decide +kernel
theorem dX7_tear_15 : decode cX7_tear 15 = .ok (.putfield 354, 3) := by decide +kernel
theorem dX7_tear_18 : decode cX7_tear 18 = .ok (.iload_n 1, 1) := by decide +kernel
theorem dX7_tear_19 : decode cX7_tear 19 = .ok (.ireturn, 1) := by decide +kernel
theorem dX7_stones_0 : decode cX7_stones 0 = .ok (.iconst 0, 1) := by decide +kernel
theorem dX7_stones_1 : decode cX7_stones 1 = .ok (.istore_n 1, 1) := by decide +kernel
theorem dX7_stones_2 : decode cX7_stones 2 = .ok (.iconst 0, 1) := by decide +kernel
theorem dX7_stones_3 : decode cX7_stones 3 = .ok (.istore_n 2, 1) := by decide +kernel
theorem dX7_stones_4 : decode cX7_stones 4 = .ok (.iload_n 2, 1) := by decide +kernel
theorem dX7_stones_5 : decode cX7_stones 5 = .ok (.bipush 31, 2) := by decide +kernel
theorem dX7_stones_7 : decode cX7_stones 7 = .ok (.if_icmp .ge 29, 3) := by decide +kernel
theorem dX7_stones_10 : decode cX7_stones 10 = .ok (.iload_n 1, 1) := by decide +kernel
theorem dX7_stones_11 : decode cX7_stones 11 = .ok (.aload_n 0, 1) := by decide +kernel
theorem dX7_stones_12 : decode cX7_stones 12 = .ok (.getfield 7, 3) := by decide +kernel
theorem dX7_stones_15 : decode cX7_stones 15 = .ok (.bipush 36, 2) := by decide +kernel
theorem dX7_stones_17 : decode cX7_stones 17 = .ok (.iload_n 2, 1) := by decide +kernel
theorem dX7_stones_18 : decode cX7_stones 18 = .ok (.iadd, 1) := by decide +kernel
theorem dX7_stones_19 : decode cX7_stones 19 = .ok (.iaload, 1) := by decide +kernel
theorem dX7_stones_20 : decode cX7_stones 20 = .ok (.ifCond .ne 7, 3) := by decide +kernel
theorem dX7_stones_23 : decode cX7_stones 23 = .ok (.iconst 1, 1) := by decide +kernel
theorem dX7_stones_24 : decode cX7_stones 24 = .ok (.goto 4, 3) := by decide +kernel
theorem dX7_stones_27 : decode cX7_stones 27 = .ok (.iconst 0, 1) := by decide +kernel
theorem dX7_stones_28 : decode cX7_stones 28 = .ok (.iadd, 1) := by decide +kernel
theorem dX7_stones_29 : decode cX7_stones 29 = .ok (.istore_n 1, 1) := by decide +kernel
theorem dX7_stones_30 : decode cX7_stones 30 = .ok (.iinc 2 1, 3) := by decide +kernel
theorem dX7_stones_33 : decode cX7_stones 33 = .ok (.goto (-29), 3) := by decide +kernel
theorem dX7_stones_36 : decode cX7_stones 36 = .ok (.iload_n 1, 1) := by decide +kernel
theorem dX7_stones_37 : decode cX7_stones 37 = .ok (.ireturn, 1) := by decide +kernel
theorem dX7_held_0 : decode cX7_held 0 = .ok (.iconst 0, 1) := by decide +kernel
theorem dX7_held_1 : decode cX7_held 1 = .ok (.istore_n 1, 1) := by decide +kernel
theorem dX7_held_2 : decode cX7_held 2 = .ok (.iconst 0, 1) := by decide +kernel
theorem dX7_held_3 : decode cX7_held 3 = .ok (.istore_n 2, 1) := by decide +kernel
theorem dX7_held_4 : decode cX7_held 4 = .ok (.iload_n 2, 1) := by decide +kernel
theorem dX7_held_5 : decode cX7_held 5 = .ok (.bipush 10, 2) := by decide +kernel
theorem dX7_held_7 : decode cX7_held 7 = .ok (.if_icmp .ge 30, 3) := by decide +kernel
theorem dX7_held_10 : decode cX7_held 10 = .ok (.iload_n 1, 1) := by decide +kernel
theorem dX7_held_11 : decode cX7_held 11 = .ok (.aload_n 0, 1) := by decide +kernel
theorem dX7_held_12 : decode cX7_held 12 = .ok (.getfield 7, 3) := by decide +kernel
theorem dX7_held_15 : decode cX7_held 15 = .ok (.sipush 157, 3) := by decide +kernel
theorem dX7_held_18 : decode cX7_held 18 = .ok (.iload_n 2, 1) := by decide +kernel
theorem dX7_held_19 : decode cX7_held 19 = .ok (.iadd, 1) := by decide +kernel
theorem dX7_held_20 : decode cX7_held 20 = .ok (.iaload, 1) := by decide +kernel
theorem dX7_held_21 : decode cX7_held 21 = .ok (.ifCond .ge 7, 3) := by decide +kernel
theorem dX7_held_24 : decode cX7_held 24 = .ok (.iconst 0, 1) := by decide +kernel
theorem dX7_held_25 : decode cX7_held 25 = .ok (.goto 4, 3) := by decide +kernel
theorem dX7_held_28 : decode cX7_held 28 = .ok (.iconst 1, 1) := by decide +kernel
theorem dX7_held_29 : decode cX7_held 29 = .ok (.iadd, 1) := by decide +kernel
theorem dX7_held_30 : decode cX7_held 30 = .ok (.istore_n 1, 1) := by decide +kernel
theorem dX7_held_31 : decode cX7_held 31 = .ok (.iinc 2 1, 3) := by decide +kernel
theorem dX7_held_34 : decode cX7_held 34 = .ok (.goto (-30), 3) := by decide +kernel
theorem dX7_held_37 : decode cX7_held 37 = .ok (.iload_n 1, 1) := by decide +kernel
theorem dX7_held_38 : decode cX7_held 38 = .ok (.ireturn, 1) := by decide +kernel
theorem dX7_count_0 : decode cX7_count 0 = .ok (.iload_n 1, 1) := by decide +kernel
theorem dX7_count_1 : decode cX7_count 1 = .ok (.tableswitch 96 0 7 #[47, 54, 61, 68, 74, 79, 84, 91], 47) := by decide +kernel
theorem dX7_count_48 : decode cX7_count 48 = .ok (.aload_n 0, 1) := by decide +kernel
theorem dX7_count_49 : decode cX7_count 49 = .ok (.getfield 7, 3) := by decide +kernel
theorem dX7_count_52 : decode cX7_count 52 = .ok (.iconst 0, 1) := by decide +kernel
theorem dX7_count_53 : decode cX7_count 53 = .ok (.iaload, 1) := by decide +kernel
theorem dX7_count_54 : decode cX7_count 54 = .ok (.ireturn, 1) := by decide +kernel
theorem dX7_count_55 : decode cX7_count 55 = .ok (.aload_n 0, 1) := by decide +kernel
theorem dX7_count_56 : decode cX7_count 56 = .ok (.getfield 7, 3) := by decide +kernel
theorem dX7_count_59 : decode cX7_count 59 = .ok (.iconst 1, 1) := by decide +kernel
theorem dX7_count_60 : decode cX7_count 60 = .ok (.iaload, 1) := by decide +kernel
theorem dX7_count_61 : decode cX7_count 61 = .ok (.ireturn, 1) := by decide +kernel
theorem dX7_count_62 : decode cX7_count 62 = .ok (.aload_n 0, 1) := by decide +kernel
theorem dX7_count_63 : decode cX7_count 63 = .ok (.bipush 7, 2) := by decide +kernel
theorem dX7_count_65 : decode cX7_count 65 = .ok (.invokevirtual 151, 3) := by decide +kernel
theorem dX7_count_68 : decode cX7_count 68 = .ok (.ireturn, 1) := by decide +kernel
theorem dX7_count_69 : decode cX7_count 69 = .ok (.aload_n 0, 1) := by decide +kernel
theorem dX7_count_70 : decode cX7_count 70 = .ok (.iconst 1, 1) := by decide +kernel
theorem dX7_count_71 : decode cX7_count 71 = .ok (.invokevirtual 151, 3) := by decide +kernel
theorem dX7_count_74 : decode cX7_count 74 = .ok (.ireturn, 1) := by decide +kernel
theorem dX7_count_75 : decode cX7_count 75 = .ok (.aload_n 0, 1) := by decide +kernel
theorem dX7_count_76 : decode cX7_count 76 = .ok (.invokevirtual 357, 3) := by decide +kernel
theorem dX7_count_79 : decode cX7_count 79 = .ok (.ireturn, 1) := by decide +kernel
theorem dX7_count_80 : decode cX7_count 80 = .ok (.aload_n 0, 1) := by decide +kernel
theorem dX7_count_81 : decode cX7_count 81 = .ok (.getfield 219, 3) := by decide +kernel
theorem dX7_count_84 : decode cX7_count 84 = .ok (.ireturn, 1) := by decide +kernel
theorem dX7_count_85 : decode cX7_count 85 = .ok (.aload_n 0, 1) := by decide +kernel
theorem dX7_count_86 : decode cX7_count 86 = .ok (.getfield 7, 3) := by decide +kernel
theorem dX7_count_89 : decode cX7_count 89 = .ok (.iconst 4, 1) := by decide +kernel
theorem dX7_count_90 : decode cX7_count 90 = .ok (.iaload, 1) := by decide +kernel
theorem dX7_count_91 : decode cX7_count 91 = .ok (.ireturn, 1) := by decide +kernel
theorem dX7_count_92 : decode cX7_count 92 = .ok (.aload_n 0, 1) := by decide +kernel
theorem dX7_count_93 : decode cX7_count 93 = .ok (.invokevirtual 360, 3) := by decide +kernel
theorem dX7_count_96 : decode cX7_count 96 = .ok (.ireturn, 1) := by decide +kernel
theorem dX7_count_97 : decode cX7_count 97 = .ok (.aload_n 0, 1) := by decide +kernel
theorem dX7_count_98 : decode cX7_count 98 = .ok (.ldc 43, 2) := by decide +kernel
theorem dX7_count_100 : decode cX7_count 100 = .ok (.invokevirtual 59, 3) := by decide +kernel
theorem dX7_count_103 : decode cX7_count 103 = .ok (.ireturn, 1) := by decide +kernel
theorem dX7_status_0 : decode cX7_status 0 = .ok (.iload_n 1, 1) := by decide +kernel
theorem dX7_status_1 : decode cX7_status 1 = .ok (.i2l, 1) := by decide +kernel
theorem dX7_status_2 : decode cX7_status 2 = .ok (.ldc2_w 363, 3) := by decide +kernel
theorem dX7_status_5 : decode cX7_status 5 = .ok (.ldc2_w 76, 3) := by decide +kernel
theorem dX7_status_8 : decode cX7_status 8 = .ok (.invokestatic 46, 3) := by decide +kernel
theorem dX7_status_11 : decode cX7_status 11 = .ok (.ifCond .ne 10, 3) := by decide +kernel
theorem dX7_status_14 : decode cX7_status 14 = .ok (.aload_n 0, 1) := by decide +kernel
theorem dX7_status_15 : decode cX7_status 15 = .ok (.ldc 43, 2) := by decide +kernel
theorem dX7_status_17 : decode cX7_status 17 = .ok (.invokevirtual 59, 3) := by decide +kernel
theorem dX7_status_20 : decode cX7_status 20 = .ok (.ireturn, 1) := by decide +kernel
theorem dX7_status_21 : decode cX7_status 21 = .ok (.iconst 0, 1) := by decide +kernel
theorem dX7_status_22 : decode cX7_status 22 = .ok (.istore_n 2, 1) := by decide +kernel
theorem dX7_status_23 : decode cX7_status 23 = .ok (.iconst 0, 1) := by decide +kernel
theorem dX7_status_24 : decode cX7_status 24 = .ok (.istore_n 3, 1) := by decide +kernel
theorem dX7_status_25 : decode cX7_status 25 = .ok (.iload_n 3, 1) := by decide +kernel
theorem dX7_status_26 : decode cX7_status 26 = .ok (.bipush 7, 2) := by decide +kernel
theorem dX7_status_28 : decode cX7_status 28 = .ok (.if_icmp .ge 31, 3) := by decide +kernel
theorem dX7_status_31 : decode cX7_status 31 = .ok (.iload_n 2, 1) := by decide +kernel
theorem dX7_status_32 : decode cX7_status 32 = .ok (.iload_n 1, 1) := by decide +kernel
theorem dX7_status_33 : decode cX7_status 33 = .ok (.ifCond .lt 8, 3) := by decide +kernel
theorem dX7_status_36 : decode cX7_status 36 = .ok (.iload_n 3, 1) := by decide +kernel
theorem dX7_status_37 : decode cX7_status 37 = .ok (.iload_n 1, 1) := by decide +kernel
theorem dX7_status_38 : decode cX7_status 38 = .ok (.if_icmp .ne 12, 3) := by decide +kernel
theorem dX7_status_41 : decode cX7_status 41 = .ok (.aload_n 0, 1) := by decide +kernel
theorem dX7_status_42 : decode cX7_status 42 = .ok (.getfield 19, 3) := by decide +kernel
theorem dX7_status_45 : decode cX7_status 45 = .ok (.iload_n 3, 1) := by decide +kernel
theorem dX7_status_46 : decode cX7_status 46 = .ok (.iaload, 1) := by decide +kernel
theorem dX7_status_47 : decode cX7_status 47 = .ok (.goto 4, 3) := by decide +kernel
theorem dX7_status_50 : decode cX7_status 50 = .ok (.iconst 0, 1) := by decide +kernel
theorem dX7_status_51 : decode cX7_status 51 = .ok (.iadd, 1) := by decide +kernel
theorem dX7_status_52 : decode cX7_status 52 = .ok (.istore_n 2, 1) := by decide +kernel
theorem dX7_status_53 : decode cX7_status 53 = .ok (.iinc 3 1, 3) := by decide +kernel
theorem dX7_status_56 : decode cX7_status 56 = .ok (.goto (-31), 3) := by decide +kernel
theorem dX7_status_59 : decode cX7_status 59 = .ok (.iload_n 2, 1) := by decide +kernel
theorem dX7_status_60 : decode cX7_status 60 = .ok (.ireturn, 1) := by decide +kernel
end
section
/-! the judgement X: a frame over one world of all cells, with what is answered from there as an Option -/
/-- the ints that the cells hold: cell, place -/
abbrev IM : Type := Nat → Nat → Int32
/-- what each cell is: the number of its class in vwCl and its fields, or 8 (int[]), 9 (Thing[]), 10 (Sheet[]) and its length -/
def xSHL : List (Nat × Nat) := [(6, 11), (5, 9), (8, 31), (8, 31), (9, 10), (8, 10), (4, 8), (4, 8), (4, 8), (4, 8), (4, 8), (4, 8), (4, 8), (4, 8), (4, 8), (4, 8), (5, 9), (8, 31), (8, 31), (9, 10), (8, 10), (4, 8), (4, 8), (4, 8), (4, 8), (4, 8), (4, 8), (4, 8), (4, 8), (4, 8), (4, 8), (5, 9), (8, 31), (8, 31), (9, 10), (8, 10), (4, 8), (4, 8), (4, 8), (4, 8), (4, 8), (4, 8), (4, 8), (4, 8), (4, 8), (4, 8), (5, 9), (8, 31), (8, 31), (9, 10), (8, 10), (4, 8), (4, 8), (4, 8), (4, 8), (4, 8), (4, 8), (4, 8), (4, 8), (4, 8), (4, 8), (2, 4), (4, 8), (0, 1), (8, 1024), (8, 10), (1, 11), (8, 120), (8, 121), (8, 121), (8, 121), (8, 121), (10, 4), (8, 7), (3, 3), (8, 40), (3, 3), (8, 40), (3, 3), (8, 40), (3, 3), (8, 40), (7, 27), (8, 167), (8, 167), (8, 167), (8, 7), (8, 1024), (8, 10), (8, 120), (8, 4), (8, 4), (8, 160), (8, 40)]
def xSH (a : Nat) : Nat × Nat := xSHL.getD a (99, 0)
/-- how far behind an object the cell lies that its field k holds; 0: an int field -/
def xOFL : List (List Nat) := [[1], [1, 0, 2, 3, 4, 5, 0, 0, 0, 0, 0], [1, 0, 0, 0], [1, 0, 0], [0, 0, 0, 0, 0, 0, 0, 0], [1, 2, 3, 4, 0, 0, 0, 0, 0], [1, 16, 0, 31, 46, 61, 63, 65, 66, 72, 73], [1, 2, 3, 4, 0, 0, 0, 0, 0, 0, 0, 0, 5, 6, 0, 7, 0, 0, 0, 0, 0, 0, 0, 8, 9, 10, 11]]
def xOFF (c k : Nat) : Nat := (xOFL.getD c []).getD k 0
def xLEN : List Nat := [4, 4, 2, 2, 6, 5, 4, 5, 4, 5, 4, 4, 5, 6, 4, 4, 4, 4, 3]
def xBYT : List (List Int32) := [[102, 97, 108, 108], [115, 104, 117, 116], [98, 121], [116, 111], [119, 101, 105, 103, 104, 116], [114, 111, 108, 108, 115], [108, 101, 97, 110], [115, 116, 111, 110, 101], [115, 97, 110, 100], [115, 116, 114, 97, 119], [98, 101, 110, 100], [103, 97, 116, 101], [116, 104, 105, 110, 103], [99, 104, 101, 101, 115, 101], [100, 114, 117, 109], [114, 111, 99, 107], [98, 97, 108, 101], [114, 105, 110, 103], [98, 111, 120]]
def xSTI : List Nat := [105, 110, 121, 130, 148, 154, 158, 172, 174, 176, 178, 180, 182, 184, 186, 188, 190, 192, 194]
def xSTT : List String := ["fall", "shut", "by", "to", "weight", "rolls", "lean", "stone", "sand", "straw", "bend", "gate", "thing", "cheese", "drum", "rock", "bale", "ring", "box"]
def xPD (j : Nat) : Int32 := ([2, 12, 30, 4, 2] : List Int32).getD j 0
def xKA (j : Nat) : Int32 := ([-1, 0, 0, 1, 2, 1, 0] : List Int32).getD j 0
/-- addresses; class numbers and slots; the array classes; the text constants and their bytes; the two static rows; a value that nobody looks at -/
abbrev GX : Type := (Nat → Nat) × va_G × (ClassId × ClassId × ClassId) × ((Nat → Nat) × (Nat → Nat)) × (Nat × Nat) × Value
def xFld (g : GX) (im : IM) (a c k : Nat) : Value := if xOFF c k = 0 then .int (im a k) else .ref (g.1 (a + xOFF c k))
def xEnt (g : GX) (im : IM) (a : Nat) (q : Nat × Nat) : va_E :=
  if q.1 < 8 then .inr (q.1, (List.range q.2).map (xFld g im a q.1))
  else if q.1 = 8 then .inl (g.2.2.1.1, q.2, .inl (im a))
  else if q.1 = 9 then .inl (g.2.2.1.2.1, q.2, .inr (.inr (.inr (.inr (fun i => some (g.1 (a + 2 + i)))))))
  else .inl (g.2.2.1.2.2, q.2, .inr (.inr (.inr (.inr (fun i => some (g.1 (a + 2 + 2 * i)))))))
def xWl (g : GX) (im : IM) : va_W := (List.range 94).map (fun a => (g.1 a, xEnt g im a (xSH a)))
def xAW (g : GX) : Nat → Prop := fun q => ∃ a, a < 94 ∧ q = g.1 a
def xTys (g : GX) : List (ClassId × FieldType) := [(g.2.2.1.1, .int), (g.2.2.1.2.1, .object "RollTown$Thing"), (g.2.2.1.2.2, .object "RollTown$Sheet")]
/-- words that stay as the machine warms -/
def xnest : Cond → Bool
  | .fieldLinkNest _ _ _ _ _ _ => true
  | .methodLinkNest _ _ _ _ => true
  | _ => false
def xok (w : Cond) : Bool := (goodWord w && w.onTables) || xnest w
theorem xok_on {q : Cond} (h : xok q = true) : q.onTables = true := by
  rcases Bool.or_eq_true_iff.mp h with h | h
  · exact (Bool.and_eq_true_iff.mp h).2
  · cases q with
    | fieldLinkNest a i b n d h => rfl
    | methodLinkNest a i x h => rfl
    | _ => simp [xnest] at h
def xT : List Cond := lw_tbl.filter xok
def xSt (g : GX) (U : State) (H : Heap) : Prop :=
  va_Z "RollTown" "PLAIN_DRAG" "[I" (.ref g.2.2.2.2.1.1) (xAW g) U H ∧ va_T .int g.2.2.2.2.1.1 5 (fun j => .int (xPD j)) (xAW g) U H ∧
  va_Z "RollTown" "KIND_ABOVE" "[I" (.ref g.2.2.2.2.1.2) (xAW g) U H ∧ va_T .int g.2.2.2.2.1.2 7 (fun j => .int (xKA j)) (xAW g) U H ∧
  va_Z "java/lang/String" "COMPACT_STRINGS" "Z" (.int 1) (xAW g) U H ∧
  va_Z "jdk/internal/util/Preconditions" "SIOOBE_FORMATTER" "Ljava/util/function/BiFunction;" g.2.2.2.2.2 (xAW g) U H ∧
  vk_S 19 xLEN xBYT g.2.2.2.1.1 g.2.2.2.1.2 (xAW g) U H ∧
  ∀ i, i < 19 → vk_R "RollTown$Reader" (xSTI.getD i 0) (xSTT.getD i "") (g.2.2.2.1.1 i) U
def xKK (g : GX) (U : State) (H : Heap) : Prop := (∀ w ∈ xT, w.before #[] U = true) ∧ va_K g.2.1 vwCl (xTys g) U ∧ (∀ a b, a < 94 → b < 94 → g.1 a = g.1 b → a = b) ∧ xSt g U H
theorem xKK.same {g : GX} {u U : State} {H : Heap} (hv : u.vm = U.vm) (h : xKK g u H) : xKK g U H := by
  obtain ⟨h1, h2, h3, z1, z2, z3, z4, z5, z6, z7, z8⟩ := h
  have al : u.vm.Alike U.vm := by rw [hv]; exact Vm.Alike.refl _
  refine ⟨fun q hq => ?_, va_K.moved al h2, h3, va_Z.moved al z1, va_T.moved al z2, va_Z.moved al z3, va_T.moved al z4, va_Z.moved al z5, va_Z.moved al z6, vk_S.moved al z7, fun i hi => vk_R.same hv.symm (z8 i hi)⟩
  have ho : q.onTables = true := xok_on (List.mem_filter.mp hq).2
  exact va_tabs ho hv (h1 q hq)
theorem xKK.warm {g : GX} {s U : State} {H H1 : Heap} (hW : s.WarmedH U.vm) (hq : ∀ a : Nat, a < H.size → ¬ xAW g a → H1[a]? = H[a]?) (h : xKK g s H) : xKK g U H1 := by
  obtain ⟨h1, h2, h3, z1, z2, z3, z4, z5, z6, z7, z8⟩ := h
  have al := hW.alike
  refine ⟨fun q hm => ?_, va_K.moved al h2, h3, (va_Z.moved al z1).kept hq, (va_T.moved al z2).kept hq, (va_Z.moved al z3).kept hq, (va_T.moved al z4).kept hq, (va_Z.moved al z5).kept hq, (va_Z.moved al z6).kept hq, (vk_S.moved al z7).kept hq, fun i hi => vk_R.warm hW (z8 i hi)⟩
  have hk := (List.mem_filter.mp hm).2
  have h0 := h1 q hm
  rcases Bool.or_eq_true_iff.mp hk with hg | hg
  · exact word_at hW (good_of_word (Bool.and_eq_true_iff.mp hg).1) h0
  · cases q with
    | fieldLinkNest a i b n d h => exact va_Nw.warmF hW h0
    | methodLinkNest a i x h => exact va_Nw.warmM hW h0
    | _ => simp [xnest] at hg
theorem xT_use {g : GX} {s : State} {H : Heap} (h : xKK g s H) {q : Cond} (hq : q ∈ xT) {args : Array Value} : q.before args s = true := by
  have ho : q.onTables = true := xok_on (List.mem_filter.mp hq).2
  exact va_tabs ho rfl (h.1 q hq)
theorem xT_in {q : Cond} (h : q ∈ lw_tbl) (hk : xok q = true) : q ∈ xT := List.mem_filter.mpr ⟨h, hk⟩
/-! the world: reading and writing a cell -/
theorem xWl_at {g : GX} {im : IM} {a : Nat} {q : Nat × Nat} (h : xSH a = q) (hq : ¬ q.1 = 99) : (xWl g im)[a]? = some (g.1 a, xEnt g im a q) := by
  have ha : a < 94 := by
    rcases Nat.lt_or_ge a 94 with h1 | h1
    · exact h1
    · exfalso
      apply hq
      rw [← h]
      have : xSHL.length = 94 := by decide +kernel
      unfold xSH
      rw [List.getD_eq_getElem?_getD, List.getElem?_eq_none (by omega)]
      rfl
  unfold xWl
  rw [List.getElem?_map, List.getElem?_range ha]
  simp [h]
theorem xSH_lt {a : Nat} {q : Nat × Nat} (h : xSH a = q) (hq : ¬ q.1 = 99) : a < 94 := by
  rcases Nat.lt_or_ge a 94 with h1 | h1
  · exact h1
  · exfalso
    apply hq
    rw [← h]
    have : xSHL.length = 94 := by decide +kernel
    unfold xSH
    rw [List.getD_eq_getElem?_getD, List.getElem?_eq_none (by omega)]
    rfl
/-- one int of one cell -/
def up (im : IM) (a i : Nat) (x : Int32) : IM := fun b j => if b = a then (if j = i then x else im b j) else im b j
/-- a whole row -/
def upA (im : IM) (a : Nat) (f : Nat → Int32) : IM := fun b j => if b = a then f j else im b j
theorem xEnt_up_ne {g : GX} {im : IM} {a b i : Nat} {x : Int32} {q : Nat × Nat} (h : b ≠ a) : xEnt g (up im a i x) b q = xEnt g im b q := by
  have e : (up im a i x) b = im b := by funext j; simp [up, h]
  have e2 : ∀ c, xFld g (up im a i x) b c = xFld g im b c := by intro c; funext k; simp [xFld, up, h]
  unfold xEnt
  rw [e, e2]
theorem xEnt_upA_ne {g : GX} {im : IM} {a b : Nat} {f : Nat → Int32} {q : Nat × Nat} (h : b ≠ a) : xEnt g (upA im a f) b q = xEnt g im b q := by
  have e : (upA im a f) b = im b := by funext j; simp [upA, h]
  have e2 : ∀ c, xFld g (upA im a f) b c = xFld g im b c := by intro c; funext k; simp [xFld, upA, h]
  unfold xEnt
  rw [e, e2]
theorem xWl_set {g : GX} {im im' : IM} {a : Nat} (ha : a < 94) (hne : ∀ b, b ≠ a → xEnt g im' b (xSH b) = xEnt g im b (xSH b)) : (xWl g im).set a (g.1 a, xEnt g im' a (xSH a)) = xWl g im' := by
  apply List.ext_getElem?
  intro b
  unfold xWl
  rw [List.getElem?_set, List.getElem?_map]
  by_cases hb : b < 94
  · rw [List.getElem?_map, List.getElem?_range hb]
    by_cases h : a = b
    · subst h
      simp [ha]
    · simp [h, hne b (fun e => h e.symm)]
  · rw [List.getElem?_map, List.getElem?_eq_none (by simp; omega)]
    have h : ¬ a = b := by omega
    simp [h]
theorem xWl_D {g : GX} (im : IM) (h : ∀ a b, a < 94 → b < 94 → g.1 a = g.1 b → a = b) : va_D (xAW g) (xWl g im) := by
  have key : ∀ (k : Nat) (q : Nat × va_E), (xWl g im)[k]? = some q → k < 94 ∧ q.1 = g.1 k := by
    intro k q hk
    unfold xWl at hk
    rw [List.getElem?_map] at hk
    by_cases hb : k < 94
    · rw [List.getElem?_range hb] at hk
      cases hk
      exact ⟨hb, rfl⟩
    · rw [List.getElem?_eq_none (by simp; omega)] at hk
      cases hk
  refine ⟨fun i j p q hi hj e => ?_, fun k q hk => ?_⟩
  · obtain ⟨a1, a2⟩ := key i p hi
    obtain ⟨b1, b2⟩ := key j q hj
    exact h i j a1 b1 (by rw [← a2, ← b2]; exact e)
  · obtain ⟨a1, a2⟩ := key k q hk
    exact ⟨k, a1, a2⟩
/-! the judgement -/
abbrev xM : Type := Nat × Nat × String × ByteArray × Option FieldType
def xR (lev : Nat) : Room := { frames := lev, cells := 0, slots := 0, locals := 37 * lev }
def xQ (g : GX) (r : Option Value × IM) : Array Value → State → Outcome → State → Prop := fun _ st oc t => oc = .returned r.1 ∧ va_P g.2.1 vwCl (xWl g r.2) t.heap ∧ va_F (xAW g) st t
def xB (g : GX) (M : xM) (p : Program) (s : State) (m : MethodId) (meth : Method) (c : Code) : Prop :=
  p.tables.exec = Jvm.exec ∧ c.code = M.2.2.2.1 ∧ c.maxLocals = M.2.1 ∧ meth.sig.returnType = M.2.2.2.2 ∧ meth.locks = false ∧ s.vm.findClass M.2.2.1 = some m.cls ∧ xKK g s s.heap
def xH (g : GX) (M : xM) (s : State) (H : Heap) (locs : List Loc) (im : IM) (ls : Array Slot) (lv : List (Nat × Value)) : Prop := va_S (xAW g) s.heap H locs ∧ va_P g.2.1 vwCl (xWl g im) H ∧ lv_has ls M.2.1 lv
def X (g : GX) (M : xM) {ρ : Type} (enc : ρ → Option Value × IM) (pc : Nat) (lv : List (Nat × Value)) (st : List Value) (im : IM) (o : Option ρ) : Prop :=
  ∀ r, o = some r → ∀ (p : Program) (l : Launch) (e : Env) (s : State) (m : MethodId) (args : Array Value) (below : List Frame) (meth : Method) (c : Code) (H : Heap) (locs : List Loc) (ls : Array Slot), xB g M p s m meth c → xH g M s H locs im ls lv →
    W p l e (xR M.1) s m args below meth c H locs 0 0 (MQ below (xQ g (enc r)) args s 0 0 (xAW g)) (F0 m pc ls st)
/-! answers -/
def eI (r : Int32 × IM) : Option Value × IM := (some (.int r.1), r.2)
def eR (im : IM) (r : Int32) : Option Value × IM := (some (.int r), im)
def eL (im : IM) (r : Int64) : Option Value × IM := (some (.long r), im)
def eV (r : IM) : Option Value × IM := (none, r)
def eN (im : IM) (_ : Unit) : Option Value × IM := (none, im)
def eA (g : GX) (im : IM) (i : Nat) : Option Value × IM := (some (.ref (g.2.2.2.1.1 i)), im)
/-! words of the answers -/
def bnd {α β : Type} (a : α) (k : α → β) : β := k a
def inb (i : Int32) (n : Nat) : Bool := !(decide (i < 0)) && decide (i.toNatClampNeg < n)
abbrev ix (i : Int32) : Nat := i.toNatClampNeg
def jshl (x y : Int32) : Int32 := x <<< (y &&& 31)
def jshr (x y : Int32) : Int32 := x >>> (y &&& 31)
def jush (x y : Int32) : Int32 := (x.toUInt32 >>> (y.toUInt32 &&& Int32.toUInt32 31)).toInt32
def jrem (x y : Int32) : Int32 := x - x / y * y
def jmax (x y : Int32) : Int32 := if x < y then y else x
def jmin (x y : Int32) : Int32 := if y < x then y else x
def jabs (x : Int32) : Int32 := if 0 ≤ x then x else 0 - x
def zb (x : Int32) : Int32 := x &&& 1
def zc (x : Int32) : Int32 := x.toUInt32.toUInt16.toUInt32.toInt32
def zy (x : Int32) : Int32 := x.toInt8.toInt32
def isb (x : Int32) : Bool := x == 0 || x == 1
theorem inb_in {i : Int32} {n : Nat} (h : inb i n = true) : vp_in i n := by
  simp only [inb, Bool.and_eq_true, Bool.not_eq_true', decide_eq_false_iff_not, decide_eq_true_eq] at h
  intro q
  rcases q with q | q
  · exact h.1 q
  · omega
theorem x_grd {ρ : Type} {b : Bool} {o : Option ρ} {r : ρ} (h : (if b = true then o else none) = some r) : b = true ∧ o = some r := by
  cases b with
  | true => exact ⟨rfl, by simpa using h⟩
  | false => simp at h
section XR
variable {g : GX} {lev nL : Nat} {own : String} {cc : ByteArray} {ret : Option FieldType} {ρ : Type} {enc : ρ → Option Value × IM} {pc : Nat} {lv : List (Nat × Value)} {st : List Value} {im : IM} {o : Option ρ}

theorem x_iconst {n : Int} {v : Int32} (hv : Int32.ofInt n = v) (d : decode cc pc = .ok (.iconst n, 1)) (k : X g (lev, nL, own, cc, ret) enc (pc + 1) lv (.int v :: st) im o) : X g (lev, nL, own, cc, ret) enc pc lv (st) im o := by
  intro r hr p l e s m args below meth c H locs ls hB hH
  exact lv_iconst hB.1 hB.2.1 d hv (k r hr p l e s m args below meth c H locs ls hB hH)
theorem x_bipush {n : Int} {v : Int32} (hv : (Int8.ofInt n).toInt32 = v) (d : decode cc pc = .ok (.bipush n, 2)) (k : X g (lev, nL, own, cc, ret) enc (pc + 2) lv (.int v :: st) im o) : X g (lev, nL, own, cc, ret) enc pc lv (st) im o := by
  intro r hr p l e s m args below meth c H locs ls hB hH
  exact lv_bipush hB.1 hB.2.1 d hv (k r hr p l e s m args below meth c H locs ls hB hH)
theorem x_sipush {n : Int} {v : Int32} (hv : (Int16.ofInt n).toInt32 = v) (d : decode cc pc = .ok (.sipush n, 3)) (k : X g (lev, nL, own, cc, ret) enc (pc + 3) lv (.int v :: st) im o) : X g (lev, nL, own, cc, ret) enc pc lv (st) im o := by
  intro r hr p l e s m args below meth c H locs ls hB hH
  exact lv_sipush hB.1 hB.2.1 d hv (k r hr p l e s m args below meth c H locs ls hB hH)
theorem x_lconst {n : Fin 2} {v : Int64} (hv : Int64.ofNat (n : Nat) = v) (d : decode cc pc = .ok (.lconst n, 1)) (k : X g (lev, nL, own, cc, ret) enc (pc + 1) lv (.long v :: st) im o) : X g (lev, nL, own, cc, ret) enc pc lv (st) im o := by
  intro r hr p l e s m args below meth c H locs ls hB hH
  exact lv_lconst hB.1 hB.2.1 d hv (k r hr p l e s m args below meth c H locs ls hB hH)
theorem x_iload_n {k : Fin 4} {i q : Nat} {x : Int32} (hi : (k : Nat) = i) (hq : lv[q]? = some (i, .int x)) (d : decode cc pc = .ok (.iload_n k, 1)) (k : X g (lev, nL, own, cc, ret) enc (pc + 1) lv (.int x :: st) im o) : X g (lev, nL, own, cc, ret) enc pc lv (st) im o := by
  intro r hr p l e s m args below meth c H locs ls hB hH
  exact lv_iload_n hB.1 hB.2.1 d hi (lv_at hH.2.2 q hq) (k r hr p l e s m args below meth c H locs ls hB hH)
theorem x_iload {i q : Nat} {x : Int32} (hq : lv[q]? = some (i, .int x)) (d : decode cc pc = .ok (.iload i, 2)) (k : X g (lev, nL, own, cc, ret) enc (pc + 2) lv (.int x :: st) im o) : X g (lev, nL, own, cc, ret) enc pc lv (st) im o := by
  intro r hr p l e s m args below meth c H locs ls hB hH
  exact lv_iload hB.1 hB.2.1 d (lv_at hH.2.2 q hq) (k r hr p l e s m args below meth c H locs ls hB hH)
theorem x_istore_n {k : Fin 4} {i : Nat} (hi : (k : Nat) = i) {x : Int32} {lv' : List (Nat × Value)} (d : decode cc pc = .ok (.istore_n k, 1)) (hn : i < nL) (hl : (i, Value.int x) :: lv.filter (fun q => !(q.1 == i) && !(q.1 + 1 == i && q.2.category == 2)) = lv') (k : X g (lev, nL, own, cc, ret) enc (pc + 1) lv' st im o) : X g (lev, nL, own, cc, ret) enc pc lv (.int x :: st) im o := by
  intro r hr p l e s m args below meth c H locs ls hB hH
  exact lv_istore_n hB.1 hB.2.1 d hi hH.2.2 hn hl (fun ls' h' => k r hr p l e s m args below meth c H locs ls' hB ⟨hH.1, hH.2.1, h'⟩)
theorem x_istore {i : Nat} {x : Int32} {lv' : List (Nat × Value)} (d : decode cc pc = .ok (.istore i, 2)) (hn : i < nL) (hl : (i, Value.int x) :: lv.filter (fun q => !(q.1 == i) && !(q.1 + 1 == i && q.2.category == 2)) = lv') (k : X g (lev, nL, own, cc, ret) enc (pc + 2) lv' st im o) : X g (lev, nL, own, cc, ret) enc pc lv (.int x :: st) im o := by
  intro r hr p l e s m args below meth c H locs ls hB hH
  exact lv_istore hB.1 hB.2.1 d hH.2.2 hn hl (fun ls' h' => k r hr p l e s m args below meth c H locs ls' hB ⟨hH.1, hH.2.1, h'⟩)
theorem x_lload_n {k : Fin 4} {i q : Nat} {x : Int64} (hi : (k : Nat) = i) (hq : lv[q]? = some (i, .long x)) (d : decode cc pc = .ok (.lload_n k, 1)) (k : X g (lev, nL, own, cc, ret) enc (pc + 1) lv (.long x :: st) im o) : X g (lev, nL, own, cc, ret) enc pc lv (st) im o := by
  intro r hr p l e s m args below meth c H locs ls hB hH
  exact lv_lload_n hB.1 hB.2.1 d hi (lv_at hH.2.2 q hq) (k r hr p l e s m args below meth c H locs ls hB hH)
theorem x_lload {i q : Nat} {x : Int64} (hq : lv[q]? = some (i, .long x)) (d : decode cc pc = .ok (.lload i, 2)) (k : X g (lev, nL, own, cc, ret) enc (pc + 2) lv (.long x :: st) im o) : X g (lev, nL, own, cc, ret) enc pc lv (st) im o := by
  intro r hr p l e s m args below meth c H locs ls hB hH
  exact lv_lload hB.1 hB.2.1 d (lv_at hH.2.2 q hq) (k r hr p l e s m args below meth c H locs ls hB hH)
theorem x_lstore_n {k : Fin 4} {i : Nat} (hi : (k : Nat) = i) {x : Int64} {lv' : List (Nat × Value)} (d : decode cc pc = .ok (.lstore_n k, 1)) (hn : i + 1 < nL) (hl : (i, Value.long x) :: lv.filter (fun q => !(q.1 == i) && (!(q.1 == i + 1) && !(q.1 + 1 == i && q.2.category == 2))) = lv') (k : X g (lev, nL, own, cc, ret) enc (pc + 1) lv' st im o) : X g (lev, nL, own, cc, ret) enc pc lv (.long x :: st) im o := by
  intro r hr p l e s m args below meth c H locs ls hB hH
  exact lv_lstore_n hB.1 hB.2.1 d hi hH.2.2 hn hl (fun ls' h' => k r hr p l e s m args below meth c H locs ls' hB ⟨hH.1, hH.2.1, h'⟩)
theorem x_lstore {i : Nat} {x : Int64} {lv' : List (Nat × Value)} (d : decode cc pc = .ok (.lstore i, 2)) (hn : i + 1 < nL) (hl : (i, Value.long x) :: lv.filter (fun q => !(q.1 == i) && (!(q.1 == i + 1) && !(q.1 + 1 == i && q.2.category == 2))) = lv') (k : X g (lev, nL, own, cc, ret) enc (pc + 2) lv' st im o) : X g (lev, nL, own, cc, ret) enc pc lv (.long x :: st) im o := by
  intro r hr p l e s m args below meth c H locs ls hB hH
  exact lv_lstore hB.1 hB.2.1 d hH.2.2 hn hl (fun ls' h' => k r hr p l e s m args below meth c H locs ls' hB ⟨hH.1, hH.2.1, h'⟩)
theorem x_aload_n {k : Fin 4} {i q : Nat} {x : Nat} (hi : (k : Nat) = i) (hq : lv[q]? = some (i, .ref x)) (d : decode cc pc = .ok (.aload_n k, 1)) (k : X g (lev, nL, own, cc, ret) enc (pc + 1) lv (.ref x :: st) im o) : X g (lev, nL, own, cc, ret) enc pc lv (st) im o := by
  intro r hr p l e s m args below meth c H locs ls hB hH
  exact lv_aload_n hB.1 hB.2.1 d hi (lv_at hH.2.2 q hq) (k r hr p l e s m args below meth c H locs ls hB hH)
theorem x_aload {i q : Nat} {x : Nat} (hq : lv[q]? = some (i, .ref x)) (d : decode cc pc = .ok (.aload i, 2)) (k : X g (lev, nL, own, cc, ret) enc (pc + 2) lv (.ref x :: st) im o) : X g (lev, nL, own, cc, ret) enc pc lv (st) im o := by
  intro r hr p l e s m args below meth c H locs ls hB hH
  exact lv_aload hB.1 hB.2.1 d (lv_at hH.2.2 q hq) (k r hr p l e s m args below meth c H locs ls hB hH)
theorem x_astore_n {k : Fin 4} {i : Nat} (hi : (k : Nat) = i) {x : Nat} {lv' : List (Nat × Value)} (d : decode cc pc = .ok (.astore_n k, 1)) (hn : i < nL) (hl : (i, Value.ref x) :: lv.filter (fun q => !(q.1 == i) && !(q.1 + 1 == i && q.2.category == 2)) = lv') (k : X g (lev, nL, own, cc, ret) enc (pc + 1) lv' st im o) : X g (lev, nL, own, cc, ret) enc pc lv (.ref x :: st) im o := by
  intro r hr p l e s m args below meth c H locs ls hB hH
  exact lv_astore_n hB.1 hB.2.1 d hi hH.2.2 hn hl (fun ls' h' => k r hr p l e s m args below meth c H locs ls' hB ⟨hH.1, hH.2.1, h'⟩)
theorem x_astore {i : Nat} {x : Nat} {lv' : List (Nat × Value)} (d : decode cc pc = .ok (.astore i, 2)) (hn : i < nL) (hl : (i, Value.ref x) :: lv.filter (fun q => !(q.1 == i) && !(q.1 + 1 == i && q.2.category == 2)) = lv') (k : X g (lev, nL, own, cc, ret) enc (pc + 2) lv' st im o) : X g (lev, nL, own, cc, ret) enc pc lv (.ref x :: st) im o := by
  intro r hr p l e s m args below meth c H locs ls hB hH
  exact lv_astore hB.1 hB.2.1 d hH.2.2 hn hl (fun ls' h' => k r hr p l e s m args below meth c H locs ls' hB ⟨hH.1, hH.2.1, h'⟩)
theorem x_iinc {i q : Nat} {n : Int} {x a : Int32} {lv' : Int32 → List (Nat × Value)} {k : Int32 → Option ρ} (d : decode cc pc = .ok (.iinc i n, 3)) (hq : lv[q]? = some (i, .int x)) (ha : Int32.ofInt n = a) (hn : i < nL) (hl : ∀ v, (i, Value.int v) :: lv.filter (fun q => !(q.1 == i) && !(q.1 + 1 == i && q.2.category == 2)) = lv' v) (kk : ∀ v, X g (lev, nL, own, cc, ret) enc (pc + 3) (lv' v) st im (k v)) : X g (lev, nL, own, cc, ret) enc pc lv st im (bnd (x + a) k) := by
  intro r hr p l e s m args below meth c H locs ls hB hH
  subst ha
  exact lv_iinc hB.1 hB.2.1 d hH.2.2 hq rfl hn (hl _) (fun ls' h' => kk (x + Int32.ofInt n) r hr p l e s m args below meth c H locs ls' hB ⟨hH.1, hH.2.1, h'⟩)
theorem x_iadd {x y : Int32} (d : decode cc pc = .ok (.iadd, 1)) (k : X g (lev, nL, own, cc, ret) enc (pc + 1) lv (.int (x + y) :: st) im o) : X g (lev, nL, own, cc, ret) enc pc lv (.int y :: .int x :: st) im o := by
  intro r hr p l e s m args below meth c H locs ls hB hH
  exact lv_iadd hB.1 hB.2.1 d (k r hr p l e s m args below meth c H locs ls hB hH)
theorem x_isub {x y : Int32} (d : decode cc pc = .ok (.isub, 1)) (k : X g (lev, nL, own, cc, ret) enc (pc + 1) lv (.int (x - y) :: st) im o) : X g (lev, nL, own, cc, ret) enc pc lv (.int y :: .int x :: st) im o := by
  intro r hr p l e s m args below meth c H locs ls hB hH
  exact lv_isub hB.1 hB.2.1 d (k r hr p l e s m args below meth c H locs ls hB hH)
theorem x_imul {x y : Int32} (d : decode cc pc = .ok (.imul, 1)) (k : X g (lev, nL, own, cc, ret) enc (pc + 1) lv (.int (x * y) :: st) im o) : X g (lev, nL, own, cc, ret) enc pc lv (.int y :: .int x :: st) im o := by
  intro r hr p l e s m args below meth c H locs ls hB hH
  exact lv_imul hB.1 hB.2.1 d (k r hr p l e s m args below meth c H locs ls hB hH)
theorem x_iand {x y : Int32} (d : decode cc pc = .ok (.iand, 1)) (k : X g (lev, nL, own, cc, ret) enc (pc + 1) lv (.int (x &&& y) :: st) im o) : X g (lev, nL, own, cc, ret) enc pc lv (.int y :: .int x :: st) im o := by
  intro r hr p l e s m args below meth c H locs ls hB hH
  exact lv_iand hB.1 hB.2.1 d (k r hr p l e s m args below meth c H locs ls hB hH)
theorem x_ior {x y : Int32} (d : decode cc pc = .ok (.ior, 1)) (k : X g (lev, nL, own, cc, ret) enc (pc + 1) lv (.int (x ||| y) :: st) im o) : X g (lev, nL, own, cc, ret) enc pc lv (.int y :: .int x :: st) im o := by
  intro r hr p l e s m args below meth c H locs ls hB hH
  exact lv_ior hB.1 hB.2.1 d (k r hr p l e s m args below meth c H locs ls hB hH)
theorem x_ixor {x y : Int32} (d : decode cc pc = .ok (.ixor, 1)) (k : X g (lev, nL, own, cc, ret) enc (pc + 1) lv (.int (x ^^^ y) :: st) im o) : X g (lev, nL, own, cc, ret) enc pc lv (.int y :: .int x :: st) im o := by
  intro r hr p l e s m args below meth c H locs ls hB hH
  exact lv_ixor hB.1 hB.2.1 d (k r hr p l e s m args below meth c H locs ls hB hH)
theorem x_ishl {x y : Int32} (d : decode cc pc = .ok (.ishl, 1)) (k : X g (lev, nL, own, cc, ret) enc (pc + 1) lv (.int (jshl x y) :: st) im o) : X g (lev, nL, own, cc, ret) enc pc lv (.int y :: .int x :: st) im o := by
  intro r hr p l e s m args below meth c H locs ls hB hH
  exact lv_ishl hB.1 hB.2.1 d (k r hr p l e s m args below meth c H locs ls hB hH)
theorem x_ishr {x y : Int32} (d : decode cc pc = .ok (.ishr, 1)) (k : X g (lev, nL, own, cc, ret) enc (pc + 1) lv (.int (jshr x y) :: st) im o) : X g (lev, nL, own, cc, ret) enc pc lv (.int y :: .int x :: st) im o := by
  intro r hr p l e s m args below meth c H locs ls hB hH
  exact lv_ishr hB.1 hB.2.1 d (k r hr p l e s m args below meth c H locs ls hB hH)
theorem x_iushr {x y : Int32} (d : decode cc pc = .ok (.iushr, 1)) (k : X g (lev, nL, own, cc, ret) enc (pc + 1) lv (.int (jush x y) :: st) im o) : X g (lev, nL, own, cc, ret) enc pc lv (.int y :: .int x :: st) im o := by
  intro r hr p l e s m args below meth c H locs ls hB hH
  exact lv_iushr hB.1 hB.2.1 d rfl (k r hr p l e s m args below meth c H locs ls hB hH)
theorem x_ineg {x : Int32} (d : decode cc pc = .ok (.ineg, 1)) (k : X g (lev, nL, own, cc, ret) enc (pc + 1) lv (.int (-x) :: st) im o) : X g (lev, nL, own, cc, ret) enc pc lv (.int x :: st) im o := by
  intro r hr p l e s m args below meth c H locs ls hB hH
  exact lv_ineg hB.1 hB.2.1 d (k r hr p l e s m args below meth c H locs ls hB hH)
theorem x_idiv {x y : Int32} (hne : ¬ y = 0) (d : decode cc pc = .ok (.idiv, 1)) (k : X g (lev, nL, own, cc, ret) enc (pc + 1) lv (.int (x / y) :: st) im o) : X g (lev, nL, own, cc, ret) enc pc lv (.int y :: .int x :: st) im o := by
  intro r hr p l e s m args below meth c H locs ls hB hH
  exact lv_idiv hB.1 hB.2.1 d hne (k r hr p l e s m args below meth c H locs ls hB hH)
theorem x_irem {x y : Int32} (hne : ¬ y = 0) (d : decode cc pc = .ok (.irem, 1)) (k : X g (lev, nL, own, cc, ret) enc (pc + 1) lv (.int (jrem x y) :: st) im o) : X g (lev, nL, own, cc, ret) enc pc lv (.int y :: .int x :: st) im o := by
  intro r hr p l e s m args below meth c H locs ls hB hH
  exact lv_irem hB.1 hB.2.1 d hne (k r hr p l e s m args below meth c H locs ls hB hH)
theorem x_ladd {x y : Int64} (d : decode cc pc = .ok (.ladd, 1)) (k : X g (lev, nL, own, cc, ret) enc (pc + 1) lv (.long (x + y) :: st) im o) : X g (lev, nL, own, cc, ret) enc pc lv (.long y :: .long x :: st) im o := by
  intro r hr p l e s m args below meth c H locs ls hB hH
  exact lv_ladd hB.1 hB.2.1 d (k r hr p l e s m args below meth c H locs ls hB hH)
theorem x_lsub {x y : Int64} (d : decode cc pc = .ok (.lsub, 1)) (k : X g (lev, nL, own, cc, ret) enc (pc + 1) lv (.long (x - y) :: st) im o) : X g (lev, nL, own, cc, ret) enc pc lv (.long y :: .long x :: st) im o := by
  intro r hr p l e s m args below meth c H locs ls hB hH
  exact lv_lsub hB.1 hB.2.1 d (k r hr p l e s m args below meth c H locs ls hB hH)
theorem x_lmul {x y : Int64} (d : decode cc pc = .ok (.lmul, 1)) (k : X g (lev, nL, own, cc, ret) enc (pc + 1) lv (.long (x * y) :: st) im o) : X g (lev, nL, own, cc, ret) enc pc lv (.long y :: .long x :: st) im o := by
  intro r hr p l e s m args below meth c H locs ls hB hH
  exact lv_lmul hB.1 hB.2.1 d (k r hr p l e s m args below meth c H locs ls hB hH)
theorem x_lcmp {x y : Int64} (d : decode cc pc = .ok (.lcmp, 1)) (k : X g (lev, nL, own, cc, ret) enc (pc + 1) lv (.int (lg_cmp x y) :: st) im o) : X g (lev, nL, own, cc, ret) enc pc lv (.long y :: .long x :: st) im o := by
  intro r hr p l e s m args below meth c H locs ls hB hH
  exact W.lcmp hB.1 hB.2.1 d (k r hr p l e s m args below meth c H locs ls hB hH)
theorem x_i2l {x : Int32} (d : decode cc pc = .ok (.i2l, 1)) (k : X g (lev, nL, own, cc, ret) enc (pc + 1) lv (.long x.toInt64 :: st) im o) : X g (lev, nL, own, cc, ret) enc pc lv (.int x :: st) im o := by
  intro r hr p l e s m args below meth c H locs ls hB hH
  exact lv_i2l hB.1 hB.2.1 d rfl (k r hr p l e s m args below meth c H locs ls hB hH)
theorem x_l2i {x : Int64} (d : decode cc pc = .ok (.l2i, 1)) (k : X g (lev, nL, own, cc, ret) enc (pc + 1) lv (.int x.toInt32 :: st) im o) : X g (lev, nL, own, cc, ret) enc pc lv (.long x :: st) im o := by
  intro r hr p l e s m args below meth c H locs ls hB hH
  exact lv_l2i hB.1 hB.2.1 d rfl (k r hr p l e s m args below meth c H locs ls hB hH)
theorem x_i2b {x : Int32} (d : decode cc pc = .ok (.i2b, 1)) (k : X g (lev, nL, own, cc, ret) enc (pc + 1) lv (.int x.toInt8.toInt32 :: st) im o) : X g (lev, nL, own, cc, ret) enc pc lv (.int x :: st) im o := by
  intro r hr p l e s m args below meth c H locs ls hB hH
  exact lv_i2b hB.1 hB.2.1 d rfl (k r hr p l e s m args below meth c H locs ls hB hH)
theorem x_i2s {x : Int32} (d : decode cc pc = .ok (.i2s, 1)) (k : X g (lev, nL, own, cc, ret) enc (pc + 1) lv (.int x.toInt16.toInt32 :: st) im o) : X g (lev, nL, own, cc, ret) enc pc lv (.int x :: st) im o := by
  intro r hr p l e s m args below meth c H locs ls hB hH
  exact lv_i2s hB.1 hB.2.1 d rfl (k r hr p l e s m args below meth c H locs ls hB hH)
theorem x_i2c {x : Int32} (d : decode cc pc = .ok (.i2c, 1)) (k : X g (lev, nL, own, cc, ret) enc (pc + 1) lv (.int (x.toUInt32 % 65536).toInt32 :: st) im o) : X g (lev, nL, own, cc, ret) enc pc lv (.int x :: st) im o := by
  intro r hr p l e s m args below meth c H locs ls hB hH
  exact lv_i2c hB.1 hB.2.1 d rfl (k r hr p l e s m args below meth c H locs ls hB hH)
theorem x_dup {v : Value} (hv : v.category = 1) (d : decode cc pc = .ok (.dup, 1)) (k : X g (lev, nL, own, cc, ret) enc (pc + 1) lv (v :: v :: st) im o) : X g (lev, nL, own, cc, ret) enc pc lv (v :: st) im o := by
  intro r hr p l e s m args below meth c H locs ls hB hH
  exact lv_dup hB.1 hB.2.1 d hv (k r hr p l e s m args below meth c H locs ls hB hH)
theorem x_pop {v : Value} (hv : v.category = 1) (d : decode cc pc = .ok (.pop, 1)) (k : X g (lev, nL, own, cc, ret) enc (pc + 1) lv (st) im o) : X g (lev, nL, own, cc, ret) enc pc lv (v :: st) im o := by
  intro r hr p l e s m args below meth c H locs ls hB hH
  exact lv_pop hB.1 hB.2.1 d hv (k r hr p l e s m args below meth c H locs ls hB hH)
theorem x_dup2 {v u : Value} (hv : v.category = 1) (hu : u.category = 1) (d : decode cc pc = .ok (.dup2, 1)) (k : X g (lev, nL, own, cc, ret) enc (pc + 1) lv (v :: u :: v :: u :: st) im o) : X g (lev, nL, own, cc, ret) enc pc lv (v :: u :: st) im o := by
  intro r hr p l e s m args below meth c H locs ls hB hH
  exact lv_dup2_11 hB.1 hB.2.1 d hv hu (k r hr p l e s m args below meth c H locs ls hB hH)
theorem x_dup_x1 {v u : Value} (hv : v.category = 1) (hu : u.category = 1) (d : decode cc pc = .ok (.dup_x1, 1)) (k : X g (lev, nL, own, cc, ret) enc (pc + 1) lv (v :: u :: v :: st) im o) : X g (lev, nL, own, cc, ret) enc pc lv (v :: u :: st) im o := by
  intro r hr p l e s m args below meth c H locs ls hB hH
  exact lv_dup_x1 hB.1 hB.2.1 d hv hu (k r hr p l e s m args below meth c H locs ls hB hH)
theorem x_goto {off : Int} {tgt : Nat} (d : decode cc pc = .ok (.goto off, 3)) (ht : (pc : Int) + off = (tgt : Int)) (k : X g (lev, nL, own, cc, ret) enc tgt lv st im o) : X g (lev, nL, own, cc, ret) enc pc lv st im o := by
  intro r hr p l e s m args below meth c H locs ls hB hH
  exact lv_goto hB.1 hB.2.1 d ht (k r hr p l e s m args below meth c H locs ls hB hH)
theorem x_if_eq {x : Int32} {off : Int} {tgt : Nat} {o1 o2 : Option ρ} (d : decode cc pc = .ok (.ifCond .eq off, 3)) (ht : (pc : Int) + off = (tgt : Int)) (kt : X g (lev, nL, own, cc, ret) enc tgt lv st im o1) (kf : X g (lev, nL, own, cc, ret) enc (pc + 3) lv st im o2) : X g (lev, nL, own, cc, ret) enc pc lv (.int x :: st) im (if x = 0 then o1 else o2) := by
  intro r hr p l e s m args below meth c H locs ls hB hH
  exact lv_if_eq hB.1 hB.2.1 d ht (fun h => kt r (by rw [if_pos h] at hr; exact hr) p l e s m args below meth c H locs ls hB hH) (fun h => kf r (by rw [if_neg h] at hr; exact hr) p l e s m args below meth c H locs ls hB hH)
theorem x_if_ne {x : Int32} {off : Int} {tgt : Nat} {o1 o2 : Option ρ} (d : decode cc pc = .ok (.ifCond .ne off, 3)) (ht : (pc : Int) + off = (tgt : Int)) (kt : X g (lev, nL, own, cc, ret) enc tgt lv st im o1) (kf : X g (lev, nL, own, cc, ret) enc (pc + 3) lv st im o2) : X g (lev, nL, own, cc, ret) enc pc lv (.int x :: st) im (if x = 0 then o2 else o1) := by
  intro r hr p l e s m args below meth c H locs ls hB hH
  exact lv_if_ne hB.1 hB.2.1 d ht (fun h => kt r (by rw [if_neg h] at hr; exact hr) p l e s m args below meth c H locs ls hB hH) (fun h => kf r (by rw [if_pos h] at hr; exact hr) p l e s m args below meth c H locs ls hB hH)
theorem x_if_lt {x : Int32} {off : Int} {tgt : Nat} {o1 o2 : Option ρ} (d : decode cc pc = .ok (.ifCond .lt off, 3)) (ht : (pc : Int) + off = (tgt : Int)) (kt : X g (lev, nL, own, cc, ret) enc tgt lv st im o1) (kf : X g (lev, nL, own, cc, ret) enc (pc + 3) lv st im o2) : X g (lev, nL, own, cc, ret) enc pc lv (.int x :: st) im (if x < 0 then o1 else o2) := by
  intro r hr p l e s m args below meth c H locs ls hB hH
  exact lv_if_lt hB.1 hB.2.1 d ht (fun h => kt r (by rw [if_pos h] at hr; exact hr) p l e s m args below meth c H locs ls hB hH) (fun h => kf r (by rw [if_neg h] at hr; exact hr) p l e s m args below meth c H locs ls hB hH)
theorem x_if_ge {x : Int32} {off : Int} {tgt : Nat} {o1 o2 : Option ρ} (d : decode cc pc = .ok (.ifCond .ge off, 3)) (ht : (pc : Int) + off = (tgt : Int)) (kt : X g (lev, nL, own, cc, ret) enc tgt lv st im o1) (kf : X g (lev, nL, own, cc, ret) enc (pc + 3) lv st im o2) : X g (lev, nL, own, cc, ret) enc pc lv (.int x :: st) im (if 0 ≤ x then o1 else o2) := by
  intro r hr p l e s m args below meth c H locs ls hB hH
  exact lv_if_ge hB.1 hB.2.1 d ht (fun h => kt r (by rw [if_pos h] at hr; exact hr) p l e s m args below meth c H locs ls hB hH) (fun h => kf r (by rw [if_neg h] at hr; exact hr) p l e s m args below meth c H locs ls hB hH)
theorem x_if_gt {x : Int32} {off : Int} {tgt : Nat} {o1 o2 : Option ρ} (d : decode cc pc = .ok (.ifCond .gt off, 3)) (ht : (pc : Int) + off = (tgt : Int)) (kt : X g (lev, nL, own, cc, ret) enc tgt lv st im o1) (kf : X g (lev, nL, own, cc, ret) enc (pc + 3) lv st im o2) : X g (lev, nL, own, cc, ret) enc pc lv (.int x :: st) im (if 0 < x then o1 else o2) := by
  intro r hr p l e s m args below meth c H locs ls hB hH
  exact lv_if_gt hB.1 hB.2.1 d ht (fun h => kt r (by rw [if_pos h] at hr; exact hr) p l e s m args below meth c H locs ls hB hH) (fun h => kf r (by rw [if_neg h] at hr; exact hr) p l e s m args below meth c H locs ls hB hH)
theorem x_if_le {x : Int32} {off : Int} {tgt : Nat} {o1 o2 : Option ρ} (d : decode cc pc = .ok (.ifCond .le off, 3)) (ht : (pc : Int) + off = (tgt : Int)) (kt : X g (lev, nL, own, cc, ret) enc tgt lv st im o1) (kf : X g (lev, nL, own, cc, ret) enc (pc + 3) lv st im o2) : X g (lev, nL, own, cc, ret) enc pc lv (.int x :: st) im (if x ≤ 0 then o1 else o2) := by
  intro r hr p l e s m args below meth c H locs ls hB hH
  exact lv_if_le hB.1 hB.2.1 d ht (fun h => kt r (by rw [if_pos h] at hr; exact hr) p l e s m args below meth c H locs ls hB hH) (fun h => kf r (by rw [if_neg h] at hr; exact hr) p l e s m args below meth c H locs ls hB hH)
theorem x_icmp_eq {x y : Int32} {off : Int} {tgt : Nat} {o1 o2 : Option ρ} (d : decode cc pc = .ok (.if_icmp .eq off, 3)) (ht : (pc : Int) + off = (tgt : Int)) (kt : X g (lev, nL, own, cc, ret) enc tgt lv st im o1) (kf : X g (lev, nL, own, cc, ret) enc (pc + 3) lv st im o2) : X g (lev, nL, own, cc, ret) enc pc lv (.int y :: .int x :: st) im (if x = y then o1 else o2) := by
  intro r hr p l e s m args below meth c H locs ls hB hH
  exact lv_icmp_eq hB.1 hB.2.1 d ht (fun h => kt r (by rw [if_pos h] at hr; exact hr) p l e s m args below meth c H locs ls hB hH) (fun h => kf r (by rw [if_neg h] at hr; exact hr) p l e s m args below meth c H locs ls hB hH)
theorem x_icmp_ne {x y : Int32} {off : Int} {tgt : Nat} {o1 o2 : Option ρ} (d : decode cc pc = .ok (.if_icmp .ne off, 3)) (ht : (pc : Int) + off = (tgt : Int)) (kt : X g (lev, nL, own, cc, ret) enc tgt lv st im o1) (kf : X g (lev, nL, own, cc, ret) enc (pc + 3) lv st im o2) : X g (lev, nL, own, cc, ret) enc pc lv (.int y :: .int x :: st) im (if x = y then o2 else o1) := by
  intro r hr p l e s m args below meth c H locs ls hB hH
  exact lv_icmp_ne hB.1 hB.2.1 d ht (fun h => kt r (by rw [if_neg h] at hr; exact hr) p l e s m args below meth c H locs ls hB hH) (fun h => kf r (by rw [if_pos h] at hr; exact hr) p l e s m args below meth c H locs ls hB hH)
theorem x_icmp_lt {x y : Int32} {off : Int} {tgt : Nat} {o1 o2 : Option ρ} (d : decode cc pc = .ok (.if_icmp .lt off, 3)) (ht : (pc : Int) + off = (tgt : Int)) (kt : X g (lev, nL, own, cc, ret) enc tgt lv st im o1) (kf : X g (lev, nL, own, cc, ret) enc (pc + 3) lv st im o2) : X g (lev, nL, own, cc, ret) enc pc lv (.int y :: .int x :: st) im (if x < y then o1 else o2) := by
  intro r hr p l e s m args below meth c H locs ls hB hH
  exact lv_icmp_lt hB.1 hB.2.1 d ht (fun h => kt r (by rw [if_pos h] at hr; exact hr) p l e s m args below meth c H locs ls hB hH) (fun h => kf r (by rw [if_neg h] at hr; exact hr) p l e s m args below meth c H locs ls hB hH)
theorem x_icmp_ge {x y : Int32} {off : Int} {tgt : Nat} {o1 o2 : Option ρ} (d : decode cc pc = .ok (.if_icmp .ge off, 3)) (ht : (pc : Int) + off = (tgt : Int)) (kt : X g (lev, nL, own, cc, ret) enc tgt lv st im o1) (kf : X g (lev, nL, own, cc, ret) enc (pc + 3) lv st im o2) : X g (lev, nL, own, cc, ret) enc pc lv (.int y :: .int x :: st) im (if y ≤ x then o1 else o2) := by
  intro r hr p l e s m args below meth c H locs ls hB hH
  exact lv_icmp_ge hB.1 hB.2.1 d ht (fun h => kt r (by rw [if_pos h] at hr; exact hr) p l e s m args below meth c H locs ls hB hH) (fun h => kf r (by rw [if_neg h] at hr; exact hr) p l e s m args below meth c H locs ls hB hH)
theorem x_icmp_gt {x y : Int32} {off : Int} {tgt : Nat} {o1 o2 : Option ρ} (d : decode cc pc = .ok (.if_icmp .gt off, 3)) (ht : (pc : Int) + off = (tgt : Int)) (kt : X g (lev, nL, own, cc, ret) enc tgt lv st im o1) (kf : X g (lev, nL, own, cc, ret) enc (pc + 3) lv st im o2) : X g (lev, nL, own, cc, ret) enc pc lv (.int y :: .int x :: st) im (if y < x then o1 else o2) := by
  intro r hr p l e s m args below meth c H locs ls hB hH
  exact lv_icmp_gt hB.1 hB.2.1 d ht (fun h => kt r (by rw [if_pos h] at hr; exact hr) p l e s m args below meth c H locs ls hB hH) (fun h => kf r (by rw [if_neg h] at hr; exact hr) p l e s m args below meth c H locs ls hB hH)
theorem x_icmp_le {x y : Int32} {off : Int} {tgt : Nat} {o1 o2 : Option ρ} (d : decode cc pc = .ok (.if_icmp .le off, 3)) (ht : (pc : Int) + off = (tgt : Int)) (kt : X g (lev, nL, own, cc, ret) enc tgt lv st im o1) (kf : X g (lev, nL, own, cc, ret) enc (pc + 3) lv st im o2) : X g (lev, nL, own, cc, ret) enc pc lv (.int y :: .int x :: st) im (if x ≤ y then o1 else o2) := by
  intro r hr p l e s m args below meth c H locs ls hB hH
  exact lv_icmp_le hB.1 hB.2.1 d ht (fun h => kt r (by rw [if_pos h] at hr; exact hr) p l e s m args below meth c H locs ls hB hH) (fun h => kf r (by rw [if_neg h] at hr; exact hr) p l e s m args below meth c H locs ls hB hH)
theorem x_none : X g (lev, nL, own, cc, ret) enc pc lv st im none := by
  intro r hr
  cases hr
theorem x_cs {c : Prop} [Decidable c] {a b : ρ} (k : X g (lev, nL, own, cc, ret) enc pc lv st im (if c then some a else some b)) : X g (lev, nL, own, cc, ret) enc pc lv st im (some (if c then a else b)) := by
  by_cases h : c
  · rw [if_pos h] at k ⊢; exact k
  · rw [if_neg h] at k ⊢; exact k
theorem x_bs {α : Type} {a : α} {k : α → ρ} (h : X g (lev, nL, own, cc, ret) enc pc lv st im (bnd a (fun x => some (k x)))) : X g (lev, nL, own, cc, ret) enc pc lv st im (some (bnd a k)) := h
theorem x_bi {e : Int32} {k : Int32 → Option ρ} (h : ∀ x, X g (lev, nL, own, cc, ret) enc pc lv (.int x :: st) im (k x)) : X g (lev, nL, own, cc, ret) enc pc lv (.int e :: st) im (bnd e k) := h e
theorem x_bi2 {e : Int32} {v : Value} {k : Int32 → Option ρ} (h : ∀ x, X g (lev, nL, own, cc, ret) enc pc lv (v :: .int x :: st) im (k x)) : X g (lev, nL, own, cc, ret) enc pc lv (v :: .int e :: st) im (bnd e k) := h e
theorem x_bl {e : Int64} {k : Int64 → Option ρ} (h : ∀ x, X g (lev, nL, own, cc, ret) enc pc lv (.long x :: st) im (k x)) : X g (lev, nL, own, cc, ret) enc pc lv (.long e :: st) im (bnd e k) := h e
theorem x_bm {k : IM → Option ρ} (h : ∀ x, X g (lev, nL, own, cc, ret) enc pc lv st x (k x)) : X g (lev, nL, own, cc, ret) enc pc lv st im (bnd im k) := h im
theorem x_sub {lv' : List (Nat × Value)} (ks : List Nat) (hl : lv_pick lv ks = lv') (k : X g (lev, nL, own, cc, ret) enc pc lv' st im o) : X g (lev, nL, own, cc, ret) enc pc lv st im o := by
  intro r hr p l e s m args below meth c H locs ls hB hH
  exact k r hr p l e s m args below meth c H locs ls hB ⟨hH.1, hH.2.1, lv_sub hH.2.2 ks hl⟩
theorem x_eqpc {pc' : Nat} (h : pc = pc') (k : X g (lev, nL, own, cc, ret) enc pc' lv st im o) : X g (lev, nL, own, cc, ret) enc pc lv st im o := h ▸ k
/-- a switch's one case -/
theorem x_tsw {dflt lo hi off : Int} {offs : Array Int} {len tgt : Nat} {x : Int32} (d : decode cc pc = .ok (.tableswitch dflt lo hi offs, len)) (h1 : ¬ x.toInt < lo) (h2 : ¬ hi < x.toInt) (ho : offs[(x.toInt - lo).toNat]? = some off) (ht : (pc : Int) + off = (tgt : Int)) (k : X g (lev, nL, own, cc, ret) enc tgt lv st im o) : X g (lev, nL, own, cc, ret) enc pc lv (.int x :: st) im o := by
  intro r hr p l e s m args below meth c H locs ls hB hH
  exact lv_tableIn hB.1 hB.2.1 d h1 h2 ho ht (k r hr p l e s m args below meth c H locs ls hB hH)
theorem x_tsd {dflt lo hi : Int} {offs : Array Int} {len tgt : Nat} {x : Int32} (d : decode cc pc = .ok (.tableswitch dflt lo hi offs, len)) (h : x.toInt < lo ∨ hi < x.toInt) (ht : (pc : Int) + dflt = (tgt : Int)) (k : X g (lev, nL, own, cc, ret) enc tgt lv st im o) : X g (lev, nL, own, cc, ret) enc pc lv (.int x :: st) im o := by
  intro r hr p l e s m args below meth c H locs ls hB hH
  exact lv_tableOut hB.1 hB.2.1 d h ht (k r hr p l e s m args below meth c H locs ls hB hH)
theorem x_lsw {dflt off : Int} {ps : Array (Int × Int)} {len tgt : Nat} {x : Int32} (d : decode cc pc = .ok (.lookupswitch dflt ps, len)) (hp : (ps.toList.zip (ps.toList.drop 1)).all (fun (a, next) => a.1 < next.1) = true) (ho : Op.lookupswitch.offset ps.toList dflt x.toInt = off) (ht : (pc : Int) + off = (tgt : Int)) (k : X g (lev, nL, own, cc, ret) enc tgt lv st im o) : X g (lev, nL, own, cc, ret) enc pc lv (.int x :: st) im o := by
  intro r hr p l e s m args below meth c H locs ls hB hH
  exact lv_lookup hB.1 hB.2.1 d hp ho ht (k r hr p l e s m args below meth c H locs ls hB hH)
theorem x_case {x k : Int32} {o1 o2 : Option ρ} (h1 : x = k → X g (lev, nL, own, cc, ret) enc pc lv (.int x :: st) im o1) (h2 : ¬ x = k → X g (lev, nL, own, cc, ret) enc pc lv (.int x :: st) im o2) : X g (lev, nL, own, cc, ret) enc pc lv (.int x :: st) im (if x = k then o1 else o2) := by
  by_cases h : x = k
  · rw [if_pos h]; exact h1 h
  · rw [if_neg h]; exact h2 h
/-! constants, statics -/
theorem x_ldc {index : Nat} {v : Int32} (hc : Cond.constant own index v ∈ xT) (d : decode cc pc = .ok (.ldc index, 2)) (k : X g (lev, nL, own, cc, ret) enc (pc + 2) lv (.int v :: st) im o) : X g (lev, nL, own, cc, ret) enc pc lv st im o := by
  intro r hr p l e s m args below meth c H locs ls hB hH
  exact lv_ldc hB.1 hB.2.1 hB.2.2.2.2.2.1 (xT_use hB.2.2.2.2.2.2 hc) d (k r hr p l e s m args below meth c H locs ls hB hH)
theorem x_ldcw {index : Nat} {v : Int32} (hc : Cond.constant own index v ∈ xT) (d : decode cc pc = .ok (.ldc_w index, 3)) (k : X g (lev, nL, own, cc, ret) enc (pc + 3) lv (.int v :: st) im o) : X g (lev, nL, own, cc, ret) enc pc lv st im o := by
  intro r hr p l e s m args below meth c H locs ls hB hH
  exact lv_ldcw hB.1 hB.2.1 hB.2.2.2.2.2.1 (xT_use hB.2.2.2.2.2.2 hc) d (k r hr p l e s m args below meth c H locs ls hB hH)
theorem x_ldc2 {index : Nat} {v : Int64} (hc : Cond.constantLong own index v ∈ xT) (d : decode cc pc = .ok (.ldc2_w index, 3)) (k : X g (lev, nL, own, cc, ret) enc (pc + 3) lv (.long v :: st) im o) : X g (lev, nL, own, cc, ret) enc pc lv st im o := by
  intro r hr p l e s m args below meth c H locs ls hB hH
  exact lv_ldc2 hB.1 hB.2.1 hB.2.2.2.2.2.1 (xT_use hB.2.2.2.2.2.2 hc) d (k r hr p l e s m args below meth c H locs ls hB hH)
/-! arrays of ints, of things, of sheets -/
theorem x_iald {a n : Nat} {i : Int32} (hs : xSH a = (8, n)) (d : decode cc pc = .ok (.iaload, 1)) (k : X g (lev, nL, own, cc, ret) enc (pc + 1) lv (.int (im a (ix i)) :: st) im o) : X g (lev, nL, own, cc, ret) enc pc lv (.int i :: .ref (g.1 a) :: st) im (if inb i n = true then o else none) := by
  intro r hr p l e s m args below meth c H locs ls hB hH
  obtain ⟨hi, hr⟩ := x_grd hr
  exact va_iald (f := im a) hB.1 hB.2.1 hB.2.2.2.2.2.2.2.1 hH.2.1 a 0 (xWl_at hs (by simp)) rfl (inb_in hi) d (k r hr p l e s m args below meth c H locs ls hB hH)
theorem x_iast {a n : Nat} {i x : Int32} (hs : xSH a = (8, n)) (d : decode cc pc = .ok (.iastore, 1)) (k : X g (lev, nL, own, cc, ret) enc (pc + 1) lv st (up im a (ix i) x) o) : X g (lev, nL, own, cc, ret) enc pc lv (.int x :: .int i :: .ref (g.1 a) :: st) im (if inb i n = true then o else none) := by
  intro r hr p l e s m args below meth c H locs ls hB hH
  obtain ⟨hi, hr⟩ := x_grd hr
  refine va_iast (f := im a) hB.1 hB.2.1 hB.2.2.2.2.2.2.2.1 hH.2.1 (xWl_D im hB.2.2.2.2.2.2.2.2.1) hH.1 a 0 (xWl_at hs (by simp)) rfl (inb_in hi) d (fun H1 locs1 hP _ hS => ?_)
  have eW : (xWl g im).set a (g.1 a, .inl (g.2.2.1.1, n, .inl (upd (im a) (ix i) x))) = xWl g (up im a (ix i) x) := by
    rw [← xWl_set (im := im) (im' := up im a (ix i) x) (xSH_lt hs (by simp)) (fun b hb => xEnt_up_ne hb), hs]
    congr 2
    show _ = Sum.inl (g.2.2.1.1, n, Sum.inl ((up im a (ix i) x) a))
    have e2 : (up im a (ix i) x) a = upd (im a) (ix i) x := by funext j; simp [up, upd]
    rw [e2]
  rw [eW] at hP
  exact k r hr p l e s m args below meth c H1 locs1 ls hB ⟨hS, hP, hH.2.2⟩
theorem x_aldT {a : Nat} {i : Int32} (hs : xSH a = (9, 10)) (d : decode cc pc = .ok (.aaload, 1)) (k : inb i 10 = true → X g (lev, nL, own, cc, ret) enc (pc + 1) lv (.ref (g.1 (a + 2 + ix i)) :: st) im o) : X g (lev, nL, own, cc, ret) enc pc lv (.int i :: .ref (g.1 a) :: st) im (if inb i 10 = true then o else none) := by
  intro r hr p l e s m args below meth c H locs ls hB hH
  obtain ⟨hi, hr⟩ := x_grd hr
  exact va_aldq (f := fun i => some (g.1 (a + 2 + i))) hB.1 hB.2.1 hB.2.2.2.2.2.2.2.1 hH.2.1 a 1 (xWl_at hs (by simp)) rfl (inb_in hi) d (k hi r hr p l e s m args below meth c H locs ls hB hH)
theorem x_aldS {a : Nat} {i : Int32} (hs : xSH a = (10, 4)) (d : decode cc pc = .ok (.aaload, 1)) (k : inb i 4 = true → X g (lev, nL, own, cc, ret) enc (pc + 1) lv (.ref (g.1 (a + 2 + 2 * ix i)) :: st) im o) : X g (lev, nL, own, cc, ret) enc pc lv (.int i :: .ref (g.1 a) :: st) im (if inb i 4 = true then o else none) := by
  intro r hr p l e s m args below meth c H locs ls hB hH
  obtain ⟨hi, hr⟩ := x_grd hr
  exact va_aldq (f := fun i => some (g.1 (a + 2 + 2 * i))) hB.1 hB.2.1 hB.2.2.2.2.2.2.2.1 hH.2.1 a 2 (xWl_at hs (by simp)) rfl (inb_in hi) d (k hi r hr p l e s m args below meth c H locs ls hB hH)
theorem x_alen {a n : Nat} {v : Int32} (hs : xSH a = (8, n)) (hv : Int32.ofNat n = v) (d : decode cc pc = .ok (.arraylength, 1)) (k : X g (lev, nL, own, cc, ret) enc (pc + 1) lv (.int v :: st) im o) : X g (lev, nL, own, cc, ret) enc pc lv (.ref (g.1 a) :: st) im o := by
  intro r hr p l e s m args below meth c H locs ls hB hH
  exact va_alen (x := (n, .inl (im a))) hB.1 hB.2.1 hB.2.2.2.2.2.2.2.1 hH.2.1 a 0 (xWl_at hs (by simp)) rfl hv d (k r hr p l e s m args below meth c H locs ls hB hH)
/-! fields -/
theorem xFs {g : GX} {im : IM} {a c n k : Nat} (hk : k < n) : ((List.range n).map (xFld g im a c))[k]? = some (xFld g im a c k) := by
  rw [List.getElem?_map, List.getElem?_range hk]; rfl
theorem xEnt_o {g : GX} {im : IM} {a c n : Nat} (hc : c < 8) : xEnt g im a (c, n) = .inr (c, (List.range n).map (xFld g im a c)) := if_pos hc
theorem x_get {a c n : Nat} {C : String} {T : u_T} {index : Nat} {v : Value} (hs : xSH a = (c, n)) (hc : c < 8) (hcl : vwCl[c]? = some (C, T, n)) (hin : ∀ w ∈ u_ws C T n, w ∈ xT) (k : Nat) (hk : k < n) (hlink : Cond.fieldLink own index (T k).1 (T k).2.1 (T k).2.2.1 ∈ xT) (hv : xFld g im a c k = v) (d : decode cc pc = .ok (.getfield index, 3)) (kk : X g (lev, nL, own, cc, ret) enc (pc + 3) lv (v :: st) im o) : X g (lev, nL, own, cc, ret) enc pc lv (.ref (g.1 a) :: st) im o := by
  intro r hr p l e s m args below meth c H locs ls hB hH
  exact va_get (Ts := xT) hB.1 hB.2.1 (fun q hq => xT_use hB.2.2.2.2.2.2 hq) hin hB.2.2.2.2.2.1 hB.2.2.2.2.2.2.2.1 hH.2.1 a ((xWl_at hs (by simp; omega)).trans (by rw [xEnt_o hc])) hcl k hk (xT_use hB.2.2.2.2.2.2 hlink) (fun _ h => h) ((xFs hk).trans (by rw [hv])) d (kk r hr p l e s m args below meth c H locs ls hB hH)
theorem x_put {a ci n : Nat} {C : String} {T : u_T} {index : Nat} {x : Int32} {ty : FieldType} (ty0 : Nat → FieldType) (hty : ∀ k, k < n → parseFieldDescriptor (T k).2.2.1 = some (ty0 k)) (hnm : ∀ a, a < n → ∀ b, b < n → a ≠ b → (T a).2.1 ≠ (T b).2.1) (hs : xSH a = (ci, n)) (hc : ci < 8) (hcl : vwCl[ci]? = some (C, T, n)) (hin : ∀ w ∈ u_ws C T n, w ∈ xT) (k : Nat) (hk : k < n) (h0 : xOFF ci k = 0) (hlink : Cond.fieldLink own index (T k).1 (T k).2.1 (T k).2.2.1 ∈ xT) (hfin : (T k).2.2.2 = false) (hd : parseFieldDescriptor (T k).2.2.1 = some ty) (hnn : narrow ty (.int x) = .int x) (hfit : fits ty (.int x) = true) (d : decode cc pc = .ok (.putfield index, 3)) (kk : X g (lev, nL, own, cc, ret) enc (pc + 3) lv st (up im a k x) o) : X g (lev, nL, own, cc, ret) enc pc lv (.int x :: .ref (g.1 a) :: st) im o := by
  intro r hr p l e s m args below meth c H locs ls hB hH
  refine va_put (Ts := xT) (fs := (List.range n).map (xFld g im a ci)) hB.1 hB.2.1 (fun q hq => xT_use hB.2.2.2.2.2.2 hq) hin ty0 hty hnm hB.2.2.2.2.2.1 hB.2.2.2.2.2.2.2.1 hH.2.1 (xWl_D im hB.2.2.2.2.2.2.2.2.1) hH.1 a ((xWl_at hs (by simp; omega)).trans (by rw [xEnt_o hc])) hcl k hk (xT_use hB.2.2.2.2.2.2 hlink) (fun _ h => h) hfin hd hnn hfit (by simp; exact hk) d (fun H1 locs1 hP _ hS => ?_)
  have eW : (xWl g im).set a (g.1 a, .inr (ci, ((List.range n).map (xFld g im a ci)).set k (.int x))) = xWl g (up im a k x) := by
    rw [← xWl_set (im := im) (im' := up im a k x) (xSH_lt hs (by simp; omega)) (fun b hb => xEnt_up_ne hb), hs, xEnt_o hc]
    congr 4
    apply List.ext_getElem?
    intro j
    rw [List.getElem?_set]
    by_cases hj : j < n
    · rw [xFs hj, xFs hj]
      by_cases h : k = j
      · subst h
        simp [hk, xFld, h0, up]
      · rw [if_neg h]
        have h2 : ¬ j = k := fun e => h e.symm
        simp [xFld, up, h2]
    · rw [List.getElem?_eq_none (by simp; omega), List.getElem?_eq_none (by simp; omega)]
      by_cases h : k = j
      · subst h; omega
      · simp [h]
  rw [eW] at hP
  exact kk r hr p l e s m args below meth c H1 locs1 ls hB ⟨hS, hP, hH.2.2⟩
/-! ends -/
theorem x_iret {x : Int32} {r0 : ρ} (he : enc r0 = (some (.int x), im)) (hret : ret = some .int) (d : decode cc pc = .ok (.ireturn, 1)) : X g (lev, nL, own, cc, ret) enc pc lv [.int x] im (some r0) := by
  intro r hr p l e s m args below meth c H locs ls hB hH
  cases hr
  exact W.iret (v := x) hB.1 hB.2.1 (hB.2.2.2.1.trans hret) (fun t ht hW => ⟨by rw [he], by rw [he, ht]; exact hH.2.1, hH.1.F ht⟩) hH.1.2.2 d (hlocks := hB.2.2.2.2.1)
theorem x_lret {x : Int64} {r0 : ρ} (he : enc r0 = (some (.long x), im)) (hret : ret = some .long) (d : decode cc pc = .ok (.lreturn, 1)) : X g (lev, nL, own, cc, ret) enc pc lv [.long x] im (some r0) := by
  intro r hr p l e s m args below meth c H locs ls hB hH
  cases hr
  exact W.lret (v := x) hB.1 hB.2.1 (hB.2.2.2.1.trans hret) (fun t ht hW => ⟨by rw [he], by rw [he, ht]; exact hH.2.1, hH.1.F ht⟩) hH.1.2.2 d (hlocks := hB.2.2.2.2.1)
theorem x_vret {r0 : ρ} (he : enc r0 = (none, im)) (hret : ret = none) (d : decode cc pc = .ok (.return_, 1)) : X g (lev, nL, own, cc, ret) enc pc lv [] im (some r0) := by
  intro r hr p l e s m args below meth c H locs ls hB hH
  cases hr
  exact W.vret hB.1 hB.2.1 (hB.2.2.2.1.trans hret) (fun t ht hW => ⟨by rw [he], by rw [he, ht]; exact hH.2.1, hH.1.F ht⟩) hH.1.2.2 d (hlocks := hB.2.2.2.2.1)
theorem x_aret {x : Nat} {r0 : ρ} {rt : FieldType} (he : enc r0 = (some (.ref x), im)) (hret : ret = some rt) (hrt : (∃ n, rt = .object n) ∨ ∃ t, rt = .array t) (d : decode cc pc = .ok (.areturn, 1)) : X g (lev, nL, own, cc, ret) enc pc lv [.ref x] im (some r0) := by
  intro r hr p l e s m args below meth c H locs ls hB hH
  cases hr
  exact W.aret hB.1 hB.2.1 (hB.2.2.2.1.trans hret) hrt (Or.inr ⟨_, rfl⟩) (fun t ht hW => ⟨by rw [he], by rw [he, ht]; exact hH.2.1, hH.1.F ht⟩) hH.1.2.2 d (hlocks := hB.2.2.2.2.1)
theorem x_nret {x y : Int32} {r0 : ρ} {ty : FieldType} (he : enc r0 = (some (.int y), im)) (hret : ret = some ty) (hn : narrow ty (.int x) = .int y) (d : decode cc pc = .ok (.ireturn, 1)) : X g (lev, nL, own, cc, ret) enc pc lv [.int x] im (some r0) := by
  intro r hr p l e s m args below meth c H locs ls hB hH
  cases hr
  have hb := hB.2.1
  have hlocks := hB.2.2.2.2.1
  have hexec := hB.1
  have hr := hB.2.2.2.1.trans hret
  intro T hT XX
  obtain ⟨fs, hre, hrun, hended, hW, hframe⟩ := XX.leave (v := some (.int y)) (hlocks := hlocks) (fun h => by rw [hr] at h; cases h)
  have hmeth' : T.vm.method? m = some meth := XX.method'
  refine ⟨T.setFrames fs, ?_, .returned (some (.int y)), hrun, hended, ⟨by rw [he], by rw [he]; show va_P _ _ _ T.heap; rw [hT]; exact hH.2.1, hH.1.F hT⟩, locs, ⟨⟨_, rfl⟩, hW, hframe⟩, hH.1.2.2⟩
  have d' : decode c.code pc = .ok (.ireturn, 1) := by rw [hb]; exact d
  jvm_step XX.here [XX.here.top, hexec, d', hmeth', hr, hn]
  (try refine ⟨rfl, ?_⟩); (try refine ⟨rfl, ?_⟩)
  first | (intro acts; rw [hre _ acts rfl rfl rfl]) | rw [hre _ _ rfl rfl rfl]
  exact Steps.refl _
end XR
/-! a method's contract -/
def xPre (g : GX) (im : IM) (U : State) : Prop := xKK g U U.heap ∧ va_P g.2.1 vwCl (xWl g im) U.heap
def xMet (g : GX) (lev : Nat) (y : MethodName) (cc : ByteArray) (nL : Nat) (ret : Option FieldType) (av : List Value) (im : IM) (r : Option Value × IM) : Prop :=
  ∀ l : Launch, Met l y [Cond.code y cc nL ret] (xR lev) (va_Pc av (xPre g im)) (xQ g r) 0 0 (xAW g)
theorem x_met {g : GX} {lev nL : Nat} {y : MethodName} {cc : ByteArray} {ret : Option FieldType} {ρ : Type} {enc : ρ → Option Value × IM} {av : List Value} {lv : List (Nat × Value)} {im : IM} {o : Option ρ} (hy : plainName y.cls = true) (hn : (lg_sl av).length ≤ nL) (hlv : lv_args 0 av = lv)
    (h : X g (lev, nL, y.cls, cc, ret) enc 0 lv [] im o) (r : ρ) (hr : o = some r) : xMet g lev y cc nL ret av im (enc r) := by
  intro l
  subst hlv
  refine Met.ofW (cc := cc) (maxL := nL) (ret := ret) hy rfl ?_
  intro p e s m args below meth c s₁ B hml hv
  obtain ⟨rfl, hK, hP⟩ := hv
  have hl := lv_entry av (n := nL) hn
  rw [lg_entry_eq]
  exact h r hr p l e s m _ below meth c s.heap [] _ ⟨B.exec, B.bytes, hml, B.returns, B.notSynchronized, findClass_of_methodNamed B.named, hK⟩ ⟨va_S.rf, hP, hl⟩
theorem x_blind {g : GX} {av : List Value} {im : IM} : FrameBlind (va_Pc av (xPre g im)) := by
  intro a U f mk h
  exact ⟨h.1, xKK.same (u := U) (U := U.calling f mk a) (H := U.heap) rfl h.2.1, h.2.2⟩
section XC
variable {g : GX} {lev nL : Nat} {own : String} {cc : ByteArray} {ret : Option FieldType} {ρ : Type} {enc : ρ → Option Value × IM} {pc : Nat} {lv : List (Nat × Value)} {st : List Value} {im : IM} {o : Option ρ}
variable {lev' nL' : Nat} {y : MethodName} {cc' : ByteArray} {ret' : Option FieldType} {index n : Nat}
/-- behind a call -/
theorem x_after {p : Program} {l : Launch} {e : Env} {s : State} {m : MethodId} {args a : Array Value} {below : List Frame} {meth : Method} {c : Code} {H : Heap} {locs : List Loc} {ls : Array Slot} {st0 : List Value} {rv : Option Value × IM} {r : ρ} (hB : xB g (lev, nL, own, cc, ret) p s m meth c) (hH : xH g (lev, nL, own, cc, ret) s H locs im ls lv)
    (hR : va_Run p l e (xR lev) s m args below meth c H locs 0 0 0 0 (F0 m pc ls st0) st (xQ g rv a) (xAW g))
    (kk : X g (lev, nL, own, cc, ret) enc (pc + 3) lv (rv.1.toList ++ st) rv.2 o) (hr : o = some r) : W p l e (xR lev) s m args below meth c H locs 0 0 (MQ below (xQ g (enc r)) args s 0 0 (xAW g)) (F0 m pc ls st0) := by
  intro T hT XX
  obtain ⟨v, st₀, t, T', L, h0, X', hL, e1, e2, ⟨hv, hP, hz, hk⟩, stp⟩ := hR T hT XX
  cases hv
  rw [h0] at hz hk
  have hS := hH.1
  have hS' : va_S (xAW g) s.heap T'.heap (locs ++ L) := ⟨Nat.le_trans hS.1 (by rw [e1]; exact hz), fun q h1 h2 => by rw [e1, hk q (Nat.lt_of_lt_of_le h1 hS.1) h2]; exact hS.2.1 q h1 h2, fun q hq => by
      rcases List.mem_append.mp hq with h | h
      · exact hS.2.2 q h
      · exact hL q h⟩
  obtain ⟨t2, a1, b1⟩ := kk r hr p l e s m args below meth c T'.heap (locs ++ L) ls hB ⟨hS', by rw [e1]; exact hP, hH.2.2⟩ T' rfl X'
  exact ⟨t2, stp t2 a1, b1⟩
abbrev xD (y : MethodName) (n : Nat) : Prop := y.cls ≠ "java/lang/invoke/MethodHandle" ∧ y.cls ≠ "java/lang/invoke/VarHandle" ∧ (parseMethodDescriptor y.desc).map (fun d => d.parameters.length) = some n
theorem x_rooms (hlev : lev' < lev) (hnL : nL' ≤ 18) : (xR lev').frames + 1 ≤ (xR lev).frames ∧ 8 + (nL' + 11) + (xR lev').locals ≤ (xR lev).locals := by
  simp only [xR]
  omega
theorem x_wstat {s : State} {args : Array Value} {H : Heap} (hK : xKK g s H) (hcode : Cond.code y cc' nL' ret' ∈ xT) : ∀ w ∈ [Cond.code y cc' nL' ret'], ∀ (a' : Array Value) (U : State), s.WarmedH U.vm → w.before a' U = true := by
  intro w hw a' U hW
  rw [List.mem_singleton] at hw
  subst hw
  exact word_at hW (Or.inl rfl) (xT_use (args := args) hK hcode)
abbrev xLinkS (own : String) (index : Nat) (y : MethodName) : Prop := (Cond.methodLink own index y ∈ xT ∨ ∃ host, Cond.methodLinkNest own index y host ∈ xT) ∧ Cond.static y ∈ xT ∧ Cond.initialized y.cls ∈ xT
abbrev xLinkV (own : String) (index : Nat) (y : MethodName) : Prop := Cond.methodLink own index y ∈ xT ∧ Cond.instanceMethod y ∈ xT ∧ Cond.selects y.cls y y ∈ xT ∧ Cond.initialized y.cls ∈ xT
theorem x_callS {av : List Value} {stk : List Value} {rv : Option Value × IM} (hM : xMet g lev' y cc' nL' ret' av im rv) (hstk : stk = av.reverse ++ st) (hlev : lev' < lev) (hnL : nL' ≤ 18) (hl : xLinkS own index y) (hcode : Cond.code y cc' nL' ret' ∈ xT) (hd : xD y n) (hn : av.length = n) (hroom : (st.map fun v => v.category).sum ≤ 8) (d : decode cc pc = .ok (.invokestatic index, 3))
    (kk : X g (lev, nL, own, cc, ret) enc (pc + 3) lv (rv.1.toList ++ st) rv.2 o) : X g (lev, nL, own, cc, ret) enc pc lv stk im o := by
  intro r hr p l e s m args below meth c H locs ls hB hH
  subst hstk
  obtain ⟨hlink, hst, hini⟩ := hl
  have hK := hB.2.2.2.2.2.2
  have hlen : ∀ sig, parseMethodDescriptor y.desc = some sig → n = sig.parameters.length := fun sig h => by
    have h2 := hd.2.2
    rw [h] at h2
    exact (Option.some.inj h2).symm
  have hpre : PreS s H (va_Pc av (xPre g im)) av := ⟨x_blind, fun U hU hW => ⟨rfl, by rw [hU]; exact hK.warm hW hH.1.2.1, by rw [hU]; exact hH.2.1⟩⟩
  have hrm := x_rooms (nL' := nL') hlev hnL
  refine x_after (a := av.toArray) hB hH ?_ kk hr
  rcases hlink with hlink | ⟨host, hlink⟩
  · exact va_runS (Ts := []) ⟨hB.1, hB.2.1, hB.2.2.1, hB.2.2.2.2.2.1, fun _ h => absurd h List.not_mem_nil⟩ (hM l) ⟨⟨rfl, rfl, hrm.1, hrm.2, x_wstat (args := args) hK hcode, List.mem_singleton.mpr rfl, xT_use hK hcode, xT_use hK hini, ⟨hd.1, hd.2.1⟩, hlen, xT_use hK hlink⟩, xT_use hK hst⟩ hpre rfl hn hH.2.2.1 rfl (lv_room hroom) d ⟨Nat.le_refl _, Nat.le_refl _⟩
  · exact va_runSN (Ts := []) ⟨hB.1, hB.2.1, hB.2.2.1, hB.2.2.2.2.2.1, fun _ h => absurd h List.not_mem_nil⟩ (hM l) ⟨⟨⟨rfl, rfl, hrm.1, hrm.2, x_wstat (args := args) hK hcode, List.mem_singleton.mpr rfl⟩, xT_use hK hcode, xT_use hK hini, ⟨hd.1, hd.2.1⟩, hlen, xT_use hK hlink⟩, xT_use hK hst, trivial⟩ hpre rfl hn hH.2.2.1 rfl (lv_room hroom) d ⟨Nat.le_refl _, Nat.le_refl _⟩
theorem x_recv {a c n : Nat} {C : String} {T : u_T} {s : State} {H : Heap} (hK : va_K g.2.1 vwCl (xTys g) s) (hP : va_P g.2.1 vwCl (xWl g im) H) (hs : xSH a = (c, n)) (hc : c < 8) (hcl : vwCl[c]? = some (C, T, n)) : ∃ cell : Cell, H[g.1 a]? = some cell ∧ cell.vm.isStatics = false ∧ s.vm.findClass C = some cell.cls :=
  va_recv hK hP hcl ((xWl_at hs (by simp; omega)).trans (by rw [xEnt_o hc]))
theorem x_callV {a c nf : Nat} {T : u_T} {av : List Value} {stk : List Value} {rv : Option Value × IM} (hM : xMet g lev' y cc' nL' ret' (.ref (g.1 a) :: av) im rv) (hs : xSH a = (c, nf)) (hc : c < 8) (hcl : vwCl[c]? = some (y.cls, T, nf)) (hstk : stk = av.reverse ++ .ref (g.1 a) :: st) (hlev : lev' < lev) (hnL : nL' ≤ 18) (hl : xLinkV own index y) (hcode : Cond.code y cc' nL' ret' ∈ xT) (hd : xD y n) (hn : av.length = n) (hroom : (st.map fun v => v.category).sum ≤ 8) (d : decode cc pc = .ok (.invokevirtual index, 3))
    (kk : X g (lev, nL, own, cc, ret) enc (pc + 3) lv (rv.1.toList ++ st) rv.2 o) : X g (lev, nL, own, cc, ret) enc pc lv stk im o := by
  intro r hr p l e s m args below meth c H locs ls hB hH
  subst hstk
  obtain ⟨hlink, hin, hse, hini⟩ := hl
  have hK := hB.2.2.2.2.2.2
  have hlen : ∀ sig, parseMethodDescriptor y.desc = some sig → n = sig.parameters.length := fun sig h => by
    have h2 := hd.2.2
    rw [h] at h2
    exact (Option.some.inj h2).symm
  have hpre : PreV s H y.cls (g.1 a) (va_Pc (.ref (g.1 a) :: av) (xPre g im)) av := ⟨x_blind, x_recv hK.2.1 hH.2.1 hs hc hcl, fun U hU hW => ⟨rfl, by rw [hU]; exact hK.warm hW hH.1.2.1, by rw [hU]; exact hH.2.1⟩⟩
  have hrm := x_rooms (nL' := nL') hlev hnL
  refine x_after (a := (Value.ref (g.1 a) :: av).toArray) hB hH ?_ kk hr
  exact va_runV (Ts := []) ⟨hB.1, hB.2.1, hB.2.2.1, hB.2.2.2.2.2.1, fun _ h => absurd h List.not_mem_nil⟩ (hM l) ⟨⟨rfl, rfl, hrm.1, hrm.2, x_wstat (args := args) hK hcode, List.mem_singleton.mpr rfl, xT_use hK hcode, xT_use hK hini, ⟨hd.1, hd.2.1⟩, hlen, xT_use hK hlink⟩, xT_use hK hin, xT_use hK hse⟩ hpre rfl hn hH.2.2.1 rfl (lv_room hroom) d ⟨Nat.le_refl _, Nat.le_refl _⟩
theorem x_bind {ρ' : Type} {o' : Option ρ'} {k : ρ' → Option ρ} (h : ∀ r', o' = some r' → X g (lev, nL, own, cc, ret) enc pc lv st im (k r')) : X g (lev, nL, own, cc, ret) enc pc lv st im (o'.bind k) := by
  cases o' with
  | none => exact x_none
  | some r' => exact h r' rfl
end XC

section XN
variable {g : GX} {lev nL : Nat} {own : String} {cc : ByteArray} {ret : Option FieldType} {ρ : Type} {enc : ρ → Option Value × IM} {pc : Nat} {lv : List (Nat × Value)} {st : List Value} {im : IM} {o : Option ρ} {index : Nat}
abbrev xLinkM (own : String) (index : Nat) (y : MethodName) (cc : ByteArray) (n : Nat) : Prop := Cond.methodLink own index y ∈ xT ∧ Cond.static y ∈ xT ∧ Cond.initialized "java/lang/Math" ∈ xT ∧ Cond.code y cc n (some .int) ∈ xT
theorem x_lev (h : 0 < lev) (hroom : (st.map fun v => v.category).sum ≤ 8) : 1 ≤ (xR lev).frames ∧ (st.map fun v => v.category).sum + 18 ≤ (xR lev).locals := by
  simp only [xR]
  omega

theorem x_mmax {x y : Int32} (hl : xLinkM own index Lib.Math.max.name Lib.Math.max.code 2) (hlev : 0 < lev) (hroom : (st.map fun v => v.category).sum ≤ 8) (d : decode cc pc = .ok (.invokestatic index, 3)) (k : X g (lev, nL, own, cc, ret) enc (pc + 3) lv (.int (jmax x y) :: st) im o) : X g (lev, nL, own, cc, ret) enc pc lv (.int y :: .int x :: st) im o := by
  intro r hr p l e s m args below meth c H locs ls hB hH
  have hK := hB.2.2.2.2.2.2
  have hrm := x_lev hlev hroom
  exact va_mmax hB.1 hB.2.1 (hB.2.2.1.trans hH.2.2.1.symm) hB.2.2.2.2.2.1 (xT_use hK hl.1) (xT_use hK hl.2.1) (xT_use hK hl.2.2.1) (xT_use hK hl.2.2.2) hrm.1 (by have := hrm.2; show _ + 13 ≤ (xR lev).locals; omega) (Nat.le_refl _) (Nat.le_refl _) d (k r hr p l e s m args below meth c H locs ls hB hH)
theorem x_mmin {x y : Int32} (hl : xLinkM own index Lib.Math.min.name Lib.Math.min.code 2) (hlev : 0 < lev) (hroom : (st.map fun v => v.category).sum ≤ 8) (d : decode cc pc = .ok (.invokestatic index, 3)) (k : X g (lev, nL, own, cc, ret) enc (pc + 3) lv (.int (jmin x y) :: st) im o) : X g (lev, nL, own, cc, ret) enc pc lv (.int y :: .int x :: st) im o := by
  intro r hr p l e s m args below meth c H locs ls hB hH
  have hK := hB.2.2.2.2.2.2
  have hrm := x_lev hlev hroom
  exact va_mmin hB.1 hB.2.1 (hB.2.2.1.trans hH.2.2.1.symm) hB.2.2.2.2.2.1 (xT_use hK hl.1) (xT_use hK hl.2.1) (xT_use hK hl.2.2.1) (xT_use hK hl.2.2.2) hrm.1 (by have := hrm.2; show _ + 13 ≤ (xR lev).locals; omega) (Nat.le_refl _) (Nat.le_refl _) d (k r hr p l e s m args below meth c H locs ls hB hH)
theorem x_mabs {x : Int32} (hl : xLinkM own index Lib.Math.abs.name Lib.Math.abs.code 1) (hlev : 0 < lev) (hroom : (st.map fun v => v.category).sum ≤ 8) (d : decode cc pc = .ok (.invokestatic index, 3)) (k : X g (lev, nL, own, cc, ret) enc (pc + 3) lv (.int (jabs x) :: st) im o) : X g (lev, nL, own, cc, ret) enc pc lv (.int x :: st) im o := by
  intro r hr p l e s m args below meth c H locs ls hB hH
  have hK := hB.2.2.2.2.2.2
  have hrm := x_lev hlev hroom
  exact va_mabs hB.1 hB.2.1 (hB.2.2.1.trans hH.2.2.1.symm) hB.2.2.2.2.2.1 (xT_use hK hl.1) (xT_use hK hl.2.1) (xT_use hK hl.2.2.1) (xT_use hK hl.2.2.2) hrm.1 (by have := hrm.2; show _ + 13 ≤ (xR lev).locals; omega) (Nat.le_refl _) (Nat.le_refl _) d (k r hr p l e s m args below meth c H locs ls hB hH)
def cpk (sp dp n : Int32) (na nb : Nat) : Bool := !(decide (sp < 0)) && !(decide (dp < 0)) && !(decide (n < 0)) && decide (sp.toNatClampNeg + n.toNatClampNeg ≤ na) && decide (dp.toNatClampNeg + n.toNatClampNeg ≤ nb)
abbrev xLinkC (own : String) (index : Nat) : Prop := Cond.methodLink own index arraycopyName ∈ xT ∧ Cond.native arraycopyName ∈ xT ∧ Cond.static arraycopyName ∈ xT ∧ Cond.initialized "java/lang/System" ∈ xT
theorem x_copy {a b na nb : Nat} {sp dp n : Int32} (ha : xSH a = (8, na)) (hb : xSH b = (8, nb)) (hl : xLinkC own index) (hlev : 0 < lev) (hroom : (st.map fun v => v.category).sum ≤ 8) (d : decode cc pc = .ok (.invokestatic index, 3)) (k : X g (lev, nL, own, cc, ret) enc (pc + 3) lv st (upA im b (va_cpy (im a) (im b) (ix sp) (ix dp) (ix n))) o) : X g (lev, nL, own, cc, ret) enc pc lv (.int n :: .int dp :: .ref (g.1 b) :: .int sp :: .ref (g.1 a) :: st) im (if cpk sp dp n na nb = true then o else none) := by
  intro r hr p l e s m args below meth c H locs ls hB hH
  obtain ⟨hi, hr⟩ := x_grd hr
  simp only [cpk, Bool.and_eq_true, Bool.not_eq_true', decide_eq_false_iff_not, decide_eq_true_eq] at hi
  obtain ⟨⟨⟨⟨h1, h2⟩, h3⟩, h4⟩, h5⟩ := hi
  have hK := hB.2.2.2.2.2.2
  have hrm := x_lev hlev hroom
  refine va_copyi (f := im a) (g := im b) hB.1 hB.2.1 (hB.2.2.1.trans hH.2.2.1.symm) hB.2.2.2.2.2.1 (xT_use hK hl.1) (xT_use hK hl.2.1) (xT_use hK hl.2.2.1) (xT_use hK hl.2.2.2) hB.2.2.2.2.2.2.2.1 hH.2.1 (xWl_D im hB.2.2.2.2.2.2.2.2.1) hH.1 a b 0 0 (xWl_at ha (by simp)) (xWl_at hb (by simp)) rfl rfl rfl h1 h2 h3 h4 h5 (fun _ _ => rfl) hrm.1 hrm.2 d (fun H1 locs1 hP _ hS => ?_)
  have eW : (xWl g im).set b (g.1 b, .inl (g.2.2.1.1, nb, .inl (va_cpy (im a) (im b) (ix sp) (ix dp) (ix n)))) = xWl g (upA im b (va_cpy (im a) (im b) (ix sp) (ix dp) (ix n))) := by
    rw [← xWl_set (im := im) (im' := upA im b (va_cpy (im a) (im b) (ix sp) (ix dp) (ix n))) (xSH_lt hb (by simp)) (fun b hb => xEnt_upA_ne hb), hb]
    congr 2
    show _ = Sum.inl (g.2.2.1.1, nb, Sum.inl ((upA im b (va_cpy (im a) (im b) (ix sp) (ix dp) (ix n))) b))
    have e2 : (upA im b (va_cpy (im a) (im b) (ix sp) (ix dp) (ix n))) b = va_cpy (im a) (im b) (ix sp) (ix dp) (ix n) := by funext j; simp [upA]
    rw [e2]
  rw [eW] at hP
  exact k r hr p l e s m args below meth c H1 locs1 ls hB ⟨hS, hP, hH.2.2⟩
/-! the two static rows -/
theorem x_getPD {host : String} (hl : Cond.fieldLinkNest own index "RollTown" "PLAIN_DRAG" "[I" host ∈ xT) (d : decode cc pc = .ok (.getstatic index, 3)) (k : X g (lev, nL, own, cc, ret) enc (pc + 3) lv (.ref g.2.2.2.2.1.1 :: st) im o) : X g (lev, nL, own, cc, ret) enc pc lv st im o := by
  intro r hr p l e s m args below meth c H locs ls hB hH
  have hK := hB.2.2.2.2.2.2
  exact va_getsN hB.1 hB.2.1 hK.2.2.2.1 hH.1 hB.2.2.2.2.2.1 (xT_use hK hl) (fun _ h => h) d (k r hr p l e s m args below meth c H locs ls hB hH)
theorem x_getKA {host : String} (hl : Cond.fieldLinkNest own index "RollTown" "KIND_ABOVE" "[I" host ∈ xT) (d : decode cc pc = .ok (.getstatic index, 3)) (k : X g (lev, nL, own, cc, ret) enc (pc + 3) lv (.ref g.2.2.2.2.1.2 :: st) im o) : X g (lev, nL, own, cc, ret) enc pc lv st im o := by
  intro r hr p l e s m args below meth c H locs ls hB hH
  have hK := hB.2.2.2.2.2.2
  exact va_getsN hB.1 hB.2.1 hK.2.2.2.2.2.1 hH.1 hB.2.2.2.2.2.1 (xT_use hK hl) (fun _ h => h) d (k r hr p l e s m args below meth c H locs ls hB hH)
theorem x_aldPD {i : Int32} (d : decode cc pc = .ok (.iaload, 1)) (k : X g (lev, nL, own, cc, ret) enc (pc + 1) lv (.int (xPD (ix i)) :: st) im o) : X g (lev, nL, own, cc, ret) enc pc lv (.int i :: .ref g.2.2.2.2.1.1 :: st) im (if inb i 5 = true then o else none) := by
  intro r hr p l e s m args below meth c H locs ls hB hH
  obtain ⟨hi, hr⟩ := x_grd hr
  exact va_ti hB.1 hB.2.1 hB.2.2.2.2.2.2.2.2.2.2.1 hH.1 (inb_in hi) rfl d (k r hr p l e s m args below meth c H locs ls hB hH)
theorem x_aldKA {i : Int32} (d : decode cc pc = .ok (.iaload, 1)) (k : X g (lev, nL, own, cc, ret) enc (pc + 1) lv (.int (xKA (ix i)) :: st) im o) : X g (lev, nL, own, cc, ret) enc pc lv (.int i :: .ref g.2.2.2.2.1.2 :: st) im (if inb i 7 = true then o else none) := by
  intro r hr p l e s m args below meth c H locs ls hB hH
  obtain ⟨hi, hr⟩ := x_grd hr
  exact va_ti hB.1 hB.2.1 hB.2.2.2.2.2.2.2.2.2.2.2.2.1 hH.1 (inb_in hi) rfl d (k r hr p l e s m args below meth c H locs ls hB hH)
/-! calls by the kind of answer -/
variable {lev' nL' : Nat} {y : MethodName} {cc' : ByteArray} {ret' : Option FieldType} {n : Nat} {av stk : List Value}
theorem x_callSR {r : Int32} (hM : xMet g lev' y cc' nL' ret' av im (eR im r)) (hstk : stk = av.reverse ++ st) (hlev : lev' < lev) (hnL : nL' ≤ 18) (hl : xLinkS own index y) (hcode : Cond.code y cc' nL' ret' ∈ xT) (hd : xD y n) (hn : av.length = n) (hroom : (st.map fun v => v.category).sum ≤ 8) (d : decode cc pc = .ok (.invokestatic index, 3))
    (kk : X g (lev, nL, own, cc, ret) enc (pc + 3) lv (.int r :: st) im o) : X g (lev, nL, own, cc, ret) enc pc lv stk im o := x_callS hM hstk hlev hnL hl hcode hd hn hroom d kk
theorem x_callVR {a ci nf : Nat} {T : u_T} {r : Int32} (hM : xMet g lev' y cc' nL' ret' (.ref (g.1 a) :: av) im (eR im r)) (hs : xSH a = (ci, nf)) (hc : ci < 8) (hcl : vwCl[ci]? = some (y.cls, T, nf)) (hstk : stk = av.reverse ++ .ref (g.1 a) :: st) (hlev : lev' < lev) (hnL : nL' ≤ 18) (hl : xLinkV own index y) (hcode : Cond.code y cc' nL' ret' ∈ xT) (hd : xD y n) (hn : av.length = n) (hroom : (st.map fun v => v.category).sum ≤ 8) (d : decode cc pc = .ok (.invokevirtual index, 3))
    (kk : X g (lev, nL, own, cc, ret) enc (pc + 3) lv (.int r :: st) im o) : X g (lev, nL, own, cc, ret) enc pc lv stk im o := x_callV hM hs hc hcl hstk hlev hnL hl hcode hd hn hroom d kk
theorem x_callSI {r : Int32 × IM} (hM : xMet g lev' y cc' nL' ret' av im (eI r)) (hstk : stk = av.reverse ++ st) (hlev : lev' < lev) (hnL : nL' ≤ 18) (hl : xLinkS own index y) (hcode : Cond.code y cc' nL' ret' ∈ xT) (hd : xD y n) (hn : av.length = n) (hroom : (st.map fun v => v.category).sum ≤ 8) (d : decode cc pc = .ok (.invokestatic index, 3))
    (kk : X g (lev, nL, own, cc, ret) enc (pc + 3) lv (.int r.1 :: st) r.2 o) : X g (lev, nL, own, cc, ret) enc pc lv stk im o := x_callS hM hstk hlev hnL hl hcode hd hn hroom d kk
theorem x_callVI {a ci nf : Nat} {T : u_T} {r : Int32 × IM} (hM : xMet g lev' y cc' nL' ret' (.ref (g.1 a) :: av) im (eI r)) (hs : xSH a = (ci, nf)) (hc : ci < 8) (hcl : vwCl[ci]? = some (y.cls, T, nf)) (hstk : stk = av.reverse ++ .ref (g.1 a) :: st) (hlev : lev' < lev) (hnL : nL' ≤ 18) (hl : xLinkV own index y) (hcode : Cond.code y cc' nL' ret' ∈ xT) (hd : xD y n) (hn : av.length = n) (hroom : (st.map fun v => v.category).sum ≤ 8) (d : decode cc pc = .ok (.invokevirtual index, 3))
    (kk : X g (lev, nL, own, cc, ret) enc (pc + 3) lv (.int r.1 :: st) r.2 o) : X g (lev, nL, own, cc, ret) enc pc lv stk im o := x_callV hM hs hc hcl hstk hlev hnL hl hcode hd hn hroom d kk
theorem x_callSL {r : Int64} (hM : xMet g lev' y cc' nL' ret' av im (eL im r)) (hstk : stk = av.reverse ++ st) (hlev : lev' < lev) (hnL : nL' ≤ 18) (hl : xLinkS own index y) (hcode : Cond.code y cc' nL' ret' ∈ xT) (hd : xD y n) (hn : av.length = n) (hroom : (st.map fun v => v.category).sum ≤ 8) (d : decode cc pc = .ok (.invokestatic index, 3))
    (kk : X g (lev, nL, own, cc, ret) enc (pc + 3) lv (.long r :: st) im o) : X g (lev, nL, own, cc, ret) enc pc lv stk im o := x_callS hM hstk hlev hnL hl hcode hd hn hroom d kk
theorem x_callVL {a ci nf : Nat} {T : u_T} {r : Int64} (hM : xMet g lev' y cc' nL' ret' (.ref (g.1 a) :: av) im (eL im r)) (hs : xSH a = (ci, nf)) (hc : ci < 8) (hcl : vwCl[ci]? = some (y.cls, T, nf)) (hstk : stk = av.reverse ++ .ref (g.1 a) :: st) (hlev : lev' < lev) (hnL : nL' ≤ 18) (hl : xLinkV own index y) (hcode : Cond.code y cc' nL' ret' ∈ xT) (hd : xD y n) (hn : av.length = n) (hroom : (st.map fun v => v.category).sum ≤ 8) (d : decode cc pc = .ok (.invokevirtual index, 3))
    (kk : X g (lev, nL, own, cc, ret) enc (pc + 3) lv (.long r :: st) im o) : X g (lev, nL, own, cc, ret) enc pc lv stk im o := x_callV hM hs hc hcl hstk hlev hnL hl hcode hd hn hroom d kk
theorem x_callSV {r : IM} (hM : xMet g lev' y cc' nL' ret' av im (eV r)) (hstk : stk = av.reverse ++ st) (hlev : lev' < lev) (hnL : nL' ≤ 18) (hl : xLinkS own index y) (hcode : Cond.code y cc' nL' ret' ∈ xT) (hd : xD y n) (hn : av.length = n) (hroom : (st.map fun v => v.category).sum ≤ 8) (d : decode cc pc = .ok (.invokestatic index, 3))
    (kk : X g (lev, nL, own, cc, ret) enc (pc + 3) lv (st) r o) : X g (lev, nL, own, cc, ret) enc pc lv stk im o := x_callS hM hstk hlev hnL hl hcode hd hn hroom d kk
theorem x_callVV {a ci nf : Nat} {T : u_T} {r : IM} (hM : xMet g lev' y cc' nL' ret' (.ref (g.1 a) :: av) im (eV r)) (hs : xSH a = (ci, nf)) (hc : ci < 8) (hcl : vwCl[ci]? = some (y.cls, T, nf)) (hstk : stk = av.reverse ++ .ref (g.1 a) :: st) (hlev : lev' < lev) (hnL : nL' ≤ 18) (hl : xLinkV own index y) (hcode : Cond.code y cc' nL' ret' ∈ xT) (hd : xD y n) (hn : av.length = n) (hroom : (st.map fun v => v.category).sum ≤ 8) (d : decode cc pc = .ok (.invokevirtual index, 3))
    (kk : X g (lev, nL, own, cc, ret) enc (pc + 3) lv (st) r o) : X g (lev, nL, own, cc, ret) enc pc lv stk im o := x_callV hM hs hc hcl hstk hlev hnL hl hcode hd hn hroom d kk
theorem x_callSN {r : Unit} (hM : xMet g lev' y cc' nL' ret' av im (eN im r)) (hstk : stk = av.reverse ++ st) (hlev : lev' < lev) (hnL : nL' ≤ 18) (hl : xLinkS own index y) (hcode : Cond.code y cc' nL' ret' ∈ xT) (hd : xD y n) (hn : av.length = n) (hroom : (st.map fun v => v.category).sum ≤ 8) (d : decode cc pc = .ok (.invokestatic index, 3))
    (kk : X g (lev, nL, own, cc, ret) enc (pc + 3) lv (st) im o) : X g (lev, nL, own, cc, ret) enc pc lv stk im o := x_callS hM hstk hlev hnL hl hcode hd hn hroom d kk
theorem x_callVN {a ci nf : Nat} {T : u_T} {r : Unit} (hM : xMet g lev' y cc' nL' ret' (.ref (g.1 a) :: av) im (eN im r)) (hs : xSH a = (ci, nf)) (hc : ci < 8) (hcl : vwCl[ci]? = some (y.cls, T, nf)) (hstk : stk = av.reverse ++ .ref (g.1 a) :: st) (hlev : lev' < lev) (hnL : nL' ≤ 18) (hl : xLinkV own index y) (hcode : Cond.code y cc' nL' ret' ∈ xT) (hd : xD y n) (hn : av.length = n) (hroom : (st.map fun v => v.category).sum ≤ 8) (d : decode cc pc = .ok (.invokevirtual index, 3))
    (kk : X g (lev, nL, own, cc, ret) enc (pc + 3) lv (st) im o) : X g (lev, nL, own, cc, ret) enc pc lv stk im o := x_callV hM hs hc hcl hstk hlev hnL hl hcode hd hn hroom d kk
theorem x_callSA {r : Nat} (hM : xMet g lev' y cc' nL' ret' av im (eA g im r)) (hstk : stk = av.reverse ++ st) (hlev : lev' < lev) (hnL : nL' ≤ 18) (hl : xLinkS own index y) (hcode : Cond.code y cc' nL' ret' ∈ xT) (hd : xD y n) (hn : av.length = n) (hroom : (st.map fun v => v.category).sum ≤ 8) (d : decode cc pc = .ok (.invokestatic index, 3))
    (kk : X g (lev, nL, own, cc, ret) enc (pc + 3) lv (.ref (g.2.2.2.1.1 r) :: st) im o) : X g (lev, nL, own, cc, ret) enc pc lv stk im o := x_callS hM hstk hlev hnL hl hcode hd hn hroom d kk
theorem x_callVA {a ci nf : Nat} {T : u_T} {r : Nat} (hM : xMet g lev' y cc' nL' ret' (.ref (g.1 a) :: av) im (eA g im r)) (hs : xSH a = (ci, nf)) (hc : ci < 8) (hcl : vwCl[ci]? = some (y.cls, T, nf)) (hstk : stk = av.reverse ++ .ref (g.1 a) :: st) (hlev : lev' < lev) (hnL : nL' ≤ 18) (hl : xLinkV own index y) (hcode : Cond.code y cc' nL' ret' ∈ xT) (hd : xD y n) (hn : av.length = n) (hroom : (st.map fun v => v.category).sum ≤ 8) (d : decode cc pc = .ok (.invokevirtual index, 3))
    (kk : X g (lev, nL, own, cc, ret) enc (pc + 3) lv (.ref (g.2.2.2.1.1 r) :: st) im o) : X g (lev, nL, own, cc, ret) enc pc lv stk im o := x_callV hM hs hc hcl hstk hlev hnL hl hcode hd hn hroom d kk
end XN
end
