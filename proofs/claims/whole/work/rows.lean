section
-- ===== PART A: goes FIRST, ahead of the names: the tables' words, and 'selects' of the private methods out of them =====
/-- a private method of a class that the tables say can be made, by its rows of tables_1 -/
def lw_okq (q : MethodName × Nat) : Prop := (q.1.cls ≠ "java/lang/invoke/MethodHandle" ∧ q.1.cls ≠ "java/lang/invoke/VarHandle") ∧ Cond.instantiable q.1.cls q.2 ∈ tables_1 ∧ Cond.privateMethod q.1 ∈ tables_1 ∧ Cond.instanceMethod q.1 ∈ tables_1
theorem lw_p0 : lw_okq (⟨"OrchardWall", "found", "(I)I"⟩, 14) := ⟨⟨by decide +kernel, by decide +kernel⟩, List.mem_of_getElem? (i := 20) (by decide +kernel), List.mem_of_getElem? (i := 338) (by decide +kernel), List.mem_of_getElem? (i := 339) (by decide +kernel)⟩
theorem lw_p1 : lw_okq (⟨"OrchardWall", "well", "(I)I"⟩, 14) := ⟨⟨by decide +kernel, by decide +kernel⟩, List.mem_of_getElem? (i := 20) (by decide +kernel), List.mem_of_getElem? (i := 347) (by decide +kernel), List.mem_of_getElem? (i := 348) (by decide +kernel)⟩
theorem lw_p2 : lw_okq (⟨"OrchardWall$Reader", "advance", "()V"⟩, 7) := ⟨⟨by decide +kernel, by decide +kernel⟩, List.mem_of_getElem? (i := 50) (by decide +kernel), List.mem_of_getElem? (i := 413) (by decide +kernel), List.mem_of_getElem? (i := 414) (by decide +kernel)⟩
theorem lw_p3 : lw_okq (⟨"OrchardWall$Reader", "advanceOverFigures", "()V"⟩, 7) := ⟨⟨by decide +kernel, by decide +kernel⟩, List.mem_of_getElem? (i := 50) (by decide +kernel), List.mem_of_getElem? (i := 420) (by decide +kernel), List.mem_of_getElem? (i := 421) (by decide +kernel)⟩
theorem lw_p4 : lw_okq (⟨"OrchardWall$Reader", "readLaw", "(LOrchardWall$Orchard;)Z"⟩, 7) := ⟨⟨by decide +kernel, by decide +kernel⟩, List.mem_of_getElem? (i := 50) (by decide +kernel), List.mem_of_getElem? (i := 429) (by decide +kernel), List.mem_of_getElem? (i := 430) (by decide +kernel)⟩
theorem lw_p5 : lw_okq (⟨"OrchardWall$Reader", "take", "(I)Z"⟩, 7) := ⟨⟨by decide +kernel, by decide +kernel⟩, List.mem_of_getElem? (i := 50) (by decide +kernel), List.mem_of_getElem? (i := 433) (by decide +kernel), List.mem_of_getElem? (i := 434) (by decide +kernel)⟩
theorem lw_p6 : lw_okq (⟨"OrchardWall$Reader", "fail", "(I)Z"⟩, 7) := ⟨⟨by decide +kernel, by decide +kernel⟩, List.mem_of_getElem? (i := 50) (by decide +kernel), List.mem_of_getElem? (i := 437) (by decide +kernel), List.mem_of_getElem? (i := 438) (by decide +kernel)⟩
theorem lw_p7 : lw_okq (⟨"OrchardWall$Reader", "takeField", "(IIII)I"⟩, 7) := ⟨⟨by decide +kernel, by decide +kernel⟩, List.mem_of_getElem? (i := 50) (by decide +kernel), List.mem_of_getElem? (i := 441) (by decide +kernel), List.mem_of_getElem? (i := 442) (by decide +kernel)⟩
theorem lw_p8 : lw_okq (⟨"OrchardWall$Reader", "readHens", "(LOrchardWall$Orchard;)Z"⟩, 7) := ⟨⟨by decide +kernel, by decide +kernel⟩, List.mem_of_getElem? (i := 50) (by decide +kernel), List.mem_of_getElem? (i := 445) (by decide +kernel), List.mem_of_getElem? (i := 446) (by decide +kernel)⟩
theorem lw_p9 : lw_okq (⟨"OrchardWall$Reader", "readTrees", "(LOrchardWall$Orchard;)Z"⟩, 7) := ⟨⟨by decide +kernel, by decide +kernel⟩, List.mem_of_getElem? (i := 50) (by decide +kernel), List.mem_of_getElem? (i := 459) (by decide +kernel), List.mem_of_getElem? (i := 460) (by decide +kernel)⟩
theorem lw_p10 : lw_okq (⟨"OrchardWall$Reader", "readRaiders", "(LOrchardWall$Orchard;)Z"⟩, 7) := ⟨⟨by decide +kernel, by decide +kernel⟩, List.mem_of_getElem? (i := 50) (by decide +kernel), List.mem_of_getElem? (i := 463) (by decide +kernel), List.mem_of_getElem? (i := 464) (by decide +kernel)⟩
theorem lw_p11 : lw_okq (⟨"OrchardWall$Reader", "isAtEnd", "()Z"⟩, 7) := ⟨⟨by decide +kernel, by decide +kernel⟩, List.mem_of_getElem? (i := 50) (by decide +kernel), List.mem_of_getElem? (i := 554) (by decide +kernel), List.mem_of_getElem? (i := 555) (by decide +kernel)⟩
theorem lw_p12 : lw_okq (⟨"OrchardWall", "isPlan", "(III)Z"⟩, 14) := ⟨⟨by decide +kernel, by decide +kernel⟩, List.mem_of_getElem? (i := 20) (by decide +kernel), List.mem_of_getElem? (i := 591) (by decide +kernel), List.mem_of_getElem? (i := 592) (by decide +kernel)⟩
theorem lw_p13 : lw_okq (⟨"OrchardWall", "raidOf", "(I)V"⟩, 14) := ⟨⟨by decide +kernel, by decide +kernel⟩, List.mem_of_getElem? (i := 20) (by decide +kernel), List.mem_of_getElem? (i := 624) (by decide +kernel), List.mem_of_getElem? (i := 625) (by decide +kernel)⟩
theorem lw_p14 : lw_okq (⟨"OrchardWall$Raid", "move", "(I)V"⟩, 17) := ⟨⟨by decide +kernel, by decide +kernel⟩, List.mem_of_getElem? (i := 183) (by decide +kernel), List.mem_of_getElem? (i := 639) (by decide +kernel), List.mem_of_getElem? (i := 640) (by decide +kernel)⟩
theorem lw_p15 : lw_okq (⟨"OrchardWall$Raid", "isIn", "(I)Z"⟩, 17) := ⟨⟨by decide +kernel, by decide +kernel⟩, List.mem_of_getElem? (i := 183) (by decide +kernel), List.mem_of_getElem? (i := 643) (by decide +kernel), List.mem_of_getElem? (i := 644) (by decide +kernel)⟩
def lw_privs_1 : List (MethodName × Nat) := [(⟨"OrchardWall", "found", "(I)I"⟩, 14), (⟨"OrchardWall", "well", "(I)I"⟩, 14), (⟨"OrchardWall$Reader", "advance", "()V"⟩, 7), (⟨"OrchardWall$Reader", "advanceOverFigures", "()V"⟩, 7), (⟨"OrchardWall$Reader", "readLaw", "(LOrchardWall$Orchard;)Z"⟩, 7), (⟨"OrchardWall$Reader", "take", "(I)Z"⟩, 7), (⟨"OrchardWall$Reader", "fail", "(I)Z"⟩, 7), (⟨"OrchardWall$Reader", "takeField", "(IIII)I"⟩, 7), (⟨"OrchardWall$Reader", "readHens", "(LOrchardWall$Orchard;)Z"⟩, 7), (⟨"OrchardWall$Reader", "readTrees", "(LOrchardWall$Orchard;)Z"⟩, 7), (⟨"OrchardWall$Reader", "readRaiders", "(LOrchardWall$Orchard;)Z"⟩, 7), (⟨"OrchardWall$Reader", "isAtEnd", "()Z"⟩, 7), (⟨"OrchardWall", "isPlan", "(III)Z"⟩, 14), (⟨"OrchardWall", "raidOf", "(I)V"⟩, 14), (⟨"OrchardWall$Raid", "move", "(I)V"⟩, 17), (⟨"OrchardWall$Raid", "isIn", "(I)Z"⟩, 17)]
theorem lw_r1 : ∀ q ∈ lw_privs_1, lw_okq q := List.forall_mem_cons.mpr ⟨lw_p0, List.forall_mem_cons.mpr ⟨lw_p1, List.forall_mem_cons.mpr ⟨lw_p2, List.forall_mem_cons.mpr ⟨lw_p3, List.forall_mem_cons.mpr ⟨lw_p4, List.forall_mem_cons.mpr ⟨lw_p5, List.forall_mem_cons.mpr ⟨lw_p6, List.forall_mem_cons.mpr ⟨lw_p7, List.forall_mem_cons.mpr ⟨lw_p8, List.forall_mem_cons.mpr ⟨lw_p9, List.forall_mem_cons.mpr ⟨lw_p10, List.forall_mem_cons.mpr ⟨lw_p11, List.forall_mem_cons.mpr ⟨lw_p12, List.forall_mem_cons.mpr ⟨lw_p13, List.forall_mem_cons.mpr ⟨lw_p14, List.forall_mem_cons.mpr ⟨lw_p15, fun _ h => absurd h List.not_mem_nil⟩⟩⟩⟩⟩⟩⟩⟩⟩⟩⟩⟩⟩⟩⟩⟩
theorem lw_p16 : lw_okq (⟨"OrchardWall$Raid", "pick", "(I)V"⟩, 17) := ⟨⟨by decide +kernel, by decide +kernel⟩, List.mem_of_getElem? (i := 183) (by decide +kernel), List.mem_of_getElem? (i := 647) (by decide +kernel), List.mem_of_getElem? (i := 648) (by decide +kernel)⟩
theorem lw_p17 : lw_okq (⟨"OrchardWall$Raid", "pace", "(I)I"⟩, 17) := ⟨⟨by decide +kernel, by decide +kernel⟩, List.mem_of_getElem? (i := 183) (by decide +kernel), List.mem_of_getElem? (i := 651) (by decide +kernel), List.mem_of_getElem? (i := 652) (by decide +kernel)⟩
theorem lw_p18 : lw_okq (⟨"OrchardWall$Raid", "step", "(I)V"⟩, 17) := ⟨⟨by decide +kernel, by decide +kernel⟩, List.mem_of_getElem? (i := 183) (by decide +kernel), List.mem_of_getElem? (i := 655) (by decide +kernel), List.mem_of_getElem? (i := 656) (by decide +kernel)⟩
theorem lw_p19 : lw_okq (⟨"OrchardWall$Raid", "leave", "(I)V"⟩, 17) := ⟨⟨by decide +kernel, by decide +kernel⟩, List.mem_of_getElem? (i := 183) (by decide +kernel), List.mem_of_getElem? (i := 667) (by decide +kernel), List.mem_of_getElem? (i := 668) (by decide +kernel)⟩
theorem lw_p20 : lw_okq (⟨"OrchardWall$Raid", "endSecond", "()V"⟩, 17) := ⟨⟨by decide +kernel, by decide +kernel⟩, List.mem_of_getElem? (i := 183) (by decide +kernel), List.mem_of_getElem? (i := 671) (by decide +kernel), List.mem_of_getElem? (i := 672) (by decide +kernel)⟩
theorem lw_p21 : lw_okq (⟨"OrchardWall$Raid", "callBack", "()V"⟩, 17) := ⟨⟨by decide +kernel, by decide +kernel⟩, List.mem_of_getElem? (i := 183) (by decide +kernel), List.mem_of_getElem? (i := 675) (by decide +kernel), List.mem_of_getElem? (i := 676) (by decide +kernel)⟩
theorem lw_p22 : lw_okq (⟨"OrchardWall$Raid", "catchAll", "()V"⟩, 17) := ⟨⟨by decide +kernel, by decide +kernel⟩, List.mem_of_getElem? (i := 183) (by decide +kernel), List.mem_of_getElem? (i := 679) (by decide +kernel), List.mem_of_getElem? (i := 680) (by decide +kernel)⟩
theorem lw_p23 : lw_okq (⟨"OrchardWall", "raidAlone", "(IIII)V"⟩, 14) := ⟨⟨by decide +kernel, by decide +kernel⟩, List.mem_of_getElem? (i := 20) (by decide +kernel), List.mem_of_getElem? (i := 762) (by decide +kernel), List.mem_of_getElem? (i := 763) (by decide +kernel)⟩
theorem lw_p24 : lw_okq (⟨"OrchardWall", "compareAlone", "(IIII)Z"⟩, 14) := ⟨⟨by decide +kernel, by decide +kernel⟩, List.mem_of_getElem? (i := 20) (by decide +kernel), List.mem_of_getElem? (i := 775) (by decide +kernel), List.mem_of_getElem? (i := 776) (by decide +kernel)⟩
theorem lw_p25 : lw_okq (⟨"OrchardWall", "refusalOfDays", "(III)I"⟩, 14) := ⟨⟨by decide +kernel, by decide +kernel⟩, List.mem_of_getElem? (i := 20) (by decide +kernel), List.mem_of_getElem? (i := 787) (by decide +kernel), List.mem_of_getElem? (i := 788) (by decide +kernel)⟩
theorem lw_p26 : lw_okq (⟨"OrchardWall$Days", "product", "(I)J"⟩, 4) := ⟨⟨by decide +kernel, by decide +kernel⟩, List.mem_of_getElem? (i := 264) (by decide +kernel), List.mem_of_getElem? (i := 799) (by decide +kernel), List.mem_of_getElem? (i := 800) (by decide +kernel)⟩
theorem lw_p27 : lw_okq (⟨"OrchardWall$Days", "sumOfParts", "(IJ)J"⟩, 4) := ⟨⟨by decide +kernel, by decide +kernel⟩, List.mem_of_getElem? (i := 264) (by decide +kernel), List.mem_of_getElem? (i := 803) (by decide +kernel), List.mem_of_getElem? (i := 804) (by decide +kernel)⟩
theorem lw_p28 : lw_okq (⟨"OrchardWall$Days", "part", "(JI)J"⟩, 4) := ⟨⟨by decide +kernel, by decide +kernel⟩, List.mem_of_getElem? (i := 264) (by decide +kernel), List.mem_of_getElem? (i := 807) (by decide +kernel), List.mem_of_getElem? (i := 808) (by decide +kernel)⟩
theorem lw_p29 : lw_okq (⟨"OrchardWall", "refusalOfTold", "(IIIZ)I"⟩, 14) := ⟨⟨by decide +kernel, by decide +kernel⟩, List.mem_of_getElem? (i := 20) (by decide +kernel), List.mem_of_getElem? (i := 836) (by decide +kernel), List.mem_of_getElem? (i := 837) (by decide +kernel)⟩
theorem lw_p30 : lw_okq (⟨"OrchardWall", "isMissingJustSo", "(II)Z"⟩, 14) := ⟨⟨by decide +kernel, by decide +kernel⟩, List.mem_of_getElem? (i := 20) (by decide +kernel), List.mem_of_getElem? (i := 856) (by decide +kernel), List.mem_of_getElem? (i := 857) (by decide +kernel)⟩
theorem lw_p31 : lw_okq (⟨"OrchardWall", "imageAt", "(I)LOrchardWall$Orchard;"⟩, 14) := ⟨⟨by decide +kernel, by decide +kernel⟩, List.mem_of_getElem? (i := 20) (by decide +kernel), List.mem_of_getElem? (i := 888) (by decide +kernel), List.mem_of_getElem? (i := 889) (by decide +kernel)⟩
def lw_privs_2 : List (MethodName × Nat) := [(⟨"OrchardWall$Raid", "pick", "(I)V"⟩, 17), (⟨"OrchardWall$Raid", "pace", "(I)I"⟩, 17), (⟨"OrchardWall$Raid", "step", "(I)V"⟩, 17), (⟨"OrchardWall$Raid", "leave", "(I)V"⟩, 17), (⟨"OrchardWall$Raid", "endSecond", "()V"⟩, 17), (⟨"OrchardWall$Raid", "callBack", "()V"⟩, 17), (⟨"OrchardWall$Raid", "catchAll", "()V"⟩, 17), (⟨"OrchardWall", "raidAlone", "(IIII)V"⟩, 14), (⟨"OrchardWall", "compareAlone", "(IIII)Z"⟩, 14), (⟨"OrchardWall", "refusalOfDays", "(III)I"⟩, 14), (⟨"OrchardWall$Days", "product", "(I)J"⟩, 4), (⟨"OrchardWall$Days", "sumOfParts", "(IJ)J"⟩, 4), (⟨"OrchardWall$Days", "part", "(JI)J"⟩, 4), (⟨"OrchardWall", "refusalOfTold", "(IIIZ)I"⟩, 14), (⟨"OrchardWall", "isMissingJustSo", "(II)Z"⟩, 14), (⟨"OrchardWall", "imageAt", "(I)LOrchardWall$Orchard;"⟩, 14)]
theorem lw_r2 : ∀ q ∈ lw_privs_2, lw_okq q := List.forall_mem_cons.mpr ⟨lw_p16, List.forall_mem_cons.mpr ⟨lw_p17, List.forall_mem_cons.mpr ⟨lw_p18, List.forall_mem_cons.mpr ⟨lw_p19, List.forall_mem_cons.mpr ⟨lw_p20, List.forall_mem_cons.mpr ⟨lw_p21, List.forall_mem_cons.mpr ⟨lw_p22, List.forall_mem_cons.mpr ⟨lw_p23, List.forall_mem_cons.mpr ⟨lw_p24, List.forall_mem_cons.mpr ⟨lw_p25, List.forall_mem_cons.mpr ⟨lw_p26, List.forall_mem_cons.mpr ⟨lw_p27, List.forall_mem_cons.mpr ⟨lw_p28, List.forall_mem_cons.mpr ⟨lw_p29, List.forall_mem_cons.mpr ⟨lw_p30, List.forall_mem_cons.mpr ⟨lw_p31, fun _ h => absurd h List.not_mem_nil⟩⟩⟩⟩⟩⟩⟩⟩⟩⟩⟩⟩⟩⟩⟩⟩
theorem lw_p32 : lw_okq (⟨"OrchardWall", "firstBody", "(II)I"⟩, 14) := ⟨⟨by decide +kernel, by decide +kernel⟩, List.mem_of_getElem? (i := 20) (by decide +kernel), List.mem_of_getElem? (i := 913) (by decide +kernel), List.mem_of_getElem? (i := 914) (by decide +kernel)⟩
theorem lw_p33 : lw_okq (⟨"OrchardWall", "body", "(III)I"⟩, 14) := ⟨⟨by decide +kernel, by decide +kernel⟩, List.mem_of_getElem? (i := 20) (by decide +kernel), List.mem_of_getElem? (i := 921) (by decide +kernel), List.mem_of_getElem? (i := 922) (by decide +kernel)⟩
theorem lw_p34 : lw_okq (⟨"OrchardWallModel", "finding", "(I)I"⟩, 41) := ⟨⟨by decide +kernel, by decide +kernel⟩, List.mem_of_getElem? (i := 941) (by decide +kernel), List.mem_of_getElem? (i := 1086) (by decide +kernel), List.mem_of_getElem? (i := 1087) (by decide +kernel)⟩
theorem lw_p35 : lw_okq (⟨"OrchardWallModel", "beginText", "()V"⟩, 41) := ⟨⟨by decide +kernel, by decide +kernel⟩, List.mem_of_getElem? (i := 941) (by decide +kernel), List.mem_of_getElem? (i := 1117) (by decide +kernel), List.mem_of_getElem? (i := 1118) (by decide +kernel)⟩
theorem lw_p36 : lw_okq (⟨"OrchardWallModel", "nextToken", "()V"⟩, 41) := ⟨⟨by decide +kernel, by decide +kernel⟩, List.mem_of_getElem? (i := 941) (by decide +kernel), List.mem_of_getElem? (i := 1121) (by decide +kernel), List.mem_of_getElem? (i := 1122) (by decide +kernel)⟩
theorem lw_p37 : lw_okq (⟨"OrchardWallModel", "isLetter", "(I)Z"⟩, 41) := ⟨⟨by decide +kernel, by decide +kernel⟩, List.mem_of_getElem? (i := 941) (by decide +kernel), List.mem_of_getElem? (i := 1129) (by decide +kernel), List.mem_of_getElem? (i := 1130) (by decide +kernel)⟩
theorem lw_p38 : lw_okq (⟨"OrchardWallModel", "must", "(Z)V"⟩, 41) := ⟨⟨by decide +kernel, by decide +kernel⟩, List.mem_of_getElem? (i := 941) (by decide +kernel), List.mem_of_getElem? (i := 1133) (by decide +kernel), List.mem_of_getElem? (i := 1134) (by decide +kernel)⟩
theorem lw_p39 : lw_okq (⟨"OrchardWallModel", "bad", "(I)V"⟩, 41) := ⟨⟨by decide +kernel, by decide +kernel⟩, List.mem_of_getElem? (i := 941) (by decide +kernel), List.mem_of_getElem? (i := 1137) (by decide +kernel), List.mem_of_getElem? (i := 1138) (by decide +kernel)⟩
theorem lw_p40 : lw_okq (⟨"OrchardWallModel", "number", "(II)I"⟩, 41) := ⟨⟨by decide +kernel, by decide +kernel⟩, List.mem_of_getElem? (i := 941) (by decide +kernel), List.mem_of_getElem? (i := 1141) (by decide +kernel), List.mem_of_getElem? (i := 1142) (by decide +kernel)⟩
theorem lw_p41 : lw_okq (⟨"OrchardWallModel", "mustSign", "(I)V"⟩, 41) := ⟨⟨by decide +kernel, by decide +kernel⟩, List.mem_of_getElem? (i := 941) (by decide +kernel), List.mem_of_getElem? (i := 1145) (by decide +kernel), List.mem_of_getElem? (i := 1146) (by decide +kernel)⟩
theorem lw_p42 : lw_okq (⟨"OrchardWallModel", "readHens", "()V"⟩, 41) := ⟨⟨by decide +kernel, by decide +kernel⟩, List.mem_of_getElem? (i := 941) (by decide +kernel), List.mem_of_getElem? (i := 1149) (by decide +kernel), List.mem_of_getElem? (i := 1150) (by decide +kernel)⟩
theorem lw_p43 : lw_okq (⟨"OrchardWallModel", "begins", "(II)V"⟩, 41) := ⟨⟨by decide +kernel, by decide +kernel⟩, List.mem_of_getElem? (i := 941) (by decide +kernel), List.mem_of_getElem? (i := 1153) (by decide +kernel), List.mem_of_getElem? (i := 1154) (by decide +kernel)⟩
theorem lw_p44 : lw_okq (⟨"OrchardWallModel", "readTree", "()V"⟩, 41) := ⟨⟨by decide +kernel, by decide +kernel⟩, List.mem_of_getElem? (i := 941) (by decide +kernel), List.mem_of_getElem? (i := 1157) (by decide +kernel), List.mem_of_getElem? (i := 1158) (by decide +kernel)⟩
theorem lw_p45 : lw_okq (⟨"OrchardWallModel", "readRaider", "()V"⟩, 41) := ⟨⟨by decide +kernel, by decide +kernel⟩, List.mem_of_getElem? (i := 941) (by decide +kernel), List.mem_of_getElem? (i := 1164) (by decide +kernel), List.mem_of_getElem? (i := 1165) (by decide +kernel)⟩
theorem lw_p46 : lw_okq (⟨"OrchardWallModel", "failed", "()Z"⟩, 41) := ⟨⟨by decide +kernel, by decide +kernel⟩, List.mem_of_getElem? (i := 941) (by decide +kernel), List.mem_of_getElem? (i := 1168) (by decide +kernel), List.mem_of_getElem? (i := 1169) (by decide +kernel)⟩
theorem lw_p47 : lw_okq (⟨"OrchardWallModel", "isRaider", "(I)Z"⟩, 41) := ⟨⟨by decide +kernel, by decide +kernel⟩, List.mem_of_getElem? (i := 941) (by decide +kernel), List.mem_of_getElem? (i := 1177) (by decide +kernel), List.mem_of_getElem? (i := 1178) (by decide +kernel)⟩
def lw_privs_3 : List (MethodName × Nat) := [(⟨"OrchardWall", "firstBody", "(II)I"⟩, 14), (⟨"OrchardWall", "body", "(III)I"⟩, 14), (⟨"OrchardWallModel", "finding", "(I)I"⟩, 41), (⟨"OrchardWallModel", "beginText", "()V"⟩, 41), (⟨"OrchardWallModel", "nextToken", "()V"⟩, 41), (⟨"OrchardWallModel", "isLetter", "(I)Z"⟩, 41), (⟨"OrchardWallModel", "must", "(Z)V"⟩, 41), (⟨"OrchardWallModel", "bad", "(I)V"⟩, 41), (⟨"OrchardWallModel", "number", "(II)I"⟩, 41), (⟨"OrchardWallModel", "mustSign", "(I)V"⟩, 41), (⟨"OrchardWallModel", "readHens", "()V"⟩, 41), (⟨"OrchardWallModel", "begins", "(II)V"⟩, 41), (⟨"OrchardWallModel", "readTree", "()V"⟩, 41), (⟨"OrchardWallModel", "readRaider", "()V"⟩, 41), (⟨"OrchardWallModel", "failed", "()Z"⟩, 41), (⟨"OrchardWallModel", "isRaider", "(I)Z"⟩, 41)]
theorem lw_r3 : ∀ q ∈ lw_privs_3, lw_okq q := List.forall_mem_cons.mpr ⟨lw_p32, List.forall_mem_cons.mpr ⟨lw_p33, List.forall_mem_cons.mpr ⟨lw_p34, List.forall_mem_cons.mpr ⟨lw_p35, List.forall_mem_cons.mpr ⟨lw_p36, List.forall_mem_cons.mpr ⟨lw_p37, List.forall_mem_cons.mpr ⟨lw_p38, List.forall_mem_cons.mpr ⟨lw_p39, List.forall_mem_cons.mpr ⟨lw_p40, List.forall_mem_cons.mpr ⟨lw_p41, List.forall_mem_cons.mpr ⟨lw_p42, List.forall_mem_cons.mpr ⟨lw_p43, List.forall_mem_cons.mpr ⟨lw_p44, List.forall_mem_cons.mpr ⟨lw_p45, List.forall_mem_cons.mpr ⟨lw_p46, List.forall_mem_cons.mpr ⟨lw_p47, fun _ h => absurd h List.not_mem_nil⟩⟩⟩⟩⟩⟩⟩⟩⟩⟩⟩⟩⟩⟩⟩⟩
theorem lw_p48 : lw_okq (⟨"OrchardWallModel", "isTree", "(I)Z"⟩, 41) := ⟨⟨by decide +kernel, by decide +kernel⟩, List.mem_of_getElem? (i := 941) (by decide +kernel), List.mem_of_getElem? (i := 1181) (by decide +kernel), List.mem_of_getElem? (i := 1182) (by decide +kernel)⟩
theorem lw_p49 : lw_okq (⟨"OrchardWallModel", "isWatching", "(I)Z"⟩, 41) := ⟨⟨by decide +kernel, by decide +kernel⟩, List.mem_of_getElem? (i := 941) (by decide +kernel), List.mem_of_getElem? (i := 1186) (by decide +kernel), List.mem_of_getElem? (i := 1187) (by decide +kernel)⟩
theorem lw_p50 : lw_okq (⟨"OrchardWallModel", "of", "(II)I"⟩, 41) := ⟨⟨by decide +kernel, by decide +kernel⟩, List.mem_of_getElem? (i := 941) (by decide +kernel), List.mem_of_getElem? (i := 1190) (by decide +kernel), List.mem_of_getElem? (i := 1191) (by decide +kernel)⟩
theorem lw_p51 : lw_okq (⟨"OrchardWallModel", "keep", "()V"⟩, 41) := ⟨⟨by decide +kernel, by decide +kernel⟩, List.mem_of_getElem? (i := 941) (by decide +kernel), List.mem_of_getElem? (i := 1195) (by decide +kernel), List.mem_of_getElem? (i := 1196) (by decide +kernel)⟩
theorem lw_p52 : lw_okq (⟨"OrchardWallModel", "isThere", "()Z"⟩, 41) := ⟨⟨by decide +kernel, by decide +kernel⟩, List.mem_of_getElem? (i := 941) (by decide +kernel), List.mem_of_getElem? (i := 1203) (by decide +kernel), List.mem_of_getElem? (i := 1204) (by decide +kernel)⟩
theorem lw_p53 : lw_okq (⟨"OrchardWallModel", "withPlans", "()I"⟩, 41) := ⟨⟨by decide +kernel, by decide +kernel⟩, List.mem_of_getElem? (i := 941) (by decide +kernel), List.mem_of_getElem? (i := 1207) (by decide +kernel), List.mem_of_getElem? (i := 1208) (by decide +kernel)⟩
theorem lw_p54 : lw_okq (⟨"OrchardWallModel", "raidNow", "()I"⟩, 41) := ⟨⟨by decide +kernel, by decide +kernel⟩, List.mem_of_getElem? (i := 941) (by decide +kernel), List.mem_of_getElem? (i := 1211) (by decide +kernel), List.mem_of_getElem? (i := 1212) (by decide +kernel)⟩
theorem lw_p55 : lw_okq (⟨"OrchardWallModel", "layPlans", "()V"⟩, 41) := ⟨⟨by decide +kernel, by decide +kernel⟩, List.mem_of_getElem? (i := 941) (by decide +kernel), List.mem_of_getElem? (i := 1215) (by decide +kernel), List.mem_of_getElem? (i := 1216) (by decide +kernel)⟩
theorem lw_p56 : lw_okq (⟨"OrchardWallModel", "layApples", "()V"⟩, 41) := ⟨⟨by decide +kernel, by decide +kernel⟩, List.mem_of_getElem? (i := 941) (by decide +kernel), List.mem_of_getElem? (i := 1219) (by decide +kernel), List.mem_of_getElem? (i := 1220) (by decide +kernel)⟩
theorem lw_p57 : lw_okq (⟨"OrchardWallModel", "everybody", "()I"⟩, 41) := ⟨⟨by decide +kernel, by decide +kernel⟩, List.mem_of_getElem? (i := 941) (by decide +kernel), List.mem_of_getElem? (i := 1223) (by decide +kernel), List.mem_of_getElem? (i := 1224) (by decide +kernel)⟩
theorem lw_p58 : lw_okq (⟨"OrchardWallModel", "raidOf", "(I)I"⟩, 41) := ⟨⟨by decide +kernel, by decide +kernel⟩, List.mem_of_getElem? (i := 941) (by decide +kernel), List.mem_of_getElem? (i := 1227) (by decide +kernel), List.mem_of_getElem? (i := 1228) (by decide +kernel)⟩
theorem lw_p59 : lw_okq (⟨"OrchardWallModel", "kindNow", "(I)I"⟩, 41) := ⟨⟨by decide +kernel, by decide +kernel⟩, List.mem_of_getElem? (i := 941) (by decide +kernel), List.mem_of_getElem? (i := 1231) (by decide +kernel), List.mem_of_getElem? (i := 1232) (by decide +kernel)⟩
theorem lw_p60 : lw_okq (⟨"OrchardWallModel", "isOver", "()Z"⟩, 41) := ⟨⟨by decide +kernel, by decide +kernel⟩, List.mem_of_getElem? (i := 941) (by decide +kernel), List.mem_of_getElem? (i := 1235) (by decide +kernel), List.mem_of_getElem? (i := 1236) (by decide +kernel)⟩
theorem lw_p61 : lw_okq (⟨"OrchardWallModel", "picks", "(I)V"⟩, 41) := ⟨⟨by decide +kernel, by decide +kernel⟩, List.mem_of_getElem? (i := 941) (by decide +kernel), List.mem_of_getElem? (i := 1239) (by decide +kernel), List.mem_of_getElem? (i := 1240) (by decide +kernel)⟩
theorem lw_p62 : lw_okq (⟨"OrchardWallModel", "walks", "(II)V"⟩, 41) := ⟨⟨by decide +kernel, by decide +kernel⟩, List.mem_of_getElem? (i := 941) (by decide +kernel), List.mem_of_getElem? (i := 1243) (by decide +kernel), List.mem_of_getElem? (i := 1244) (by decide +kernel)⟩
theorem lw_p63 : lw_okq (⟨"OrchardWallModel", "paceOf", "(I)I"⟩, 41) := ⟨⟨by decide +kernel, by decide +kernel⟩, List.mem_of_getElem? (i := 941) (by decide +kernel), List.mem_of_getElem? (i := 1247) (by decide +kernel), List.mem_of_getElem? (i := 1248) (by decide +kernel)⟩
def lw_privs_4 : List (MethodName × Nat) := [(⟨"OrchardWallModel", "isTree", "(I)Z"⟩, 41), (⟨"OrchardWallModel", "isWatching", "(I)Z"⟩, 41), (⟨"OrchardWallModel", "of", "(II)I"⟩, 41), (⟨"OrchardWallModel", "keep", "()V"⟩, 41), (⟨"OrchardWallModel", "isThere", "()Z"⟩, 41), (⟨"OrchardWallModel", "withPlans", "()I"⟩, 41), (⟨"OrchardWallModel", "raidNow", "()I"⟩, 41), (⟨"OrchardWallModel", "layPlans", "()V"⟩, 41), (⟨"OrchardWallModel", "layApples", "()V"⟩, 41), (⟨"OrchardWallModel", "everybody", "()I"⟩, 41), (⟨"OrchardWallModel", "raidOf", "(I)I"⟩, 41), (⟨"OrchardWallModel", "kindNow", "(I)I"⟩, 41), (⟨"OrchardWallModel", "isOver", "()Z"⟩, 41), (⟨"OrchardWallModel", "picks", "(I)V"⟩, 41), (⟨"OrchardWallModel", "walks", "(II)V"⟩, 41), (⟨"OrchardWallModel", "paceOf", "(I)I"⟩, 41)]
theorem lw_r4 : ∀ q ∈ lw_privs_4, lw_okq q := List.forall_mem_cons.mpr ⟨lw_p48, List.forall_mem_cons.mpr ⟨lw_p49, List.forall_mem_cons.mpr ⟨lw_p50, List.forall_mem_cons.mpr ⟨lw_p51, List.forall_mem_cons.mpr ⟨lw_p52, List.forall_mem_cons.mpr ⟨lw_p53, List.forall_mem_cons.mpr ⟨lw_p54, List.forall_mem_cons.mpr ⟨lw_p55, List.forall_mem_cons.mpr ⟨lw_p56, List.forall_mem_cons.mpr ⟨lw_p57, List.forall_mem_cons.mpr ⟨lw_p58, List.forall_mem_cons.mpr ⟨lw_p59, List.forall_mem_cons.mpr ⟨lw_p60, List.forall_mem_cons.mpr ⟨lw_p61, List.forall_mem_cons.mpr ⟨lw_p62, List.forall_mem_cons.mpr ⟨lw_p63, fun _ h => absurd h List.not_mem_nil⟩⟩⟩⟩⟩⟩⟩⟩⟩⟩⟩⟩⟩⟩⟩⟩
theorem lw_p64 : lw_okq (⟨"OrchardWallModel", "treeCell", "(I)I"⟩, 41) := ⟨⟨by decide +kernel, by decide +kernel⟩, List.mem_of_getElem? (i := 941) (by decide +kernel), List.mem_of_getElem? (i := 1251) (by decide +kernel), List.mem_of_getElem? (i := 1252) (by decide +kernel)⟩
theorem lw_p65 : lw_okq (⟨"OrchardWallModel", "cackle", "(I)V"⟩, 41) := ⟨⟨by decide +kernel, by decide +kernel⟩, List.mem_of_getElem? (i := 941) (by decide +kernel), List.mem_of_getElem? (i := 1258) (by decide +kernel), List.mem_of_getElem? (i := 1259) (by decide +kernel)⟩
theorem lw_p66 : lw_okq (⟨"OrchardWallModel", "hears", "(I)V"⟩, 41) := ⟨⟨by decide +kernel, by decide +kernel⟩, List.mem_of_getElem? (i := 941) (by decide +kernel), List.mem_of_getElem? (i := 1265) (by decide +kernel), List.mem_of_getElem? (i := 1266) (by decide +kernel)⟩
theorem lw_p67 : lw_okq (⟨"OrchardWallModel", "gotOf", "(I)I"⟩, 41) := ⟨⟨by decide +kernel, by decide +kernel⟩, List.mem_of_getElem? (i := 941) (by decide +kernel), List.mem_of_getElem? (i := 1269) (by decide +kernel), List.mem_of_getElem? (i := 1270) (by decide +kernel)⟩
theorem lw_p68 : lw_okq (⟨"OrchardWallModel", "linesOf", "(IZ)I"⟩, 41) := ⟨⟨by decide +kernel, by decide +kernel⟩, List.mem_of_getElem? (i := 941) (by decide +kernel), List.mem_of_getElem? (i := 1295) (by decide +kernel), List.mem_of_getElem? (i := 1296) (by decide +kernel)⟩
theorem lw_p69 : lw_okq (⟨"OrchardWallModel", "aloneOf", "(IIII)I"⟩, 41) := ⟨⟨by decide +kernel, by decide +kernel⟩, List.mem_of_getElem? (i := 941) (by decide +kernel), List.mem_of_getElem? (i := 1335) (by decide +kernel), List.mem_of_getElem? (i := 1336) (by decide +kernel)⟩
theorem lw_p70 : lw_okq (⟨"OrchardWallModel", "noDays", "(II)I"⟩, 41) := ⟨⟨by decide +kernel, by decide +kernel⟩, List.mem_of_getElem? (i := 941) (by decide +kernel), List.mem_of_getElem? (i := 1351) (by decide +kernel), List.mem_of_getElem? (i := 1352) (by decide +kernel)⟩
theorem lw_p71 : lw_okq (⟨"OrchardWallModel", "bestDays", "(II)I"⟩, 41) := ⟨⟨by decide +kernel, by decide +kernel⟩, List.mem_of_getElem? (i := 941) (by decide +kernel), List.mem_of_getElem? (i := 1356) (by decide +kernel), List.mem_of_getElem? (i := 1357) (by decide +kernel)⟩
theorem lw_p72 : lw_okq (⟨"OrchardWallModel", "layValue", "(III)V"⟩, 41) := ⟨⟨by decide +kernel, by decide +kernel⟩, List.mem_of_getElem? (i := 941) (by decide +kernel), List.mem_of_getElem? (i := 1360) (by decide +kernel), List.mem_of_getElem? (i := 1361) (by decide +kernel)⟩
theorem lw_p73 : lw_okq (⟨"OrchardWallModel", "partsOf", "(IIIJ)J"⟩, 41) := ⟨⟨by decide +kernel, by decide +kernel⟩, List.mem_of_getElem? (i := 941) (by decide +kernel), List.mem_of_getElem? (i := 1364) (by decide +kernel), List.mem_of_getElem? (i := 1365) (by decide +kernel)⟩
theorem lw_p74 : lw_okq (⟨"OrchardWallModel", "sizeOf", "(I)I"⟩, 41) := ⟨⟨by decide +kernel, by decide +kernel⟩, List.mem_of_getElem? (i := 941) (by decide +kernel), List.mem_of_getElem? (i := 1410) (by decide +kernel), List.mem_of_getElem? (i := 1411) (by decide +kernel)⟩
theorem lw_p75 : lw_okq (⟨"OrchardWallModel", "watchSize", "(I)I"⟩, 41) := ⟨⟨by decide +kernel, by decide +kernel⟩, List.mem_of_getElem? (i := 941) (by decide +kernel), List.mem_of_getElem? (i := 1414) (by decide +kernel), List.mem_of_getElem? (i := 1415) (by decide +kernel)⟩
theorem lw_p76 : lw_okq (⟨"OrchardWallModel", "began", "(I)V"⟩, 41) := ⟨⟨by decide +kernel, by decide +kernel⟩, List.mem_of_getElem? (i := 941) (by decide +kernel), List.mem_of_getElem? (i := 1418) (by decide +kernel), List.mem_of_getElem? (i := 1419) (by decide +kernel)⟩
theorem lw_p77 : lw_okq (⟨"OrchardWallModel", "plainSize", "(I)I"⟩, 41) := ⟨⟨by decide +kernel, by decide +kernel⟩, List.mem_of_getElem? (i := 941) (by decide +kernel), List.mem_of_getElem? (i := 1422) (by decide +kernel), List.mem_of_getElem? (i := 1423) (by decide +kernel)⟩
theorem lw_p78 : lw_okq (⟨"OrchardWallModel", "markOf", "(I)I"⟩, 41) := ⟨⟨by decide +kernel, by decide +kernel⟩, List.mem_of_getElem? (i := 941) (by decide +kernel), List.mem_of_getElem? (i := 1426) (by decide +kernel), List.mem_of_getElem? (i := 1427) (by decide +kernel)⟩
def lw_privs_5 : List (MethodName × Nat) := [(⟨"OrchardWallModel", "treeCell", "(I)I"⟩, 41), (⟨"OrchardWallModel", "cackle", "(I)V"⟩, 41), (⟨"OrchardWallModel", "hears", "(I)V"⟩, 41), (⟨"OrchardWallModel", "gotOf", "(I)I"⟩, 41), (⟨"OrchardWallModel", "linesOf", "(IZ)I"⟩, 41), (⟨"OrchardWallModel", "aloneOf", "(IIII)I"⟩, 41), (⟨"OrchardWallModel", "noDays", "(II)I"⟩, 41), (⟨"OrchardWallModel", "bestDays", "(II)I"⟩, 41), (⟨"OrchardWallModel", "layValue", "(III)V"⟩, 41), (⟨"OrchardWallModel", "partsOf", "(IIIJ)J"⟩, 41), (⟨"OrchardWallModel", "sizeOf", "(I)I"⟩, 41), (⟨"OrchardWallModel", "watchSize", "(I)I"⟩, 41), (⟨"OrchardWallModel", "began", "(I)V"⟩, 41), (⟨"OrchardWallModel", "plainSize", "(I)I"⟩, 41), (⟨"OrchardWallModel", "markOf", "(I)I"⟩, 41)]
theorem lw_r5 : ∀ q ∈ lw_privs_5, lw_okq q := List.forall_mem_cons.mpr ⟨lw_p64, List.forall_mem_cons.mpr ⟨lw_p65, List.forall_mem_cons.mpr ⟨lw_p66, List.forall_mem_cons.mpr ⟨lw_p67, List.forall_mem_cons.mpr ⟨lw_p68, List.forall_mem_cons.mpr ⟨lw_p69, List.forall_mem_cons.mpr ⟨lw_p70, List.forall_mem_cons.mpr ⟨lw_p71, List.forall_mem_cons.mpr ⟨lw_p72, List.forall_mem_cons.mpr ⟨lw_p73, List.forall_mem_cons.mpr ⟨lw_p74, List.forall_mem_cons.mpr ⟨lw_p75, List.forall_mem_cons.mpr ⟨lw_p76, List.forall_mem_cons.mpr ⟨lw_p77, List.forall_mem_cons.mpr ⟨lw_p78, fun _ h => absurd h List.not_mem_nil⟩⟩⟩⟩⟩⟩⟩⟩⟩⟩⟩⟩⟩⟩⟩
def lw_privs : List (MethodName × Nat) := lw_privs_1 ++ (lw_privs_2 ++ (lw_privs_3 ++ (lw_privs_4 ++ (lw_privs_5))))
def lw_tbl : List Cond := k2_sels lw_privs ++ tables_1
theorem lw_privs_ok : ∀ q ∈ lw_privs, lw_okq q := by
  show ∀ q ∈ lw_privs_1 ++ (lw_privs_2 ++ (lw_privs_3 ++ (lw_privs_4 ++ (lw_privs_5)))), lw_okq q
  exact List.forall_mem_append.mpr ⟨lw_r1, List.forall_mem_append.mpr ⟨lw_r2, List.forall_mem_append.mpr ⟨lw_r3, List.forall_mem_append.mpr ⟨lw_r4, lw_r5⟩⟩⟩⟩
end
section
def RX0 : String := "OrchardWall$Acts"
def TX0 : u_T := fun k => match k with
  | 0 => ("OrchardWall$Acts", "before", "[[I", true)
  | 1 => ("OrchardWall$Acts", "next", "I", false)
  | _ => ("OrchardWall$Acts", "kept", "I", false)
def tyX0 : Nat → FieldType := fun k => match k with
  | 0 => .array (.array .int)
  | 1 => .int
  | _ => .int
abbrev wsX00 : List Cond := u_ws RX0 TX0 3
theorem nmX0 : ∀ a, a < 3 → ∀ b, b < 3 → a ≠ b → (TX0 a).2.1 ≠ (TX0 b).2.1 := by decide +kernel
theorem tyX0_ok : ∀ k, k < 3 → parseFieldDescriptor (TX0 k).2.2.1 = some (tyX0 k) := by decide +kernel
abbrev cX0_init : ByteArray := prog_2_method_1_code
def yX0_init : MethodName := ⟨RX0, "<init>", "()V"⟩
abbrev cX0_keep : ByteArray := prog_2_method_2_code
def yX0_keep : MethodName := ⟨RX0, "keep", "(LOrchardWall$Orchard;)V"⟩
abbrev cX0_takeBack : ByteArray := prog_2_method_3_code
def yX0_takeBack : MethodName := ⟨RX0, "takeBack", "(LOrchardWall$Orchard;)Z"⟩
abbrev cX0_forget : ByteArray := prog_2_method_4_code
def yX0_forget : MethodName := ⟨RX0, "forget", "()V"⟩
def RX1 : String := "OrchardWall$Book"
def TX1 : u_T := fun k => match k with
  | 0 => ("OrchardWall$Book", "hours", "[I", true)
  | 1 => ("OrchardWall$Book", "slept", "[I", true)
  | _ => ("OrchardWall$Book", "lines", "I", false)
def tyX1 : Nat → FieldType := fun k => match k with
  | 0 => .array .int
  | 1 => .array .int
  | _ => .int
abbrev wsX10 : List Cond := u_ws RX1 TX1 3
theorem nmX1 : ∀ a, a < 3 → ∀ b, b < 3 → a ≠ b → (TX1 a).2.1 ≠ (TX1 b).2.1 := by decide +kernel
theorem tyX1_ok : ∀ k, k < 3 → parseFieldDescriptor (TX1 k).2.2.1 = some (tyX1 k) := by decide +kernel
abbrev cX1_init : ByteArray := prog_3_method_1_code
def yX1_init : MethodName := ⟨RX1, "<init>", "()V"⟩
abbrev cX1_isFull : ByteArray := prog_3_method_2_code
def yX1_isFull : MethodName := ⟨RX1, "isFull", "()Z"⟩
abbrev cX1_append : ByteArray := prog_3_method_3_code
def yX1_append : MethodName := ⟨RX1, "append", "(II)I"⟩
abbrev cX1_empty : ByteArray := prog_3_method_4_code
def yX1_empty : MethodName := ⟨RX1, "empty", "()I"⟩
abbrev cX1_linesOf : ByteArray := prog_3_method_5_code
def yX1_linesOf : MethodName := ⟨RX1, "linesOf", "(I)I"⟩
abbrev cX1_sleptIn : ByteArray := prog_3_method_6_code
def yX1_sleptIn : MethodName := ⟨RX1, "sleptIn", "(I)I"⟩
abbrev cX1_quietestHour : ByteArray := prog_3_method_7_code
def yX1_quietestHour : MethodName := ⟨RX1, "quietestHour", "()I"⟩
def RX2 : String := "OrchardWall$Days"
def TX2 : u_T := fun k => match k with
  | 0 => ("OrchardWall$Days", "stakes", "[I", true)
  | 1 => ("OrchardWall$Days", "bestSet", "I", false)
  | 2 => ("OrchardWall$Days", "bestAbove", "J", false)
  | _ => ("OrchardWall$Days", "bestBelow", "J", false)
def tyX2 : Nat → FieldType := fun k => match k with
  | 0 => .array .int
  | 1 => .int
  | 2 => .long
  | _ => .long
abbrev wsX20 : List Cond := u_ws RX2 TX2 4
theorem nmX2 : ∀ a, a < 4 → ∀ b, b < 4 → a ≠ b → (TX2 a).2.1 ≠ (TX2 b).2.1 := by decide +kernel
theorem tyX2_ok : ∀ k, k < 4 → parseFieldDescriptor (TX2 k).2.2.1 = some (tyX2 k) := by decide +kernel
abbrev cX2_init : ByteArray := prog_4_method_1_code
def yX2_init : MethodName := ⟨RX2, "<init>", "()V"⟩
abbrev cX2_solve : ByteArray := prog_4_method_2_code
def yX2_solve : MethodName := ⟨RX2, "solve", "(I)V"⟩
abbrev cX2_odds : ByteArray := prog_4_method_3_code
def yX2_odds : MethodName := ⟨RX2, "odds", "(IZ)J"⟩
abbrev cX2_product : ByteArray := prog_4_method_4_code
def yX2_product : MethodName := ⟨RX2, "product", "(I)J"⟩
abbrev cX2_sumOfParts : ByteArray := prog_4_method_5_code
def yX2_sumOfParts : MethodName := ⟨RX2, "sumOfParts", "(IJ)J"⟩
abbrev cX2_part : ByteArray := prog_4_method_6_code
def yX2_part : MethodName := ⟨RX2, "part", "(JI)J"⟩
def RX3 : String := "OrchardWall$Orchard"
def TX3 : u_T := fun k => match k with
  | 0 => ("OrchardWall$Orchard", "stands", "Z", false)
  | 1 => ("OrchardWall$Orchard", "house", "I", false)
  | 2 => ("OrchardWall$Orchard", "entry", "I", false)
  | 3 => ("OrchardWall$Orchard", "ears", "I", false)
  | 4 => ("OrchardWall$Orchard", "delay", "I", false)
  | 5 => ("OrchardWall$Orchard", "dog", "I", false)
  | 6 => ("OrchardWall$Orchard", "hens", "I", false)
  | 7 => ("OrchardWall$Orchard", "trees", "I", false)
  | 8 => ("OrchardWall$Orchard", "raiders", "I", false)
  | 9 => ("OrchardWall$Orchard", "loud", "[I", true)
  | 10 => ("OrchardWall$Orchard", "treeCell", "[I", true)
  | 11 => ("OrchardWall$Orchard", "treeWorth", "[I", true)
  | 12 => ("OrchardWall$Orchard", "kinds", "[I", true)
  | 13 => ("OrchardWall$Orchard", "full", "[I", true)
  | _ => ("OrchardWall$Orchard", "now", "[I", true)
def tyX3 : Nat → FieldType := fun k => match k with
  | 0 => .boolean
  | 1 => .int
  | 2 => .int
  | 3 => .int
  | 4 => .int
  | 5 => .int
  | 6 => .int
  | 7 => .int
  | 8 => .int
  | 9 => .array .int
  | 10 => .array .int
  | 11 => .array .int
  | 12 => .array .int
  | 13 => .array .int
  | _ => .array .int
abbrev wsX30 : List Cond := u_ws RX3 TX3 15
theorem nmX3 : ∀ a, a < 15 → ∀ b, b < 15 → a ≠ b → (TX3 a).2.1 ≠ (TX3 b).2.1 := by decide +kernel
theorem tyX3_ok : ∀ k, k < 15 → parseFieldDescriptor (TX3 k).2.2.1 = some (tyX3 k) := by decide +kernel
abbrev cX3_init : ByteArray := prog_5_method_1_code
def yX3_init : MethodName := ⟨RX3, "<init>", "()V"⟩
abbrev cX3_clear : ByteArray := prog_5_method_2_code
def yX3_clear : MethodName := ⟨RX3, "clear", "()V"⟩
abbrev cX3_become : ByteArray := prog_5_method_3_code
def yX3_become : MethodName := ⟨RX3, "become", "(LOrchardWall$Orchard;)V"⟩
abbrev cX3_hasRaider : ByteArray := prog_5_method_4_code
def yX3_hasRaider : MethodName := ⟨RX3, "hasRaider", "(I)Z"⟩
abbrev cX3_hasTree : ByteArray := prog_5_method_5_code
def yX3_hasTree : MethodName := ⟨RX3, "hasTree", "(I)Z"⟩
abbrev cX3_canPlan : ByteArray := prog_5_method_6_code
def yX3_canPlan : MethodName := ⟨RX3, "canPlan", "(I)Z"⟩
abbrev cX3_hasPlan : ByteArray := prog_5_method_7_code
def yX3_hasPlan : MethodName := ⟨RX3, "hasPlan", "(I)Z"⟩
abbrev cX3_isPlanned : ByteArray := prog_5_method_8_code
def yX3_isPlanned : MethodName := ⟨RX3, "isPlanned", "()Z"⟩
abbrev cX3_allPlan : ByteArray := prog_5_method_9_code
def yX3_allPlan : MethodName := ⟨RX3, "allPlan", "(I)Z"⟩
abbrev cX3_addHens : ByteArray := prog_5_method_10_code
def yX3_addHens : MethodName := ⟨RX3, "addHens", "(II)V"⟩
def RX4 : String := "OrchardWall$Raid"
def TX4 : u_T := fun k => match k with
  | 0 => ("OrchardWall$Raid", "orchard", "LOrchardWall$Orchard;", true)
  | 1 => ("OrchardWall$Raid", "delay", "I", false)
  | 2 => ("OrchardWall$Raid", "noise", "I", false)
  | 3 => ("OrchardWall$Raid", "second", "I", false)
  | 4 => ("OrchardWall$Raid", "door", "I", false)
  | 5 => ("OrchardWall$Raid", "last", "I", false)
  | 6 => ("OrchardWall$Raid", "inside", "I", false)
  | 7 => ("OrchardWall$Raid", "left", "[I", true)
  | 8 => ("OrchardWall$Raid", "goal", "[I", true)
  | 9 => ("OrchardWall$Raid", "planned", "[I", true)
  | 10 => ("OrchardWall$Raid", "how", "[I", true)
  | 11 => ("OrchardWall$Raid", "doing", "[I", true)
  | 12 => ("OrchardWall$Raid", "seconds", "[I", true)
  | 13 => ("OrchardWall$Raid", "steps", "[I", true)
  | 14 => ("OrchardWall$Raid", "load", "[I", true)
  | 15 => ("OrchardWall$Raid", "had", "[I", true)
  | _ => ("OrchardWall$Raid", "outAt", "[I", true)
def tyX4 : Nat → FieldType := fun k => match k with
  | 0 => .object "OrchardWall$Orchard"
  | 1 => .int
  | 2 => .int
  | 3 => .int
  | 4 => .int
  | 5 => .int
  | 6 => .int
  | 7 => .array .int
  | 8 => .array .int
  | 9 => .array .int
  | 10 => .array .int
  | 11 => .array .int
  | 12 => .array .int
  | 13 => .array .int
  | 14 => .array .int
  | 15 => .array .int
  | _ => .array .int
abbrev wsX40 : List Cond := u_ws RX4 TX4 17
theorem nmX4 : ∀ a, a < 17 → ∀ b, b < 17 → a ≠ b → (TX4 a).2.1 ≠ (TX4 b).2.1 := by decide +kernel
theorem tyX4_ok : ∀ k, k < 17 → parseFieldDescriptor (TX4 k).2.2.1 = some (tyX4 k) := by decide +kernel
abbrev cX4_init : ByteArray := prog_6_method_1_code
def yX4_init : MethodName := ⟨RX4, "<init>", "(LOrchardWall$Orchard;)V"⟩
abbrev cX4_gather : ByteArray := prog_6_method_2_code
def yX4_gather : MethodName := ⟨RX4, "gather", "(I)V"⟩
abbrev cX4_tell : ByteArray := prog_6_method_3_code
def yX4_tell : MethodName := ⟨RX4, "tell", "(IIII)V"⟩
abbrev cX4_run : ByteArray := prog_6_method_4_code
def yX4_run : MethodName := ⟨RX4, "run", "()V"⟩
abbrev cX4_isIn : ByteArray := prog_6_method_5_code
def yX4_isIn : MethodName := ⟨RX4, "isIn", "(I)Z"⟩
abbrev cX4_move : ByteArray := prog_6_method_6_code
def yX4_move : MethodName := ⟨RX4, "move", "(I)V"⟩
abbrev cX4_pace : ByteArray := prog_6_method_7_code
def yX4_pace : MethodName := ⟨RX4, "pace", "(I)I"⟩
abbrev cX4_step : ByteArray := prog_6_method_8_code
def yX4_step : MethodName := ⟨RX4, "step", "(I)V"⟩
abbrev cX4_cellOnWay : ByteArray := prog_6_method_9_code
def yX4_cellOnWay : MethodName := ⟨RX4, "cellOnWay", "(III)I"⟩
abbrev cX4_pick : ByteArray := prog_6_method_10_code
def yX4_pick : MethodName := ⟨RX4, "pick", "(I)V"⟩
abbrev cX4_leave : ByteArray := prog_6_method_11_code
def yX4_leave : MethodName := ⟨RX4, "leave", "(I)V"⟩
abbrev cX4_endSecond : ByteArray := prog_6_method_12_code
def yX4_endSecond : MethodName := ⟨RX4, "endSecond", "()V"⟩
abbrev cX4_callBack : ByteArray := prog_6_method_13_code
def yX4_callBack : MethodName := ⟨RX4, "callBack", "()V"⟩
abbrev cX4_catchAll : ByteArray := prog_6_method_14_code
def yX4_catchAll : MethodName := ⟨RX4, "catchAll", "()V"⟩
abbrev cX4_isOut : ByteArray := prog_6_method_15_code
def yX4_isOut : MethodName := ⟨RX4, "isOut", "(I)Z"⟩
abbrev cX4_applesGot : ByteArray := prog_6_method_16_code
def yX4_applesGot : MethodName := ⟨RX4, "applesGot", "(I)I"⟩
abbrev cX4_gotByAll : ByteArray := prog_6_method_17_code
def yX4_gotByAll : MethodName := ⟨RX4, "gotByAll", "()I"⟩
abbrev cX4_caughtBits : ByteArray := prog_6_method_18_code
def yX4_caughtBits : MethodName := ⟨RX4, "caughtBits", "()I"⟩
abbrev cX4_leaveBehind : ByteArray := prog_6_method_19_code
def yX4_leaveBehind : MethodName := ⟨RX4, "leaveBehind", "()V"⟩
def RX5 : String := "OrchardWall$Reader"
def TX5 : u_T := fun k => match k with
  | 0 => ("OrchardWall$Reader", "tape", "[I", true)
  | 1 => ("OrchardWall$Reader", "length", "I", false)
  | 2 => ("OrchardWall$Reader", "fault", "I", false)
  | 3 => ("OrchardWall$Reader", "token", "I", false)
  | 4 => ("OrchardWall$Reader", "number", "I", false)
  | 5 => ("OrchardWall$Reader", "place", "I", false)
  | _ => ("OrchardWall$Reader", "behind", "I", false)
def tyX5 : Nat → FieldType := fun k => match k with
  | 0 => .array .int
  | 1 => .int
  | 2 => .int
  | 3 => .int
  | 4 => .int
  | 5 => .int
  | _ => .int
abbrev wsX50 : List Cond := u_ws RX5 TX5 7
theorem nmX5 : ∀ a, a < 7 → ∀ b, b < 7 → a ≠ b → (TX5 a).2.1 ≠ (TX5 b).2.1 := by decide +kernel
theorem tyX5_ok : ∀ k, k < 7 → parseFieldDescriptor (TX5 k).2.2.1 = some (tyX5 k) := by decide +kernel
abbrev cX5_init : ByteArray := prog_7_method_1_code
def yX5_init : MethodName := ⟨RX5, "<init>", "()V"⟩
abbrev cX5_isFull : ByteArray := prog_7_method_2_code
def yX5_isFull : MethodName := ⟨RX5, "isFull", "()Z"⟩
abbrev cX5_append : ByteArray := prog_7_method_3_code
def yX5_append : MethodName := ⟨RX5, "append", "(I)I"⟩
abbrev cX5_read : ByteArray := prog_7_method_4_code
def yX5_read : MethodName := ⟨RX5, "read", "(LOrchardWall$Orchard;)I"⟩
abbrev cX5_readLaw : ByteArray := prog_7_method_5_code
def yX5_readLaw : MethodName := ⟨RX5, "readLaw", "(LOrchardWall$Orchard;)Z"⟩
abbrev cX5_readHens : ByteArray := prog_7_method_6_code
def yX5_readHens : MethodName := ⟨RX5, "readHens", "(LOrchardWall$Orchard;)Z"⟩
abbrev cX5_readTrees : ByteArray := prog_7_method_7_code
def yX5_readTrees : MethodName := ⟨RX5, "readTrees", "(LOrchardWall$Orchard;)Z"⟩
abbrev cX5_readRaiders : ByteArray := prog_7_method_8_code
def yX5_readRaiders : MethodName := ⟨RX5, "readRaiders", "(LOrchardWall$Orchard;)Z"⟩
abbrev cX5_isAtEnd : ByteArray := prog_7_method_9_code
def yX5_isAtEnd : MethodName := ⟨RX5, "isAtEnd", "()Z"⟩
abbrev cX5_fail : ByteArray := prog_7_method_10_code
def yX5_fail : MethodName := ⟨RX5, "fail", "(I)Z"⟩
abbrev cX5_take : ByteArray := prog_7_method_11_code
def yX5_take : MethodName := ⟨RX5, "take", "(I)Z"⟩
abbrev cX5_takeField : ByteArray := prog_7_method_12_code
def yX5_takeField : MethodName := ⟨RX5, "takeField", "(IIII)I"⟩
abbrev cX5_advance : ByteArray := prog_7_method_13_code
def yX5_advance : MethodName := ⟨RX5, "advance", "()V"⟩
abbrev cX5_advanceOverFigures : ByteArray := prog_7_method_14_code
def yX5_advanceOverFigures : MethodName := ⟨RX5, "advanceOverFigures", "()V"⟩
abbrev cX5_isFigure : ByteArray := prog_7_method_15_code
def yX5_isFigure : MethodName := ⟨RX5, "isFigure", "(I)Z"⟩
def RX6 : String := "OrchardWall$Rows"
def TX6 : u_T := fun k => match k with
  | 0 => ("OrchardWall$Rows", "lanes", "[I", true)
  | 1 => ("OrchardWall$Rows", "sizes", "[I", true)
  | _ => ("OrchardWall$Rows", "items", "[[I", true)
def tyX6 : Nat → FieldType := fun k => match k with
  | 0 => .array .int
  | 1 => .array .int
  | _ => .array (.array .int)
abbrev wsX60 : List Cond := u_ws RX6 TX6 3
theorem nmX6 : ∀ a, a < 3 → ∀ b, b < 3 → a ≠ b → (TX6 a).2.1 ≠ (TX6 b).2.1 := by decide +kernel
theorem tyX6_ok : ∀ k, k < 3 → parseFieldDescriptor (TX6 k).2.2.1 = some (tyX6 k) := by decide +kernel
abbrev cX6_init : ByteArray := prog_8_method_1_code
def yX6_init : MethodName := ⟨RX6, "<init>", "()V"⟩
abbrev cX6_isRow : ByteArray := prog_8_method_2_code
def yX6_isRow : MethodName := ⟨RX6, "isRow", "(I)Z"⟩
abbrev cX6_isMissing : ByteArray := prog_8_method_3_code
def yX6_isMissing : MethodName := ⟨RX6, "isMissing", "(I)Z"⟩
abbrev cX6_make : ByteArray := prog_8_method_4_code
def yX6_make : MethodName := ⟨RX6, "make", "(III)V"⟩
abbrev cX6_lose : ByteArray := prog_8_method_5_code
def yX6_lose : MethodName := ⟨RX6, "lose", "(I)I"⟩
abbrev cX6_troubleWith : ByteArray := prog_8_method_6_code
def yX6_troubleWith : MethodName := ⟨RX6, "troubleWith", "(III)I"⟩
abbrev cX6_troubleBetween : ByteArray := prog_8_method_7_code
def yX6_troubleBetween : MethodName := ⟨RX6, "troubleBetween", "(IIIII)I"⟩
abbrev cX6_move : ByteArray := prog_8_method_8_code
def yX6_move : MethodName := ⟨RX6, "move", "(IIIII)V"⟩
abbrev cX6_put : ByteArray := prog_8_method_9_code
def yX6_put : MethodName := ⟨RX6, "put", "(III)I"⟩
abbrev cX6_item : ByteArray := prog_8_method_10_code
def yX6_item : MethodName := ⟨RX6, "item", "(II)I"⟩
abbrev cX6_sumOf : ByteArray := prog_8_method_11_code
def yX6_sumOf : MethodName := ⟨RX6, "sumOf", "(III)J"⟩
abbrev cX6_present : ByteArray := prog_8_method_12_code
def yX6_present : MethodName := ⟨RX6, "present", "()I"⟩
def RX7 : String := "OrchardWall"
def TX7 : u_T := fun k => match k with
  | 0 => ("OrchardWall", "rows", "LOrchardWall$Rows;", true)
  | 1 => ("OrchardWall", "reader", "LOrchardWall$Reader;", true)
  | 2 => ("OrchardWall", "orchard", "LOrchardWall$Orchard;", true)
  | 3 => ("OrchardWall", "draft", "LOrchardWall$Orchard;", true)
  | 4 => ("OrchardWall", "imageZero", "LOrchardWall$Orchard;", true)
  | 5 => ("OrchardWall", "imageOne", "LOrchardWall$Orchard;", true)
  | 6 => ("OrchardWall", "acts", "LOrchardWall$Acts;", true)
  | 7 => ("OrchardWall", "raid", "LOrchardWall$Raid;", true)
  | 8 => ("OrchardWall", "book", "LOrchardWall$Book;", true)
  | 9 => ("OrchardWall", "days", "LOrchardWall$Days;", true)
  | 10 => ("OrchardWall", "best", "[I", true)
  | 11 => ("OrchardWall", "traced", "[I", true)
  | 12 => ("OrchardWall", "tracedLength", "I", false)
  | _ => ("OrchardWall", "finding", "I", false)
def tyX7 : Nat → FieldType := fun k => match k with
  | 0 => .object "OrchardWall$Rows"
  | 1 => .object "OrchardWall$Reader"
  | 2 => .object "OrchardWall$Orchard"
  | 3 => .object "OrchardWall$Orchard"
  | 4 => .object "OrchardWall$Orchard"
  | 5 => .object "OrchardWall$Orchard"
  | 6 => .object "OrchardWall$Acts"
  | 7 => .object "OrchardWall$Raid"
  | 8 => .object "OrchardWall$Book"
  | 9 => .object "OrchardWall$Days"
  | 10 => .array .int
  | 11 => .array .int
  | 12 => .int
  | _ => .int
abbrev wsX70 : List Cond := u_ws RX7 TX7 14
theorem nmX7 : ∀ a, a < 14 → ∀ b, b < 14 → a ≠ b → (TX7 a).2.1 ≠ (TX7 b).2.1 := by decide +kernel
theorem tyX7_ok : ∀ k, k < 14 → parseFieldDescriptor (TX7 k).2.2.1 = some (tyX7 k) := by decide +kernel
abbrev cX7_init : ByteArray := prog_1_method_1_code
def yX7_init : MethodName := ⟨RX7, "<init>", "()V"⟩
abbrev cX7_row : ByteArray := prog_1_method_2_code
def yX7_row : MethodName := ⟨RX7, "row", "(III)I"⟩
abbrev cX7_set : ByteArray := prog_1_method_3_code
def yX7_set : MethodName := ⟨RX7, "set", "(III)I"⟩
abbrev cX7_copy : ByteArray := prog_1_method_4_code
def yX7_copy : MethodName := ⟨RX7, "copy", "(IIIII)I"⟩
abbrev cX7_drop : ByteArray := prog_1_method_5_code
def yX7_drop : MethodName := ⟨RX7, "drop", "(I)I"⟩
abbrev cX7_feed : ByteArray := prog_1_method_6_code
def yX7_feed : MethodName := ⟨RX7, "feed", "(I)I"⟩
abbrev cX7_orchard : ByteArray := prog_1_method_7_code
def yX7_orchard : MethodName := ⟨RX7, "orchard", "()I"⟩
abbrev cX7_fault : ByteArray := prog_1_method_8_code
def yX7_fault : MethodName := ⟨RX7, "fault", "()I"⟩
abbrev cX7_undo : ByteArray := prog_1_method_9_code
def yX7_undo : MethodName := ⟨RX7, "undo", "()I"⟩
abbrev cX7_plan : ByteArray := prog_1_method_10_code
def yX7_plan : MethodName := ⟨RX7, "plan", "(IIII)I"⟩
abbrev cX7_raid : ByteArray := prog_1_method_11_code
def yX7_raid : MethodName := ⟨RX7, "raid", "()I"⟩
abbrev cX7_grow : ByteArray := prog_1_method_12_code
def yX7_grow : MethodName := ⟨RX7, "grow", "(II)I"⟩
abbrev cX7_write : ByteArray := prog_1_method_13_code
def yX7_write : MethodName := ⟨RX7, "write", "(II)I"⟩
abbrev cX7_tear : ByteArray := prog_1_method_14_code
def yX7_tear : MethodName := ⟨RX7, "tear", "()I"⟩
abbrev cX7_raider : ByteArray := prog_1_method_15_code
def yX7_raider : MethodName := ⟨RX7, "raider", "(II)I"⟩
abbrev cX7_tree : ByteArray := prog_1_method_16_code
def yX7_tree : MethodName := ⟨RX7, "tree", "(II)I"⟩
abbrev cX7_far : ByteArray := prog_1_method_17_code
def yX7_far : MethodName := ⟨RX7, "far", "(II)I"⟩
abbrev cX7_ahead : ByteArray := prog_1_method_18_code
def yX7_ahead : MethodName := ⟨RX7, "ahead", "(I)I"⟩
abbrev cX7_raiderAhead : ByteArray := prog_1_method_19_code
def yX7_raiderAhead : MethodName := ⟨RX7, "raiderAhead", "(II)I"⟩
abbrev cX7_safe : ByteArray := prog_1_method_20_code
def yX7_safe : MethodName := ⟨RX7, "safe", "(III)I"⟩
abbrev cX7_bestAlone : ByteArray := prog_1_method_21_code
def yX7_bestAlone : MethodName := ⟨RX7, "bestAlone", "(II)I"⟩
abbrev cX7_watch : ByteArray := prog_1_method_22_code
def yX7_watch : MethodName := ⟨RX7, "watch", "(I)I"⟩
abbrev cX7_days : ByteArray := prog_1_method_23_code
def yX7_days : MethodName := ⟨RX7, "days", "(III)I"⟩
abbrev cX7_daysValue : ByteArray := prog_1_method_24_code
def yX7_daysValue : MethodName := ⟨RX7, "daysValue", "(IIIII)J"⟩
abbrev cX7_shares : ByteArray := prog_1_method_25_code
def yX7_shares : MethodName := ⟨RX7, "shares", "(II)I"⟩
abbrev cX7_bare : ByteArray := prog_1_method_26_code
def yX7_bare : MethodName := ⟨RX7, "bare", "(I)I"⟩
abbrev cX7_who : ByteArray := prog_1_method_27_code
def yX7_who : MethodName := ⟨RX7, "who", "(III)I"⟩
abbrev cX7_sleep : ByteArray := prog_1_method_28_code
def yX7_sleep : MethodName := ⟨RX7, "sleep", "(II)I"⟩
abbrev cX7_quietest : ByteArray := prog_1_method_29_code
def yX7_quietest : MethodName := ⟨RX7, "quietest", "()I"⟩
abbrev cX7_image : ByteArray := prog_1_method_30_code
def yX7_image : MethodName := ⟨RX7, "image", "(I)I"⟩
abbrev cX7_restore : ByteArray := prog_1_method_31_code
def yX7_restore : MethodName := ⟨RX7, "restore", "(I)I"⟩
abbrev cX7_kind : ByteArray := prog_1_method_32_code
def yX7_kind : MethodName := ⟨RX7, "kind", "(I)I"⟩
abbrev cX7_as : ByteArray := prog_1_method_33_code
def yX7_as : MethodName := ⟨RX7, "as", "(II)I"⟩
abbrev cX7_ask : ByteArray := prog_1_method_34_code
def yX7_ask : MethodName := ⟨RX7, "ask", "(II)I"⟩
abbrev cX7_trace : ByteArray := prog_1_method_35_code
def yX7_trace : MethodName := ⟨RX7, "trace", "(I)I"⟩
abbrev cX7_count : ByteArray := prog_1_method_36_code
def yX7_count : MethodName := ⟨RX7, "count", "(I)I"⟩
abbrev cX7_status : ByteArray := prog_1_method_37_code
def yX7_status : MethodName := ⟨RX7, "status", "()I"⟩
abbrev cX7_found : ByteArray := prog_1_method_38_code
def yX7_found : MethodName := ⟨RX7, "found", "(I)I"⟩
abbrev cX7_well : ByteArray := prog_1_method_39_code
def yX7_well : MethodName := ⟨RX7, "well", "(I)I"⟩
abbrev cX7_isBit : ByteArray := prog_1_method_40_code
def yX7_isBit : MethodName := ⟨RX7, "isBit", "(I)Z"⟩
abbrev cX7_isHour : ByteArray := prog_1_method_41_code
def yX7_isHour : MethodName := ⟨RX7, "isHour", "(I)Z"⟩
abbrev cX7_isCell : ByteArray := prog_1_method_42_code
def yX7_isCell : MethodName := ⟨RX7, "isCell", "(I)Z"⟩
abbrev cX7_distance : ByteArray := prog_1_method_43_code
def yX7_distance : MethodName := ⟨RX7, "distance", "(II)I"⟩
abbrev cX7_commonPart : ByteArray := prog_1_method_44_code
def yX7_commonPart : MethodName := ⟨RX7, "commonPart", "(JJ)J"⟩
abbrev cX7_isPlan : ByteArray := prog_1_method_45_code
def yX7_isPlan : MethodName := ⟨RX7, "isPlan", "(III)Z"⟩
abbrev cX7_raidOf : ByteArray := prog_1_method_46_code
def yX7_raidOf : MethodName := ⟨RX7, "raidOf", "(I)V"⟩
abbrev cX7_raidAlone : ByteArray := prog_1_method_47_code
def yX7_raidAlone : MethodName := ⟨RX7, "raidAlone", "(IIII)V"⟩
abbrev cX7_compareAlone : ByteArray := prog_1_method_48_code
def yX7_compareAlone : MethodName := ⟨RX7, "compareAlone", "(IIII)Z"⟩
abbrev cX7_refusalOfDays : ByteArray := prog_1_method_49_code
def yX7_refusalOfDays : MethodName := ⟨RX7, "refusalOfDays", "(III)I"⟩
abbrev cX7_refusalOfTold : ByteArray := prog_1_method_50_code
def yX7_refusalOfTold : MethodName := ⟨RX7, "refusalOfTold", "(IIIZ)I"⟩
abbrev cX7_isMissingJustSo : ByteArray := prog_1_method_51_code
def yX7_isMissingJustSo : MethodName := ⟨RX7, "isMissingJustSo", "(II)Z"⟩
abbrev cX7_imageAt : ByteArray := prog_1_method_52_code
def yX7_imageAt : MethodName := ⟨RX7, "imageAt", "(I)LOrchardWall$Orchard;"⟩
abbrev cX7_isOfKind : ByteArray := prog_1_method_53_code
def yX7_isOfKind : MethodName := ⟨RX7, "isOfKind", "(II)Z"⟩
abbrev cX7_firstBody : ByteArray := prog_1_method_54_code
def yX7_firstBody : MethodName := ⟨RX7, "firstBody", "(II)I"⟩
abbrev cX7_body : ByteArray := prog_1_method_55_code
def yX7_body : MethodName := ⟨RX7, "body", "(III)I"⟩
def RX8 : String := "OrchardWallModel"
def TX8 : u_T := fun k => match k with
  | 0 => ("OrchardWallModel", "thrown", "I", false)
  | 1 => ("OrchardWallModel", "status", "I", false)
  | 2 => ("OrchardWallModel", "lane", "[I", true)
  | 3 => ("OrchardWallModel", "many", "[I", true)
  | 4 => ("OrchardWallModel", "item", "[I", true)
  | 5 => ("OrchardWallModel", "wall", "[I", true)
  | 6 => ("OrchardWallModel", "fresh", "[I", true)
  | 7 => ("OrchardWallModel", "was", "[I", true)
  | 8 => ("OrchardWallModel", "acts", "I", false)
  | 9 => ("OrchardWallModel", "tape", "[I", true)
  | 10 => ("OrchardWallModel", "taped", "I", false)
  | 11 => ("OrchardWallModel", "cursor", "I", false)
  | 12 => ("OrchardWallModel", "start", "I", false)
  | 13 => ("OrchardWallModel", "token", "I", false)
  | 14 => ("OrchardWallModel", "value", "I", false)
  | 15 => ("OrchardWallModel", "fault", "I", false)
  | 16 => ("OrchardWallModel", "faultAt", "I", false)
  | 17 => ("OrchardWallModel", "latest", "I", false)
  | 18 => ("OrchardWallModel", "toTree", "[I", true)
  | 19 => ("OrchardWallModel", "planned", "[I", true)
  | 20 => ("OrchardWallModel", "how", "[I", true)
  | 21 => ("OrchardWallModel", "apples", "[I", true)
  | 22 => ("OrchardWallModel", "on", "[I", true)
  | 23 => ("OrchardWallModel", "does", "[I", true)
  | 24 => ("OrchardWallModel", "seconds", "[I", true)
  | 25 => ("OrchardWallModel", "load", "[I", true)
  | 26 => ("OrchardWallModel", "flown", "[I", true)
  | 27 => ("OrchardWallModel", "outAt", "[I", true)
  | 28 => ("OrchardWallModel", "noise", "I", false)
  | 29 => ("OrchardWallModel", "door", "I", false)
  | 30 => ("OrchardWallModel", "ended", "I", false)
  | 31 => ("OrchardWallModel", "delay", "I", false)
  | 32 => ("OrchardWallModel", "turned", "I", false)
  | 33 => ("OrchardWallModel", "line", "[I", true)
  | 34 => ("OrchardWallModel", "lines", "I", false)
  | 35 => ("OrchardWallModel", "above", "J", false)
  | 36 => ("OrchardWallModel", "below", "J", false)
  | 37 => ("OrchardWallModel", "isKept", "[Z", true)
  | 38 => ("OrchardWallModel", "kept", "[I", true)
  | 39 => ("OrchardWallModel", "trace", "[I", true)
  | _ => ("OrchardWallModel", "traced", "I", false)
def tyX8 : Nat → FieldType := fun k => match k with
  | 0 => .int
  | 1 => .int
  | 2 => .array .int
  | 3 => .array .int
  | 4 => .array .int
  | 5 => .array .int
  | 6 => .array .int
  | 7 => .array .int
  | 8 => .int
  | 9 => .array .int
  | 10 => .int
  | 11 => .int
  | 12 => .int
  | 13 => .int
  | 14 => .int
  | 15 => .int
  | 16 => .int
  | 17 => .int
  | 18 => .array .int
  | 19 => .array .int
  | 20 => .array .int
  | 21 => .array .int
  | 22 => .array .int
  | 23 => .array .int
  | 24 => .array .int
  | 25 => .array .int
  | 26 => .array .int
  | 27 => .array .int
  | 28 => .int
  | 29 => .int
  | 30 => .int
  | 31 => .int
  | 32 => .int
  | 33 => .array .int
  | 34 => .int
  | 35 => .long
  | 36 => .long
  | 37 => .array .boolean
  | 38 => .array .int
  | 39 => .array .int
  | _ => .int
abbrev wsX80 : List Cond := u_ws RX8 TX8 41
theorem nmX8 : ∀ a, a < 41 → ∀ b, b < 41 → a ≠ b → (TX8 a).2.1 ≠ (TX8 b).2.1 := by decide +kernel
theorem tyX8_ok : ∀ k, k < 41 → parseFieldDescriptor (TX8 k).2.2.1 = some (tyX8 k) := by decide +kernel
abbrev cX8_init : ByteArray := prog_10_method_1_code
def yX8_init : MethodName := ⟨RX8, "<init>", "()V"⟩
abbrev cX8_in : ByteArray := prog_10_method_3_code
def yX8_in : MethodName := ⟨RX8, "in", "(JJJ)Z"⟩
abbrev cX8_finding : ByteArray := prog_10_method_4_code
def yX8_finding : MethodName := ⟨RX8, "finding", "(I)I"⟩
abbrev cX8_isRow : ByteArray := prog_10_method_5_code
def yX8_isRow : MethodName := ⟨RX8, "isRow", "(I)Z"⟩
abbrev cX8_row : ByteArray := prog_10_method_6_code
def yX8_row : MethodName := ⟨RX8, "row", "(III)I"⟩
abbrev cX8_set : ByteArray := prog_10_method_7_code
def yX8_set : MethodName := ⟨RX8, "set", "(III)I"⟩
abbrev cX8_copy : ByteArray := prog_10_method_8_code
def yX8_copy : MethodName := ⟨RX8, "copy", "(IIIII)I"⟩
abbrev cX8_drop : ByteArray := prog_10_method_9_code
def yX8_drop : MethodName := ⟨RX8, "drop", "(I)I"⟩
abbrev cX8_feed : ByteArray := prog_10_method_10_code
def yX8_feed : MethodName := ⟨RX8, "feed", "(I)I"⟩
abbrev cX8_bad : ByteArray := prog_10_method_11_code
def yX8_bad : MethodName := ⟨RX8, "bad", "(I)V"⟩
abbrev cX8_nextToken : ByteArray := prog_10_method_12_code
def yX8_nextToken : MethodName := ⟨RX8, "nextToken", "()V"⟩
abbrev cX8_must : ByteArray := prog_10_method_13_code
def yX8_must : MethodName := ⟨RX8, "must", "(Z)V"⟩
abbrev cX8_isLetter : ByteArray := prog_10_method_14_code
def yX8_isLetter : MethodName := ⟨RX8, "isLetter", "(I)Z"⟩
abbrev cX8_number : ByteArray := prog_10_method_15_code
def yX8_number : MethodName := ⟨RX8, "number", "(II)I"⟩
abbrev cX8_mustSign : ByteArray := prog_10_method_16_code
def yX8_mustSign : MethodName := ⟨RX8, "mustSign", "(I)V"⟩
abbrev cX8_beginText : ByteArray := prog_10_method_17_code
def yX8_beginText : MethodName := ⟨RX8, "beginText", "()V"⟩
abbrev cX8_failed : ByteArray := prog_10_method_18_code
def yX8_failed : MethodName := ⟨RX8, "failed", "()Z"⟩
abbrev cX8_fault : ByteArray := prog_10_method_19_code
def yX8_fault : MethodName := ⟨RX8, "fault", "()I"⟩
abbrev cX8_kindBy : ByteArray := prog_10_method_20_code
def yX8_kindBy : MethodName := ⟨RX8, "kindBy", "(I)I"⟩
abbrev cX8_begins : ByteArray := prog_10_method_21_code
def yX8_begins : MethodName := ⟨RX8, "begins", "(II)V"⟩
abbrev cX8_readHens : ByteArray := prog_10_method_22_code
def yX8_readHens : MethodName := ⟨RX8, "readHens", "()V"⟩
abbrev cX8_readTree : ByteArray := prog_10_method_23_code
def yX8_readTree : MethodName := ⟨RX8, "readTree", "()V"⟩
abbrev cX8_readRaider : ByteArray := prog_10_method_24_code
def yX8_readRaider : MethodName := ⟨RX8, "readRaider", "()V"⟩
abbrev cX8_orchard : ByteArray := prog_10_method_25_code
def yX8_orchard : MethodName := ⟨RX8, "orchard", "()I"⟩
abbrev cX8_isThere : ByteArray := prog_10_method_26_code
def yX8_isThere : MethodName := ⟨RX8, "isThere", "()Z"⟩
abbrev cX8_isRaider : ByteArray := prog_10_method_27_code
def yX8_isRaider : MethodName := ⟨RX8, "isRaider", "(I)Z"⟩
abbrev cX8_isTree : ByteArray := prog_10_method_28_code
def yX8_isTree : MethodName := ⟨RX8, "isTree", "(I)Z"⟩
abbrev cX8_isCell : ByteArray := prog_10_method_29_code
def yX8_isCell : MethodName := ⟨RX8, "isCell", "(I)Z"⟩
abbrev cX8_of : ByteArray := prog_10_method_30_code
def yX8_of : MethodName := ⟨RX8, "of", "(II)I"⟩
abbrev cX8_isWatching : ByteArray := prog_10_method_31_code
def yX8_isWatching : MethodName := ⟨RX8, "isWatching", "(I)Z"⟩
abbrev cX8_farOf : ByteArray := prog_10_method_32_code
def yX8_farOf : MethodName := ⟨RX8, "farOf", "(II)I"⟩
abbrev cX8_cellOn : ByteArray := prog_10_method_33_code
def yX8_cellOn : MethodName := ⟨RX8, "cellOn", "(III)I"⟩
abbrev cX8_layPlans : ByteArray := prog_10_method_34_code
def yX8_layPlans : MethodName := ⟨RX8, "layPlans", "()V"⟩
abbrev cX8_layApples : ByteArray := prog_10_method_35_code
def yX8_layApples : MethodName := ⟨RX8, "layApples", "()V"⟩
abbrev cX8_paceOf : ByteArray := prog_10_method_36_code
def yX8_paceOf : MethodName := ⟨RX8, "paceOf", "(I)I"⟩
abbrev cX8_treeCell : ByteArray := prog_10_method_37_code
def yX8_treeCell : MethodName := ⟨RX8, "treeCell", "(I)I"⟩
abbrev cX8_cackle : ByteArray := prog_10_method_38_code
def yX8_cackle : MethodName := ⟨RX8, "cackle", "(I)V"⟩
abbrev cX8_walks : ByteArray := prog_10_method_39_code
def yX8_walks : MethodName := ⟨RX8, "walks", "(II)V"⟩
abbrev cX8_picks : ByteArray := prog_10_method_40_code
def yX8_picks : MethodName := ⟨RX8, "picks", "(I)V"⟩
abbrev cX8_isOver : ByteArray := prog_10_method_41_code
def yX8_isOver : MethodName := ⟨RX8, "isOver", "()Z"⟩
abbrev cX8_hears : ByteArray := prog_10_method_42_code
def yX8_hears : MethodName := ⟨RX8, "hears", "(I)V"⟩
abbrev cX8_raidOf : ByteArray := prog_10_method_43_code
def yX8_raidOf : MethodName := ⟨RX8, "raidOf", "(I)I"⟩
abbrev cX8_kindNow : ByteArray := prog_10_method_44_code
def yX8_kindNow : MethodName := ⟨RX8, "kindNow", "(I)I"⟩
abbrev cX8_gotOf : ByteArray := prog_10_method_45_code
def yX8_gotOf : MethodName := ⟨RX8, "gotOf", "(I)I"⟩
abbrev cX8_everybody : ByteArray := prog_10_method_46_code
def yX8_everybody : MethodName := ⟨RX8, "everybody", "()I"⟩
abbrev cX8_raidNow : ByteArray := prog_10_method_47_code
def yX8_raidNow : MethodName := ⟨RX8, "raidNow", "()I"⟩
abbrev cX8_withPlans : ByteArray := prog_10_method_48_code
def yX8_withPlans : MethodName := ⟨RX8, "withPlans", "()I"⟩
abbrev cX8_keep : ByteArray := prog_10_method_49_code
def yX8_keep : MethodName := ⟨RX8, "keep", "()V"⟩
abbrev cX8_plan : ByteArray := prog_10_method_50_code
def yX8_plan : MethodName := ⟨RX8, "plan", "(IIII)I"⟩
abbrev cX8_raid : ByteArray := prog_10_method_51_code
def yX8_raid : MethodName := ⟨RX8, "raid", "()I"⟩
abbrev cX8_grow : ByteArray := prog_10_method_52_code
def yX8_grow : MethodName := ⟨RX8, "grow", "(II)I"⟩
abbrev cX8_undo : ByteArray := prog_10_method_53_code
def yX8_undo : MethodName := ⟨RX8, "undo", "()I"⟩
abbrev cX8_write : ByteArray := prog_10_method_54_code
def yX8_write : MethodName := ⟨RX8, "write", "(II)I"⟩
abbrev cX8_tear : ByteArray := prog_10_method_55_code
def yX8_tear : MethodName := ⟨RX8, "tear", "()I"⟩
abbrev cX8_linesOf : ByteArray := prog_10_method_56_code
def yX8_linesOf : MethodName := ⟨RX8, "linesOf", "(IZ)I"⟩
abbrev cX8_common : ByteArray := prog_10_method_57_code
def yX8_common : MethodName := ⟨RX8, "common", "(JJ)J"⟩
abbrev cX8_sleep : ByteArray := prog_10_method_58_code
def yX8_sleep : MethodName := ⟨RX8, "sleep", "(II)I"⟩
abbrev cX8_quietest : ByteArray := prog_10_method_59_code
def yX8_quietest : MethodName := ⟨RX8, "quietest", "()I"⟩
abbrev cX8_raider : ByteArray := prog_10_method_60_code
def yX8_raider : MethodName := ⟨RX8, "raider", "(II)I"⟩
abbrev cX8_tree : ByteArray := prog_10_method_61_code
def yX8_tree : MethodName := ⟨RX8, "tree", "(II)I"⟩
abbrev cX8_far : ByteArray := prog_10_method_62_code
def yX8_far : MethodName := ⟨RX8, "far", "(II)I"⟩
abbrev cX8_ahead : ByteArray := prog_10_method_63_code
def yX8_ahead : MethodName := ⟨RX8, "ahead", "(I)I"⟩
abbrev cX8_raiderAhead : ByteArray := prog_10_method_64_code
def yX8_raiderAhead : MethodName := ⟨RX8, "raiderAhead", "(II)I"⟩
abbrev cX8_aloneOf : ByteArray := prog_10_method_65_code
def yX8_aloneOf : MethodName := ⟨RX8, "aloneOf", "(IIII)I"⟩
abbrev cX8_safe : ByteArray := prog_10_method_66_code
def yX8_safe : MethodName := ⟨RX8, "safe", "(III)I"⟩
abbrev cX8_bestAlone : ByteArray := prog_10_method_67_code
def yX8_bestAlone : MethodName := ⟨RX8, "bestAlone", "(II)I"⟩
abbrev cX8_watch : ByteArray := prog_10_method_68_code
def yX8_watch : MethodName := ⟨RX8, "watch", "(I)I"⟩
abbrev cX8_layValue : ByteArray := prog_10_method_69_code
def yX8_layValue : MethodName := ⟨RX8, "layValue", "(III)V"⟩
abbrev cX8_partsOf : ByteArray := prog_10_method_70_code
def yX8_partsOf : MethodName := ⟨RX8, "partsOf", "(IIIJ)J"⟩
abbrev cX8_bestDays : ByteArray := prog_10_method_71_code
def yX8_bestDays : MethodName := ⟨RX8, "bestDays", "(II)I"⟩
abbrev cX8_noDays : ByteArray := prog_10_method_72_code
def yX8_noDays : MethodName := ⟨RX8, "noDays", "(II)I"⟩
abbrev cX8_days : ByteArray := prog_10_method_73_code
def yX8_days : MethodName := ⟨RX8, "days", "(III)I"⟩
abbrev cX8_daysValue : ByteArray := prog_10_method_74_code
def yX8_daysValue : MethodName := ⟨RX8, "daysValue", "(IIIII)J"⟩
abbrev cX8_shares : ByteArray := prog_10_method_75_code
def yX8_shares : MethodName := ⟨RX8, "shares", "(II)I"⟩
abbrev cX8_bare : ByteArray := prog_10_method_76_code
def yX8_bare : MethodName := ⟨RX8, "bare", "(I)I"⟩
abbrev cX8_who : ByteArray := prog_10_method_77_code
def yX8_who : MethodName := ⟨RX8, "who", "(III)I"⟩
abbrev cX8_image : ByteArray := prog_10_method_78_code
def yX8_image : MethodName := ⟨RX8, "image", "(I)I"⟩
abbrev cX8_restore : ByteArray := prog_10_method_79_code
def yX8_restore : MethodName := ⟨RX8, "restore", "(I)I"⟩
abbrev cX8_isOf : ByteArray := prog_10_method_80_code
def yX8_isOf : MethodName := ⟨RX8, "isOf", "(II)Z"⟩
abbrev cX8_kind : ByteArray := prog_10_method_81_code
def yX8_kind : MethodName := ⟨RX8, "kind", "(I)I"⟩
abbrev cX8_as : ByteArray := prog_10_method_82_code
def yX8_as : MethodName := ⟨RX8, "as", "(II)I"⟩
abbrev cX8_began : ByteArray := prog_10_method_83_code
def yX8_began : MethodName := ⟨RX8, "began", "(I)V"⟩
abbrev cX8_plainSize : ByteArray := prog_10_method_84_code
def yX8_plainSize : MethodName := ⟨RX8, "plainSize", "(I)I"⟩
abbrev cX8_watchSize : ByteArray := prog_10_method_85_code
def yX8_watchSize : MethodName := ⟨RX8, "watchSize", "(I)I"⟩
abbrev cX8_markOf : ByteArray := prog_10_method_86_code
def yX8_markOf : MethodName := ⟨RX8, "markOf", "(I)I"⟩
abbrev cX8_sizeOf : ByteArray := prog_10_method_87_code
def yX8_sizeOf : MethodName := ⟨RX8, "sizeOf", "(I)I"⟩
abbrev cX8_ask : ByteArray := prog_10_method_88_code
def yX8_ask : MethodName := ⟨RX8, "ask", "(II)I"⟩
abbrev cX8_trace : ByteArray := prog_10_method_89_code
def yX8_trace : MethodName := ⟨RX8, "trace", "(I)I"⟩
abbrev cX8_count : ByteArray := prog_10_method_90_code
def yX8_count : MethodName := ⟨RX8, "count", "(I)I"⟩
abbrev cX8_status : ByteArray := prog_10_method_91_code
def yX8_status : MethodName := ⟨RX8, "status", "()I"⟩
def RJx145de : String := "java/io/Serializable"
def RJx9f9b0 : String := "java/lang/CharSequence"
def RJ11 : String := "java/lang/Character"
abbrev cJ11_isValidCodePoint_9a6ad : ByteArray := prog_11_method_11_code
def yJ11_isValidCodePoint_9a6ad : MethodName := ⟨RJ11, "isValidCodePoint", "(I)Z"⟩
abbrev cJ11_highSurrogate_5068e : ByteArray := prog_11_method_28_code
def yJ11_highSurrogate_5068e : MethodName := ⟨RJ11, "highSurrogate", "(I)C"⟩
abbrev cJ11_lowSurrogate_5068e : ByteArray := prog_11_method_29_code
def yJ11_lowSurrogate_5068e : MethodName := ⟨RJ11, "lowSurrogate", "(I)C"⟩
def RJxb160c : String := "java/lang/Comparable"
def RJ6 : String := "java/lang/Integer"
abbrev cJ6_bitCount_0f7a4 : ByteArray := prog_12_method_49_code
def yJ6_bitCount_0f7a4 : MethodName := ⟨RJ6, "bitCount", "(I)I"⟩
abbrev cJ6_signum_0f7a4 : ByteArray := prog_12_method_56_code
def yJ6_signum_0f7a4 : MethodName := ⟨RJ6, "signum", "(I)I"⟩
def RJ9 : String := "java/lang/Math"
abbrev cJ9_abs_0f7a4 : ByteArray := prog_13_method_59_code
def yJ9_abs_0f7a4 : MethodName := ⟨RJ9, "abs", "(I)I"⟩
abbrev cJ9_abs_067f4 : ByteArray := prog_13_method_61_code
def yJ9_abs_067f4 : MethodName := ⟨RJ9, "abs", "(J)J"⟩
abbrev cJ9_max_7cf53 : ByteArray := prog_13_method_65_code
def yJ9_max_7cf53 : MethodName := ⟨RJ9, "max", "(II)I"⟩
abbrev cJ9_min_7cf53 : ByteArray := prog_13_method_69_code
def yJ9_min_7cf53 : MethodName := ⟨RJ9, "min", "(II)I"⟩
def RJ0 : String := "java/lang/String"
abbrev cJ0_length_8abf5 : ByteArray := prog_14_method_54_code
def yJ0_length_8abf5 : MethodName := ⟨RJ0, "length", "()I"⟩
abbrev cJ0_indexOf_0f7a4 : ByteArray := prog_14_method_79_code
def yJ0_indexOf_0f7a4 : MethodName := ⟨RJ0, "indexOf", "(I)I"⟩
abbrev cJ0_indexOf_7cf53 : ByteArray := prog_14_method_80_code
def yJ0_indexOf_7cf53 : MethodName := ⟨RJ0, "indexOf", "(II)I"⟩
abbrev cJ0_coder_7d493 : ByteArray := prog_14_method_152_code
def yJ0_coder_7d493 : MethodName := ⟨RJ0, "coder", "()B"⟩
abbrev cJ0_isLatin1_aae02 : ByteArray := prog_14_method_154_code
def yJ0_isLatin1_aae02 : MethodName := ⟨RJ0, "isLatin1", "()Z"⟩
abbrev cJ0_checkBoundsBeginEnd_23922 : ByteArray := prog_14_method_158_code
def yJ0_checkBoundsBeginEnd_23922 : MethodName := ⟨RJ0, "checkBoundsBeginEnd", "(III)V"⟩
def RJ1 : String := "java/lang/StringLatin1"
abbrev cJ1_canEncode_9a6ad : ByteArray := prog_15_method_4_code
def yJ1_canEncode_9a6ad : MethodName := ⟨RJ1, "canEncode", "(I)Z"⟩
abbrev cJ1_indexOf_4cfef : ByteArray := prog_15_method_22_code
def yJ1_indexOf_4cfef : MethodName := ⟨RJ1, "indexOf", "([BIII)I"⟩
abbrev cJ1_indexOfChar_4cfef : ByteArray := prog_15_method_23_code
def yJ1_indexOfChar_4cfef : MethodName := ⟨RJ1, "indexOfChar", "([BIII)I"⟩
def RJ2 : String := "java/lang/StringUTF16"
abbrev cJ2_getChar_3b067 : ByteArray := prog_16_method_5_code
def yJ2_getChar_3b067 : MethodName := ⟨RJ2, "getChar", "([BI)C"⟩
abbrev cJ2_length_9d52b : ByteArray := prog_16_method_6_code
def yJ2_length_9d52b : MethodName := ⟨RJ2, "length", "([B)I"⟩
abbrev cJ2_indexOf_4cfef : ByteArray := prog_16_method_40_code
def yJ2_indexOf_4cfef : MethodName := ⟨RJ2, "indexOf", "([BIII)I"⟩
abbrev cJ2_indexOfChar_4cfef : ByteArray := prog_16_method_47_code
def yJ2_indexOfChar_4cfef : MethodName := ⟨RJ2, "indexOfChar", "([BIII)I"⟩
abbrev cJ2_indexOfCharUnsafe_4cfef : ByteArray := prog_16_method_48_code
def yJ2_indexOfCharUnsafe_4cfef : MethodName := ⟨RJ2, "indexOfCharUnsafe", "([BIII)I"⟩
abbrev cJ2_indexOfSupplementary_4cfef : ByteArray := prog_16_method_49_code
def yJ2_indexOfSupplementary_4cfef : MethodName := ⟨RJ2, "indexOfSupplementary", "([BIII)I"⟩
abbrev cJ2_checkBoundsBeginEnd_d044e : ByteArray := prog_16_method_93_code
def yJ2_checkBoundsBeginEnd_d044e : MethodName := ⟨RJ2, "checkBoundsBeginEnd", "(II[B)V"⟩
def RJ10 : String := "java/lang/System"
def RJxfd54e : String := "java/lang/constant/Constable"
def RJx3cf43 : String := "java/lang/constant/ConstantDesc"
def RJ7 : String := "java/util/Arrays"
abbrev cJ7_fill_53178 : ByteArray := prog_18_method_103_code
def yJ7_fill_53178 : MethodName := ⟨RJ7, "fill", "([II)V"⟩
def RJ3 : String := "jdk/internal/util/Preconditions"
abbrev cJ3_checkFromToIndex_8c36e : ByteArray := prog_19_method_12_code
def yJ3_checkFromToIndex_8c36e : MethodName := ⟨RJ3, "checkFromToIndex", "(IIILjava/util/function/BiFunction;)I"⟩
def RL : String := "OrchardWallLaw"
abbrev cL_law : ByteArray := code
def yL_law : MethodName := ⟨RL, "law", "([I)Z"⟩
abbrev vwCl : List vw_C := [(RX0, TX0, 3), (RX1, TX1, 3), (RX2, TX2, 4), (RX3, TX3, 15), (RX4, TX4, 17), (RX5, TX5, 7), (RX6, TX6, 3), (RX7, TX7, 14), (RX8, TX8, 41)]
end
section
theorem dX0_init_0 : decode cX0_init 0 = .ok (.aload_n 0, 1) := by decide +kernel
theorem dX0_init_1 : decode cX0_init 1 = .ok (.invokespecial 3, 3) := by decide +kernel
theorem dX0_init_4 : decode cX0_init 4 = .ok (.aload_n 0, 1) := by decide +kernel
theorem dX0_init_5 : decode cX0_init 5 = .ok (.bipush 24, 2) := by decide +kernel
theorem dX0_init_7 : decode cX0_init 7 = .ok (.bipush 24, 2) := by decide +kernel
theorem dX0_init_9 : decode cX0_init 9 = .ok (.multianewarray 11 2, 4) := by decide +kernel
theorem dX0_init_13 : decode cX0_init 13 = .ok (.putfield 13, 3) := by decide +kernel
theorem dX0_init_16 : decode cX0_init 16 = .ok (.aload_n 0, 1) := by decide +kernel
theorem dX0_init_17 : decode cX0_init 17 = .ok (.iconst 0, 1) := by decide +kernel
theorem dX0_init_18 : decode cX0_init 18 = .ok (.putfield 16, 3) := by decide +kernel
theorem dX0_init_21 : decode cX0_init 21 = .ok (.aload_n 0, 1) := by decide +kernel
theorem dX0_init_22 : decode cX0_init 22 = .ok (.iconst 0, 1) := by decide +kernel
theorem dX0_init_23 : decode cX0_init 23 = .ok (.putfield 20, 3) := by decide +kernel
theorem dX0_init_26 : decode cX0_init 26 = .ok (.return_, 1) := by decide +kernel
theorem dX0_keep_0 : decode cX0_keep 0 = .ok (.aload_n 1, 1) := by decide +kernel
theorem dX0_keep_1 : decode cX0_keep 1 = .ok (.getfield 23, 3) := by decide +kernel
theorem dX0_keep_4 : decode cX0_keep 4 = .ok (.iconst 0, 1) := by decide +kernel
theorem dX0_keep_5 : decode cX0_keep 5 = .ok (.aload_n 0, 1) := by decide +kernel
theorem dX0_keep_6 : decode cX0_keep 6 = .ok (.getfield 13, 3) := by decide +kernel
theorem dX0_keep_9 : decode cX0_keep 9 = .ok (.aload_n 0, 1) := by decide +kernel
theorem dX0_keep_10 : decode cX0_keep 10 = .ok (.getfield 16, 3) := by decide +kernel
theorem dX0_keep_13 : decode cX0_keep 13 = .ok (.aaload, 1) := by decide +kernel
theorem dX0_keep_14 : decode cX0_keep 14 = .ok (.iconst 0, 1) := by decide +kernel
theorem dX0_keep_15 : decode cX0_keep 15 = .ok (.bipush 24, 2) := by decide +kernel
theorem dX0_keep_17 : decode cX0_keep 17 = .ok (.invokestatic 29, 3) := by decide +kernel
theorem dX0_keep_20 : decode cX0_keep 20 = .ok (.aload_n 0, 1) := by decide +kernel
theorem dX0_keep_21 : decode cX0_keep 21 = .ok (.aload_n 0, 1) := by decide +kernel
theorem dX0_keep_22 : decode cX0_keep 22 = .ok (.getfield 16, 3) := by decide +kernel
theorem dX0_keep_25 : decode cX0_keep 25 = .ok (.iconst 1, 1) := by decide +kernel
theorem dX0_keep_26 : decode cX0_keep 26 = .ok (.iadd, 1) := by decide +kernel
theorem dX0_keep_27 : decode cX0_keep 27 = .ok (.bipush 24, 2) := by decide +kernel
theorem dX0_keep_29 : decode cX0_keep 29 = .ok (.irem, 1) := by decide +kernel
theorem dX0_keep_30 : decode cX0_keep 30 = .ok (.putfield 16, 3) := by decide +kernel
theorem dX0_keep_33 : decode cX0_keep 33 = .ok (.aload_n 0, 1) := by decide +kernel
theorem dX0_keep_34 : decode cX0_keep 34 = .ok (.aload_n 0, 1) := by decide +kernel
theorem dX0_keep_35 : decode cX0_keep 35 = .ok (.getfield 20, 3) := by decide +kernel
theorem dX0_keep_38 : decode cX0_keep 38 = .ok (.iconst 1, 1) := by decide +kernel
theorem dX0_keep_39 : decode cX0_keep 39 = .ok (.iadd, 1) := by decide +kernel
theorem dX0_keep_40 : decode cX0_keep 40 = .ok (.bipush 24, 2) := by decide +kernel
theorem dX0_keep_42 : decode cX0_keep 42 = .ok (.invokestatic 35, 3) := by decide +kernel
theorem dX0_keep_45 : decode cX0_keep 45 = .ok (.putfield 20, 3) := by decide +kernel
theorem dX0_keep_48 : decode cX0_keep 48 = .ok (.return_, 1) := by decide +kernel
theorem dX0_takeBack_0 : decode cX0_takeBack 0 = .ok (.aload_n 0, 1) := by decide +kernel
theorem dX0_takeBack_1 : decode cX0_takeBack 1 = .ok (.getfield 20, 3) := by decide +kernel
theorem dX0_takeBack_4 : decode cX0_takeBack 4 = .ok (.ifCond .ne 5, 3) := by decide +kernel
theorem dX0_takeBack_7 : decode cX0_takeBack 7 = .ok (.iconst 0, 1) := by decide +kernel
theorem dX0_takeBack_8 : decode cX0_takeBack 8 = .ok (.ireturn, 1) := by decide +kernel
theorem dX0_takeBack_9 : decode cX0_takeBack 9 = .ok (.aload_n 0, 1) := by decide +kernel
theorem dX0_takeBack_10 : decode cX0_takeBack 10 = .ok (.aload_n 0, 1) := by decide +kernel
theorem dX0_takeBack_11 : decode cX0_takeBack 11 = .ok (.getfield 16, 3) := by decide +kernel
theorem dX0_takeBack_14 : decode cX0_takeBack 14 = .ok (.bipush 24, 2) := by decide +kernel
theorem dX0_takeBack_16 : decode cX0_takeBack 16 = .ok (.iadd, 1) := by decide +kernel
theorem dX0_takeBack_17 : decode cX0_takeBack 17 = .ok (.iconst 1, 1) := by decide +kernel
theorem dX0_takeBack_18 : decode cX0_takeBack 18 = .ok (.isub, 1) := by decide +kernel
theorem dX0_takeBack_19 : decode cX0_takeBack 19 = .ok (.bipush 24, 2) := by decide +kernel
theorem dX0_takeBack_21 : decode cX0_takeBack 21 = .ok (.irem, 1) := by decide +kernel
theorem dX0_takeBack_22 : decode cX0_takeBack 22 = .ok (.putfield 16, 3) := by decide +kernel
theorem dX0_takeBack_25 : decode cX0_takeBack 25 = .ok (.aload_n 0, 1) := by decide +kernel
theorem dX0_takeBack_26 : decode cX0_takeBack 26 = .ok (.dup, 1) := by decide +kernel
theorem dX0_takeBack_27 : decode cX0_takeBack 27 = .ok (.getfield 20, 3) := by decide +kernel
theorem dX0_takeBack_30 : decode cX0_takeBack 30 = .ok (.iconst 1, 1) := by decide +kernel
theorem dX0_takeBack_31 : decode cX0_takeBack 31 = .ok (.isub, 1) := by decide +kernel
theorem dX0_takeBack_32 : decode cX0_takeBack 32 = .ok (.putfield 20, 3) := by decide +kernel
theorem dX0_takeBack_35 : decode cX0_takeBack 35 = .ok (.aload_n 0, 1) := by decide +kernel
theorem dX0_takeBack_36 : decode cX0_takeBack 36 = .ok (.getfield 13, 3) := by decide +kernel
theorem dX0_takeBack_39 : decode cX0_takeBack 39 = .ok (.aload_n 0, 1) := by decide +kernel
theorem dX0_takeBack_40 : decode cX0_takeBack 40 = .ok (.getfield 16, 3) := by decide +kernel
theorem dX0_takeBack_43 : decode cX0_takeBack 43 = .ok (.aaload, 1) := by decide +kernel
theorem dX0_takeBack_44 : decode cX0_takeBack 44 = .ok (.iconst 0, 1) := by decide +kernel
theorem dX0_takeBack_45 : decode cX0_takeBack 45 = .ok (.aload_n 1, 1) := by decide +kernel
theorem dX0_takeBack_46 : decode cX0_takeBack 46 = .ok (.getfield 23, 3) := by decide +kernel
theorem dX0_takeBack_49 : decode cX0_takeBack 49 = .ok (.iconst 0, 1) := by decide +kernel
theorem dX0_takeBack_50 : decode cX0_takeBack 50 = .ok (.bipush 24, 2) := by decide +kernel
theorem dX0_takeBack_52 : decode cX0_takeBack 52 = .ok (.invokestatic 29, 3) := by decide +kernel
theorem dX0_takeBack_55 : decode cX0_takeBack 55 = .ok (.iconst 1, 1) := by decide +kernel
theorem dX0_takeBack_56 : decode cX0_takeBack 56 = .ok (.ireturn, 1) := by decide +kernel
theorem dX0_forget_0 : decode cX0_forget 0 = .ok (.aload_n 0, 1) := by decide +kernel
theorem dX0_forget_1 : decode cX0_forget 1 = .ok (.iconst 0, 1) := by decide +kernel
theorem dX0_forget_2 : decode cX0_forget 2 = .ok (.putfield 20, 3) := by decide +kernel
theorem dX0_forget_5 : decode cX0_forget 5 = .ok (.return_, 1) := by decide +kernel
theorem dX1_init_0 : decode cX1_init 0 = .ok (.aload_n 0, 1) := by decide +kernel
theorem dX1_init_1 : decode cX1_init 1 = .ok (.invokespecial 3, 3) := by decide +kernel
theorem dX1_init_4 : decode cX1_init 4 = .ok (.aload_n 0, 1) := by decide +kernel
theorem dX1_init_5 : decode cX1_init 5 = .ok (.bipush 16, 2) := by decide +kernel
theorem dX1_init_7 : decode cX1_init 7 = .ok (.newarray .int, 2) := by decide +kernel
theorem dX1_init_9 : decode cX1_init 9 = .ok (.putfield 11, 3) := by decide +kernel
theorem dX1_init_12 : decode cX1_init 12 = .ok (.aload_n 0, 1) := by decide +kernel
theorem dX1_init_13 : decode cX1_init 13 = .ok (.bipush 16, 2) := by decide +kernel
theorem dX1_init_15 : decode cX1_init 15 = .ok (.newarray .int, 2) := by decide +kernel
theorem dX1_init_17 : decode cX1_init 17 = .ok (.putfield 15, 3) := by decide +kernel
theorem dX1_init_20 : decode cX1_init 20 = .ok (.aload_n 0, 1) := by decide +kernel
theorem dX1_init_21 : decode cX1_init 21 = .ok (.iconst 0, 1) := by decide +kernel
theorem dX1_init_22 : decode cX1_init 22 = .ok (.putfield 18, 3) := by decide +kernel
theorem dX1_init_25 : decode cX1_init 25 = .ok (.return_, 1) := by decide +kernel
theorem dX1_isFull_0 : decode cX1_isFull 0 = .ok (.aload_n 0, 1) := by decide +kernel
theorem dX1_isFull_1 : decode cX1_isFull 1 = .ok (.getfield 18, 3) := by decide +kernel
theorem dX1_isFull_4 : decode cX1_isFull 4 = .ok (.bipush 16, 2) := by decide +kernel
theorem dX1_isFull_6 : decode cX1_isFull 6 = .ok (.if_icmp .lt 7, 3) := by decide +kernel
theorem dX1_isFull_9 : decode cX1_isFull 9 = .ok (.iconst 1, 1) := by decide +kernel
theorem dX1_isFull_10 : decode cX1_isFull 10 = .ok (.goto 4, 3) := by decide +kernel
theorem dX1_isFull_13 : decode cX1_isFull 13 = .ok (.iconst 0, 1) := by decide +kernel
theorem dX1_isFull_14 : decode cX1_isFull 14 = .ok (.ireturn, 1) := by decide +kernel
theorem dX1_append_0 : decode cX1_append 0 = .ok (.aload_n 0, 1) := by decide +kernel
theorem dX1_append_1 : decode cX1_append 1 = .ok (.getfield 11, 3) := by decide +kernel
theorem dX1_append_4 : decode cX1_append 4 = .ok (.aload_n 0, 1) := by decide +kernel
theorem dX1_append_5 : decode cX1_append 5 = .ok (.getfield 18, 3) := by decide +kernel
theorem dX1_append_8 : decode cX1_append 8 = .ok (.iload_n 1, 1) := by decide +kernel
theorem dX1_append_9 : decode cX1_append 9 = .ok (.iastore, 1) := by decide +kernel
theorem dX1_append_10 : decode cX1_append 10 = .ok (.aload_n 0, 1) := by decide +kernel
theorem dX1_append_11 : decode cX1_append 11 = .ok (.getfield 15, 3) := by decide +kernel
theorem dX1_append_14 : decode cX1_append 14 = .ok (.aload_n 0, 1) := by decide +kernel
theorem dX1_append_15 : decode cX1_append 15 = .ok (.getfield 18, 3) := by decide +kernel
theorem dX1_append_18 : decode cX1_append 18 = .ok (.iload_n 2, 1) := by decide +kernel
theorem dX1_append_19 : decode cX1_append 19 = .ok (.iastore, 1) := by decide +kernel
theorem dX1_append_20 : decode cX1_append 20 = .ok (.aload_n 0, 1) := by decide +kernel
theorem dX1_append_21 : decode cX1_append 21 = .ok (.dup, 1) := by decide +kernel
theorem dX1_append_22 : decode cX1_append 22 = .ok (.getfield 18, 3) := by decide +kernel
theorem dX1_append_25 : decode cX1_append 25 = .ok (.iconst 1, 1) := by decide +kernel
theorem dX1_append_26 : decode cX1_append 26 = .ok (.iadd, 1) := by decide +kernel
theorem dX1_append_27 : decode cX1_append 27 = .ok (.putfield 18, 3) := by decide +kernel
theorem dX1_append_30 : decode cX1_append 30 = .ok (.aload_n 0, 1) := by decide +kernel
theorem dX1_append_31 : decode cX1_append 31 = .ok (.getfield 18, 3) := by decide +kernel
theorem dX1_append_34 : decode cX1_append 34 = .ok (.ireturn, 1) := by decide +kernel
theorem dX1_empty_0 : decode cX1_empty 0 = .ok (.aload_n 0, 1) := by decide +kernel
theorem dX1_empty_1 : decode cX1_empty 1 = .ok (.getfield 18, 3) := by decide +kernel
theorem dX1_empty_4 : decode cX1_empty 4 = .ok (.istore_n 1, 1) := by decide +kernel
theorem dX1_empty_5 : decode cX1_empty 5 = .ok (.aload_n 0, 1) := by decide +kernel
theorem dX1_empty_6 : decode cX1_empty 6 = .ok (.iconst 0, 1) := by decide +kernel
theorem dX1_empty_7 : decode cX1_empty 7 = .ok (.putfield 18, 3) := by decide +kernel
theorem dX1_empty_10 : decode cX1_empty 10 = .ok (.iload_n 1, 1) := by decide +kernel
theorem dX1_empty_11 : decode cX1_empty 11 = .ok (.ireturn, 1) := by decide +kernel
theorem dX1_linesOf_0 : decode cX1_linesOf 0 = .ok (.iconst 0, 1) := by decide +kernel
theorem dX1_linesOf_1 : decode cX1_linesOf 1 = .ok (.istore_n 2, 1) := by decide +kernel
theorem dX1_linesOf_2 : decode cX1_linesOf 2 = .ok (.iconst 0, 1) := by decide +kernel
theorem dX1_linesOf_3 : decode cX1_linesOf 3 = .ok (.istore_n 3, 1) := by decide +kernel
theorem dX1_linesOf_4 : decode cX1_linesOf 4 = .ok (.iload_n 3, 1) := by decide +kernel
theorem dX1_linesOf_5 : decode cX1_linesOf 5 = .ok (.aload_n 0, 1) := by decide +kernel
theorem dX1_linesOf_6 : decode cX1_linesOf 6 = .ok (.getfield 18, 3) := by decide +kernel
theorem dX1_linesOf_9 : decode cX1_linesOf 9 = .ok (.if_icmp .ge 22, 3) := by decide +kernel
theorem dX1_linesOf_12 : decode cX1_linesOf 12 = .ok (.aload_n 0, 1) := by decide +kernel
theorem dX1_linesOf_13 : decode cX1_linesOf 13 = .ok (.getfield 11, 3) := by decide +kernel
theorem dX1_linesOf_16 : decode cX1_linesOf 16 = .ok (.iload_n 3, 1) := by decide +kernel
theorem dX1_linesOf_17 : decode cX1_linesOf 17 = .ok (.iaload, 1) := by decide +kernel
theorem dX1_linesOf_18 : decode cX1_linesOf 18 = .ok (.iload_n 1, 1) := by decide +kernel
theorem dX1_linesOf_19 : decode cX1_linesOf 19 = .ok (.if_icmp .ne 6, 3) := by decide +kernel
theorem dX1_linesOf_22 : decode cX1_linesOf 22 = .ok (.iinc 2 1, 3) := by decide +kernel
theorem dX1_linesOf_25 : decode cX1_linesOf 25 = .ok (.iinc 3 1, 3) := by decide +kernel
theorem dX1_linesOf_28 : decode cX1_linesOf 28 = .ok (.goto (-24), 3) := by decide +kernel
theorem dX1_linesOf_31 : decode cX1_linesOf 31 = .ok (.iload_n 2, 1) := by decide +kernel
theorem dX1_linesOf_32 : decode cX1_linesOf 32 = .ok (.ireturn, 1) := by decide +kernel
theorem dX1_sleptIn_0 : decode cX1_sleptIn 0 = .ok (.iconst 0, 1) := by decide +kernel
theorem dX1_sleptIn_1 : decode cX1_sleptIn 1 = .ok (.istore_n 2, 1) := by decide +kernel
theorem dX1_sleptIn_2 : decode cX1_sleptIn 2 = .ok (.iconst 0, 1) := by decide +kernel
theorem dX1_sleptIn_3 : decode cX1_sleptIn 3 = .ok (.istore_n 3, 1) := by decide +kernel
theorem dX1_sleptIn_4 : decode cX1_sleptIn 4 = .ok (.iload_n 3, 1) := by decide +kernel
theorem dX1_sleptIn_5 : decode cX1_sleptIn 5 = .ok (.aload_n 0, 1) := by decide +kernel
theorem dX1_sleptIn_6 : decode cX1_sleptIn 6 = .ok (.getfield 18, 3) := by decide +kernel
theorem dX1_sleptIn_9 : decode cX1_sleptIn 9 = .ok (.if_icmp .ge 28, 3) := by decide +kernel
theorem dX1_sleptIn_12 : decode cX1_sleptIn 12 = .ok (.aload_n 0, 1) := by decide +kernel
theorem dX1_sleptIn_13 : decode cX1_sleptIn 13 = .ok (.getfield 11, 3) := by decide +kernel
theorem dX1_sleptIn_16 : decode cX1_sleptIn 16 = .ok (.iload_n 3, 1) := by decide +kernel
theorem dX1_sleptIn_17 : decode cX1_sleptIn 17 = .ok (.iaload, 1) := by decide +kernel
theorem dX1_sleptIn_18 : decode cX1_sleptIn 18 = .ok (.iload_n 1, 1) := by decide +kernel
theorem dX1_sleptIn_19 : decode cX1_sleptIn 19 = .ok (.if_icmp .ne 12, 3) := by decide +kernel
theorem dX1_sleptIn_22 : decode cX1_sleptIn 22 = .ok (.iload_n 2, 1) := by decide +kernel
theorem dX1_sleptIn_23 : decode cX1_sleptIn 23 = .ok (.aload_n 0, 1) := by decide +kernel
theorem dX1_sleptIn_24 : decode cX1_sleptIn 24 = .ok (.getfield 15, 3) := by decide +kernel
theorem dX1_sleptIn_27 : decode cX1_sleptIn 27 = .ok (.iload_n 3, 1) := by decide +kernel
theorem dX1_sleptIn_28 : decode cX1_sleptIn 28 = .ok (.iaload, 1) := by decide +kernel
theorem dX1_sleptIn_29 : decode cX1_sleptIn 29 = .ok (.iadd, 1) := by decide +kernel
theorem dX1_sleptIn_30 : decode cX1_sleptIn 30 = .ok (.istore_n 2, 1) := by decide +kernel
theorem dX1_sleptIn_31 : decode cX1_sleptIn 31 = .ok (.iinc 3 1, 3) := by decide +kernel
theorem dX1_sleptIn_34 : decode cX1_sleptIn 34 = .ok (.goto (-30), 3) := by decide +kernel
theorem dX1_sleptIn_37 : decode cX1_sleptIn 37 = .ok (.iload_n 2, 1) := by decide +kernel
theorem dX1_sleptIn_38 : decode cX1_sleptIn 38 = .ok (.ireturn, 1) := by decide +kernel
theorem dX1_quietestHour_0 : decode cX1_quietestHour 0 = .ok (.ldc 22, 2) := by decide +kernel
theorem dX1_quietestHour_2 : decode cX1_quietestHour 2 = .ok (.istore_n 1, 1) := by decide +kernel
theorem dX1_quietestHour_3 : decode cX1_quietestHour 3 = .ok (.iconst 0, 1) := by decide +kernel
theorem dX1_quietestHour_4 : decode cX1_quietestHour 4 = .ok (.istore_n 2, 1) := by decide +kernel
theorem dX1_quietestHour_5 : decode cX1_quietestHour 5 = .ok (.iconst 0, 1) := by decide +kernel
theorem dX1_quietestHour_6 : decode cX1_quietestHour 6 = .ok (.istore_n 3, 1) := by decide +kernel
theorem dX1_quietestHour_7 : decode cX1_quietestHour 7 = .ok (.iconst 0, 1) := by decide +kernel
theorem dX1_quietestHour_8 : decode cX1_quietestHour 8 = .ok (.istore 4, 2) := by decide +kernel
theorem dX1_quietestHour_10 : decode cX1_quietestHour 10 = .ok (.iload 4, 2) := by decide +kernel
theorem dX1_quietestHour_12 : decode cX1_quietestHour 12 = .ok (.bipush 24, 2) := by decide +kernel
theorem dX1_quietestHour_14 : decode cX1_quietestHour 14 = .ok (.if_icmp .ge 54, 3) := by decide +kernel
theorem dX1_quietestHour_17 : decode cX1_quietestHour 17 = .ok (.aload_n 0, 1) := by decide +kernel
theorem dX1_quietestHour_18 : decode cX1_quietestHour 18 = .ok (.iload 4, 2) := by decide +kernel
theorem dX1_quietestHour_20 : decode cX1_quietestHour 20 = .ok (.invokevirtual 23, 3) := by decide +kernel
theorem dX1_quietestHour_23 : decode cX1_quietestHour 23 = .ok (.istore 5, 2) := by decide +kernel
theorem dX1_quietestHour_25 : decode cX1_quietestHour 25 = .ok (.aload_n 0, 1) := by decide +kernel
theorem dX1_quietestHour_26 : decode cX1_quietestHour 26 = .ok (.iload 4, 2) := by decide +kernel
theorem dX1_quietestHour_28 : decode cX1_quietestHour 28 = .ok (.invokevirtual 27, 3) := by decide +kernel
theorem dX1_quietestHour_31 : decode cX1_quietestHour 31 = .ok (.istore 6, 2) := by decide +kernel
theorem dX1_quietestHour_33 : decode cX1_quietestHour 33 = .ok (.iload 6, 2) := by decide +kernel
theorem dX1_quietestHour_35 : decode cX1_quietestHour 35 = .ok (.ifCond .le 27, 3) := by decide +kernel
theorem dX1_quietestHour_38 : decode cX1_quietestHour 38 = .ok (.iload_n 3, 1) := by decide +kernel
theorem dX1_quietestHour_39 : decode cX1_quietestHour 39 = .ok (.ifCond .eq 14, 3) := by decide +kernel
theorem dX1_quietestHour_42 : decode cX1_quietestHour 42 = .ok (.iload 5, 2) := by decide +kernel
theorem dX1_quietestHour_44 : decode cX1_quietestHour 44 = .ok (.iload_n 3, 1) := by decide +kernel
theorem dX1_quietestHour_45 : decode cX1_quietestHour 45 = .ok (.imul, 1) := by decide +kernel
theorem dX1_quietestHour_46 : decode cX1_quietestHour 46 = .ok (.iload_n 2, 1) := by decide +kernel
theorem dX1_quietestHour_47 : decode cX1_quietestHour 47 = .ok (.iload 6, 2) := by decide +kernel
theorem dX1_quietestHour_49 : decode cX1_quietestHour 49 = .ok (.imul, 1) := by decide +kernel
theorem dX1_quietestHour_50 : decode cX1_quietestHour 50 = .ok (.if_icmp .le 12, 3) := by decide +kernel
theorem dX1_quietestHour_53 : decode cX1_quietestHour 53 = .ok (.iload 4, 2) := by decide +kernel
theorem dX1_quietestHour_55 : decode cX1_quietestHour 55 = .ok (.istore_n 1, 1) := by decide +kernel
theorem dX1_quietestHour_56 : decode cX1_quietestHour 56 = .ok (.iload 5, 2) := by decide +kernel
theorem dX1_quietestHour_58 : decode cX1_quietestHour 58 = .ok (.istore_n 2, 1) := by decide +kernel
theorem dX1_quietestHour_59 : decode cX1_quietestHour 59 = .ok (.iload 6, 2) := by decide +kernel
theorem dX1_quietestHour_61 : decode cX1_quietestHour 61 = .ok (.istore_n 3, 1) := by decide +kernel
theorem dX1_quietestHour_62 : decode cX1_quietestHour 62 = .ok (.iinc 4 1, 3) := by decide +kernel
theorem dX1_quietestHour_65 : decode cX1_quietestHour 65 = .ok (.goto (-55), 3) := by decide +kernel
theorem dX1_quietestHour_68 : decode cX1_quietestHour 68 = .ok (.iload_n 1, 1) := by decide +kernel
theorem dX1_quietestHour_69 : decode cX1_quietestHour 69 = .ok (.ireturn, 1) := by decide +kernel
theorem dX2_init_0 : decode cX2_init 0 = .ok (.aload_n 0, 1) := by decide +kernel
theorem dX2_init_1 : decode cX2_init 1 = .ok (.invokespecial 3, 3) := by decide +kernel
theorem dX2_init_4 : decode cX2_init 4 = .ok (.aload_n 0, 1) := by decide +kernel
theorem dX2_init_5 : decode cX2_init 5 = .ok (.bipush 6, 2) := by decide +kernel
theorem dX2_init_7 : decode cX2_init 7 = .ok (.newarray .int, 2) := by decide +kernel
theorem dX2_init_9 : decode cX2_init 9 = .ok (.putfield 9, 3) := by decide +kernel
theorem dX2_init_12 : decode cX2_init 12 = .ok (.aload_n 0, 1) := by decide +kernel
theorem dX2_init_13 : decode cX2_init 13 = .ok (.iconst 0, 1) := by decide +kernel
theorem dX2_init_14 : decode cX2_init 14 = .ok (.putfield 15, 3) := by decide +kernel
theorem dX2_init_17 : decode cX2_init 17 = .ok (.aload_n 0, 1) := by decide +kernel
theorem dX2_init_18 : decode cX2_init 18 = .ok (.lconst 0, 1) := by decide +kernel
theorem dX2_init_19 : decode cX2_init 19 = .ok (.putfield 19, 3) := by decide +kernel
theorem dX2_init_22 : decode cX2_init 22 = .ok (.aload_n 0, 1) := by decide +kernel
theorem dX2_init_23 : decode cX2_init 23 = .ok (.lconst 1, 1) := by decide +kernel
theorem dX2_init_24 : decode cX2_init 24 = .ok (.putfield 23, 3) := by decide +kernel
theorem dX2_init_27 : decode cX2_init 27 = .ok (.return_, 1) := by decide +kernel
theorem dX2_solve_0 : decode cX2_solve 0 = .ok (.aload_n 0, 1) := by decide +kernel
theorem dX2_solve_1 : decode cX2_solve 1 = .ok (.iconst 0, 1) := by decide +kernel
theorem dX2_solve_2 : decode cX2_solve 2 = .ok (.putfield 15, 3) := by decide +kernel
theorem dX2_solve_5 : decode cX2_solve 5 = .ok (.iconst 1, 1) := by decide +kernel
theorem dX2_solve_6 : decode cX2_solve 6 = .ok (.istore_n 2, 1) := by decide +kernel
theorem dX2_solve_7 : decode cX2_solve 7 = .ok (.iload_n 2, 1) := by decide +kernel
theorem dX2_solve_8 : decode cX2_solve 8 = .ok (.bipush 64, 2) := by decide +kernel
theorem dX2_solve_10 : decode cX2_solve 10 = .ok (.if_icmp .ge 105, 3) := by decide +kernel
theorem dX2_solve_13 : decode cX2_solve 13 = .ok (.aload_n 0, 1) := by decide +kernel
theorem dX2_solve_14 : decode cX2_solve 14 = .ok (.iload_n 2, 1) := by decide +kernel
theorem dX2_solve_15 : decode cX2_solve 15 = .ok (.invokevirtual 26, 3) := by decide +kernel
theorem dX2_solve_18 : decode cX2_solve 18 = .ok (.lstore_n 3, 1) := by decide +kernel
theorem dX2_solve_19 : decode cX2_solve 19 = .ok (.aload_n 0, 1) := by decide +kernel
theorem dX2_solve_20 : decode cX2_solve 20 = .ok (.iload_n 2, 1) := by decide +kernel
theorem dX2_solve_21 : decode cX2_solve 21 = .ok (.lload_n 3, 1) := by decide +kernel
theorem dX2_solve_22 : decode cX2_solve 22 = .ok (.invokevirtual 30, 3) := by decide +kernel
theorem dX2_solve_25 : decode cX2_solve 25 = .ok (.lstore 5, 2) := by decide +kernel
theorem dX2_solve_27 : decode cX2_solve 27 = .ok (.iload_n 2, 1) := by decide +kernel
theorem dX2_solve_28 : decode cX2_solve 28 = .ok (.invokestatic 34, 3) := by decide +kernel
theorem dX2_solve_31 : decode cX2_solve 31 = .ok (.iconst 1, 1) := by decide +kernel
theorem dX2_solve_32 : decode cX2_solve 32 = .ok (.isub, 1) := by decide +kernel
theorem dX2_solve_33 : decode cX2_solve 33 = .ok (.i2l, 1) := by decide +kernel
theorem dX2_solve_34 : decode cX2_solve 34 = .ok (.lload_n 3, 1) := by decide +kernel
theorem dX2_solve_35 : decode cX2_solve 35 = .ok (.lmul, 1) := by decide +kernel
theorem dX2_solve_36 : decode cX2_solve 36 = .ok (.iload_n 1, 1) := by decide +kernel
theorem dX2_solve_37 : decode cX2_solve 37 = .ok (.i2l, 1) := by decide +kernel
theorem dX2_solve_38 : decode cX2_solve 38 = .ok (.lload 5, 2) := by decide +kernel
theorem dX2_solve_40 : decode cX2_solve 40 = .ok (.lmul, 1) := by decide +kernel
theorem dX2_solve_41 : decode cX2_solve 41 = .ok (.lsub, 1) := by decide +kernel
theorem dX2_solve_42 : decode cX2_solve 42 = .ok (.lstore 7, 2) := by decide +kernel
theorem dX2_solve_44 : decode cX2_solve 44 = .ok (.lload 7, 2) := by decide +kernel
theorem dX2_solve_46 : decode cX2_solve 46 = .ok (.lload 5, 2) := by decide +kernel
theorem dX2_solve_48 : decode cX2_solve 48 = .ok (.invokestatic 40, 3) := by decide +kernel
theorem dX2_solve_51 : decode cX2_solve 51 = .ok (.lstore 9, 2) := by decide +kernel
theorem dX2_solve_53 : decode cX2_solve 53 = .ok (.lload 7, 2) := by decide +kernel
theorem dX2_solve_55 : decode cX2_solve 55 = .ok (.lload 9, 2) := by decide +kernel
theorem dX2_solve_57 : decode cX2_solve 57 = .ok (.ldiv, 1) := by decide +kernel
theorem dX2_solve_58 : decode cX2_solve 58 = .ok (.lstore 7, 2) := by decide +kernel
theorem dX2_solve_60 : decode cX2_solve 60 = .ok (.lload 5, 2) := by decide +kernel
theorem dX2_solve_62 : decode cX2_solve 62 = .ok (.lload 9, 2) := by decide +kernel
theorem dX2_solve_64 : decode cX2_solve 64 = .ok (.ldiv, 1) := by decide +kernel
theorem dX2_solve_65 : decode cX2_solve 65 = .ok (.lstore 5, 2) := by decide +kernel
theorem dX2_solve_67 : decode cX2_solve 67 = .ok (.aload_n 0, 1) := by decide +kernel
theorem dX2_solve_68 : decode cX2_solve 68 = .ok (.getfield 15, 3) := by decide +kernel
theorem dX2_solve_71 : decode cX2_solve 71 = .ok (.ifCond .eq 21, 3) := by decide +kernel
theorem dX2_solve_74 : decode cX2_solve 74 = .ok (.lload 7, 2) := by decide +kernel
theorem dX2_solve_76 : decode cX2_solve 76 = .ok (.aload_n 0, 1) := by decide +kernel
theorem dX2_solve_77 : decode cX2_solve 77 = .ok (.getfield 23, 3) := by decide +kernel
theorem dX2_solve_80 : decode cX2_solve 80 = .ok (.lmul, 1) := by decide +kernel
theorem dX2_solve_81 : decode cX2_solve 81 = .ok (.aload_n 0, 1) := by decide +kernel
theorem dX2_solve_82 : decode cX2_solve 82 = .ok (.getfield 19, 3) := by decide +kernel
theorem dX2_solve_85 : decode cX2_solve 85 = .ok (.lload 5, 2) := by decide +kernel
theorem dX2_solve_87 : decode cX2_solve 87 = .ok (.lmul, 1) := by decide +kernel
theorem dX2_solve_88 : decode cX2_solve 88 = .ok (.lcmp, 1) := by decide +kernel
theorem dX2_solve_89 : decode cX2_solve 89 = .ok (.ifCond .le 20, 3) := by decide +kernel
theorem dX2_solve_92 : decode cX2_solve 92 = .ok (.aload_n 0, 1) := by decide +kernel
theorem dX2_solve_93 : decode cX2_solve 93 = .ok (.iload_n 2, 1) := by decide +kernel
theorem dX2_solve_94 : decode cX2_solve 94 = .ok (.putfield 15, 3) := by decide +kernel
theorem dX2_solve_97 : decode cX2_solve 97 = .ok (.aload_n 0, 1) := by decide +kernel
theorem dX2_solve_98 : decode cX2_solve 98 = .ok (.lload 7, 2) := by decide +kernel
theorem dX2_solve_100 : decode cX2_solve 100 = .ok (.putfield 19, 3) := by decide +kernel
theorem dX2_solve_103 : decode cX2_solve 103 = .ok (.aload_n 0, 1) := by decide +kernel
theorem dX2_solve_104 : decode cX2_solve 104 = .ok (.lload 5, 2) := by decide +kernel
theorem dX2_solve_106 : decode cX2_solve 106 = .ok (.putfield 23, 3) := by decide +kernel
theorem dX2_solve_109 : decode cX2_solve 109 = .ok (.iinc 2 1, 3) := by decide +kernel
theorem dX2_solve_112 : decode cX2_solve 112 = .ok (.goto (-105), 3) := by decide +kernel
theorem dX2_solve_115 : decode cX2_solve 115 = .ok (.return_, 1) := by decide +kernel
theorem dX2_odds_0 : decode cX2_odds 0 = .ok (.aload_n 0, 1) := by decide +kernel
theorem dX2_odds_1 : decode cX2_odds 1 = .ok (.getfield 15, 3) := by decide +kernel
theorem dX2_odds_4 : decode cX2_odds 4 = .ok (.iload_n 1, 1) := by decide +kernel
theorem dX2_odds_5 : decode cX2_odds 5 = .ok (.ishr, 1) := by decide +kernel
theorem dX2_odds_6 : decode cX2_odds 6 = .ok (.iconst 1, 1) := by decide +kernel
theorem dX2_odds_7 : decode cX2_odds 7 = .ok (.iand, 1) := by decide +kernel
theorem dX2_odds_8 : decode cX2_odds 8 = .ok (.ifCond .ne 13, 3) := by decide +kernel
theorem dX2_odds_11 : decode cX2_odds 11 = .ok (.iload_n 2, 1) := by decide +kernel
theorem dX2_odds_12 : decode cX2_odds 12 = .ok (.ifCond .eq 7, 3) := by decide +kernel
theorem dX2_odds_15 : decode cX2_odds 15 = .ok (.lconst 0, 1) := by decide +kernel
theorem dX2_odds_16 : decode cX2_odds 16 = .ok (.goto 4, 3) := by decide +kernel
theorem dX2_odds_19 : decode cX2_odds 19 = .ok (.lconst 1, 1) := by decide +kernel
theorem dX2_odds_20 : decode cX2_odds 20 = .ok (.lreturn, 1) := by decide +kernel
theorem dX2_odds_21 : decode cX2_odds 21 = .ok (.aload_n 0, 1) := by decide +kernel
theorem dX2_odds_22 : decode cX2_odds 22 = .ok (.aload_n 0, 1) := by decide +kernel
theorem dX2_odds_23 : decode cX2_odds 23 = .ok (.getfield 15, 3) := by decide +kernel
theorem dX2_odds_26 : decode cX2_odds 26 = .ok (.invokevirtual 26, 3) := by decide +kernel
theorem dX2_odds_29 : decode cX2_odds 29 = .ok (.lstore_n 3, 1) := by decide +kernel
theorem dX2_odds_30 : decode cX2_odds 30 = .ok (.aload_n 0, 1) := by decide +kernel
theorem dX2_odds_31 : decode cX2_odds 31 = .ok (.aload_n 0, 1) := by decide +kernel
theorem dX2_odds_32 : decode cX2_odds 32 = .ok (.getfield 15, 3) := by decide +kernel
theorem dX2_odds_35 : decode cX2_odds 35 = .ok (.lload_n 3, 1) := by decide +kernel
theorem dX2_odds_36 : decode cX2_odds 36 = .ok (.invokevirtual 30, 3) := by decide +kernel
theorem dX2_odds_39 : decode cX2_odds 39 = .ok (.lstore 5, 2) := by decide +kernel
theorem dX2_odds_41 : decode cX2_odds 41 = .ok (.aload_n 0, 1) := by decide +kernel
theorem dX2_odds_42 : decode cX2_odds 42 = .ok (.lload_n 3, 1) := by decide +kernel
theorem dX2_odds_43 : decode cX2_odds 43 = .ok (.iload_n 1, 1) := by decide +kernel
theorem dX2_odds_44 : decode cX2_odds 44 = .ok (.invokevirtual 44, 3) := by decide +kernel
theorem dX2_odds_47 : decode cX2_odds 47 = .ok (.lstore 7, 2) := by decide +kernel
theorem dX2_odds_49 : decode cX2_odds 49 = .ok (.iload_n 2, 1) := by decide +kernel
theorem dX2_odds_50 : decode cX2_odds 50 = .ok (.ifCond .eq 8, 3) := by decide +kernel
theorem dX2_odds_53 : decode cX2_odds 53 = .ok (.lload 7, 2) := by decide +kernel
theorem dX2_odds_55 : decode cX2_odds 55 = .ok (.goto 5, 3) := by decide +kernel
theorem dX2_odds_58 : decode cX2_odds 58 = .ok (.lload 5, 2) := by decide +kernel
theorem dX2_odds_60 : decode cX2_odds 60 = .ok (.lload 7, 2) := by decide +kernel
theorem dX2_odds_62 : decode cX2_odds 62 = .ok (.lload 5, 2) := by decide +kernel
theorem dX2_odds_64 : decode cX2_odds 64 = .ok (.invokestatic 40, 3) := by decide +kernel
theorem dX2_odds_67 : decode cX2_odds 67 = .ok (.ldiv, 1) := by decide +kernel
theorem dX2_odds_68 : decode cX2_odds 68 = .ok (.lreturn, 1) := by decide +kernel
theorem dX2_product_0 : decode cX2_product 0 = .ok (.lconst 1, 1) := by decide +kernel
theorem dX2_product_1 : decode cX2_product 1 = .ok (.lstore_n 2, 1) := by decide +kernel
theorem dX2_product_2 : decode cX2_product 2 = .ok (.iconst 0, 1) := by decide +kernel
theorem dX2_product_3 : decode cX2_product 3 = .ok (.istore 4, 2) := by decide +kernel
theorem dX2_product_5 : decode cX2_product 5 = .ok (.iload 4, 2) := by decide +kernel
theorem dX2_product_7 : decode cX2_product 7 = .ok (.bipush 6, 2) := by decide +kernel
theorem dX2_product_9 : decode cX2_product 9 = .ok (.if_icmp .ge 29, 3) := by decide +kernel
theorem dX2_product_12 : decode cX2_product 12 = .ok (.iload_n 1, 1) := by decide +kernel
theorem dX2_product_13 : decode cX2_product 13 = .ok (.iload 4, 2) := by decide +kernel
theorem dX2_product_15 : decode cX2_product 15 = .ok (.ishr, 1) := by decide +kernel
theorem dX2_product_16 : decode cX2_product 16 = .ok (.iconst 1, 1) := by decide +kernel
theorem dX2_product_17 : decode cX2_product 17 = .ok (.iand, 1) := by decide +kernel
theorem dX2_product_18 : decode cX2_product 18 = .ok (.ifCond .eq 14, 3) := by decide +kernel
theorem dX2_product_21 : decode cX2_product 21 = .ok (.lload_n 2, 1) := by decide +kernel
theorem dX2_product_22 : decode cX2_product 22 = .ok (.aload_n 0, 1) := by decide +kernel
theorem dX2_product_23 : decode cX2_product 23 = .ok (.getfield 9, 3) := by decide +kernel
theorem dX2_product_26 : decode cX2_product 26 = .ok (.iload 4, 2) := by decide +kernel
theorem dX2_product_28 : decode cX2_product 28 = .ok (.iaload, 1) := by decide +kernel
theorem dX2_product_29 : decode cX2_product 29 = .ok (.i2l, 1) := by decide +kernel
theorem dX2_product_30 : decode cX2_product 30 = .ok (.lmul, 1) := by decide +kernel
theorem dX2_product_31 : decode cX2_product 31 = .ok (.lstore_n 2, 1) := by decide +kernel
theorem dX2_product_32 : decode cX2_product 32 = .ok (.iinc 4 1, 3) := by decide +kernel
theorem dX2_product_35 : decode cX2_product 35 = .ok (.goto (-30), 3) := by decide +kernel
theorem dX2_product_38 : decode cX2_product 38 = .ok (.lload_n 2, 1) := by decide +kernel
theorem dX2_product_39 : decode cX2_product 39 = .ok (.lreturn, 1) := by decide +kernel
theorem dX2_sumOfParts_0 : decode cX2_sumOfParts 0 = .ok (.lconst 0, 1) := by decide +kernel
theorem dX2_sumOfParts_1 : decode cX2_sumOfParts 1 = .ok (.lstore 4, 2) := by decide +kernel
theorem dX2_sumOfParts_3 : decode cX2_sumOfParts 3 = .ok (.iconst 0, 1) := by decide +kernel
theorem dX2_sumOfParts_4 : decode cX2_sumOfParts 4 = .ok (.istore 6, 2) := by decide +kernel
theorem dX2_sumOfParts_6 : decode cX2_sumOfParts 6 = .ok (.iload 6, 2) := by decide +kernel
theorem dX2_sumOfParts_8 : decode cX2_sumOfParts 8 = .ok (.bipush 6, 2) := by decide +kernel
theorem dX2_sumOfParts_10 : decode cX2_sumOfParts 10 = .ok (.if_icmp .ge 30, 3) := by decide +kernel
theorem dX2_sumOfParts_13 : decode cX2_sumOfParts 13 = .ok (.iload_n 1, 1) := by decide +kernel
theorem dX2_sumOfParts_14 : decode cX2_sumOfParts 14 = .ok (.iload 6, 2) := by decide +kernel
theorem dX2_sumOfParts_16 : decode cX2_sumOfParts 16 = .ok (.ishr, 1) := by decide +kernel
theorem dX2_sumOfParts_17 : decode cX2_sumOfParts 17 = .ok (.iconst 1, 1) := by decide +kernel
theorem dX2_sumOfParts_18 : decode cX2_sumOfParts 18 = .ok (.iand, 1) := by decide +kernel
theorem dX2_sumOfParts_19 : decode cX2_sumOfParts 19 = .ok (.ifCond .eq 15, 3) := by decide +kernel
theorem dX2_sumOfParts_22 : decode cX2_sumOfParts 22 = .ok (.lload 4, 2) := by decide +kernel
theorem dX2_sumOfParts_24 : decode cX2_sumOfParts 24 = .ok (.aload_n 0, 1) := by decide +kernel
theorem dX2_sumOfParts_25 : decode cX2_sumOfParts 25 = .ok (.lload_n 2, 1) := by decide +kernel
theorem dX2_sumOfParts_26 : decode cX2_sumOfParts 26 = .ok (.iload 6, 2) := by decide +kernel
theorem dX2_sumOfParts_28 : decode cX2_sumOfParts 28 = .ok (.invokevirtual 44, 3) := by decide +kernel
theorem dX2_sumOfParts_31 : decode cX2_sumOfParts 31 = .ok (.ladd, 1) := by decide +kernel
theorem dX2_sumOfParts_32 : decode cX2_sumOfParts 32 = .ok (.lstore 4, 2) := by decide +kernel
theorem dX2_sumOfParts_34 : decode cX2_sumOfParts 34 = .ok (.iinc 6 1, 3) := by decide +kernel
theorem dX2_sumOfParts_37 : decode cX2_sumOfParts 37 = .ok (.goto (-31), 3) := by decide +kernel
theorem dX2_sumOfParts_40 : decode cX2_sumOfParts 40 = .ok (.lload 4, 2) := by decide +kernel
theorem dX2_sumOfParts_42 : decode cX2_sumOfParts 42 = .ok (.lreturn, 1) := by decide +kernel
theorem dX2_part_0 : decode cX2_part 0 = .ok (.aload_n 0, 1) := by decide +kernel
theorem dX2_part_1 : decode cX2_part 1 = .ok (.getfield 9, 3) := by decide +kernel
theorem dX2_part_4 : decode cX2_part 4 = .ok (.iload_n 3, 1) := by decide +kernel
theorem dX2_part_5 : decode cX2_part 5 = .ok (.iaload, 1) := by decide +kernel
theorem dX2_part_6 : decode cX2_part 6 = .ok (.ifCond .le 15, 3) := by decide +kernel
theorem dX2_part_9 : decode cX2_part 9 = .ok (.lload_n 1, 1) := by decide +kernel
theorem dX2_part_10 : decode cX2_part 10 = .ok (.aload_n 0, 1) := by decide +kernel
theorem dX2_part_11 : decode cX2_part 11 = .ok (.getfield 9, 3) := by decide +kernel
theorem dX2_part_14 : decode cX2_part 14 = .ok (.iload_n 3, 1) := by decide +kernel
theorem dX2_part_15 : decode cX2_part 15 = .ok (.iaload, 1) := by decide +kernel
theorem dX2_part_16 : decode cX2_part 16 = .ok (.i2l, 1) := by decide +kernel
theorem dX2_part_17 : decode cX2_part 17 = .ok (.ldiv, 1) := by decide +kernel
theorem dX2_part_18 : decode cX2_part 18 = .ok (.goto 4, 3) := by decide +kernel
theorem dX2_part_21 : decode cX2_part 21 = .ok (.lconst 0, 1) := by decide +kernel
theorem dX2_part_22 : decode cX2_part 22 = .ok (.lreturn, 1) := by decide +kernel
theorem dX3_init_0 : decode cX3_init 0 = .ok (.aload_n 0, 1) := by decide +kernel
theorem dX3_init_1 : decode cX3_init 1 = .ok (.invokespecial 3, 3) := by decide +kernel
theorem dX3_init_4 : decode cX3_init 4 = .ok (.aload_n 0, 1) := by decide +kernel
theorem dX3_init_5 : decode cX3_init 5 = .ok (.iconst 0, 1) := by decide +kernel
theorem dX3_init_6 : decode cX3_init 6 = .ok (.putfield 9, 3) := by decide +kernel
theorem dX3_init_9 : decode cX3_init 9 = .ok (.aload_n 0, 1) := by decide +kernel
theorem dX3_init_10 : decode cX3_init 10 = .ok (.iconst 0, 1) := by decide +kernel
theorem dX3_init_11 : decode cX3_init 11 = .ok (.putfield 15, 3) := by decide +kernel
theorem dX3_init_14 : decode cX3_init 14 = .ok (.aload_n 0, 1) := by decide +kernel
theorem dX3_init_15 : decode cX3_init 15 = .ok (.iconst 0, 1) := by decide +kernel
theorem dX3_init_16 : decode cX3_init 16 = .ok (.putfield 19, 3) := by decide +kernel
theorem dX3_init_19 : decode cX3_init 19 = .ok (.aload_n 0, 1) := by decide +kernel
theorem dX3_init_20 : decode cX3_init 20 = .ok (.iconst 0, 1) := by decide +kernel
theorem dX3_init_21 : decode cX3_init 21 = .ok (.putfield 22, 3) := by decide +kernel
theorem dX3_init_24 : decode cX3_init 24 = .ok (.aload_n 0, 1) := by decide +kernel
theorem dX3_init_25 : decode cX3_init 25 = .ok (.iconst 0, 1) := by decide +kernel
theorem dX3_init_26 : decode cX3_init 26 = .ok (.putfield 25, 3) := by decide +kernel
theorem dX3_init_29 : decode cX3_init 29 = .ok (.aload_n 0, 1) := by decide +kernel
theorem dX3_init_30 : decode cX3_init 30 = .ok (.iconst 0, 1) := by decide +kernel
theorem dX3_init_31 : decode cX3_init 31 = .ok (.putfield 28, 3) := by decide +kernel
theorem dX3_init_34 : decode cX3_init 34 = .ok (.aload_n 0, 1) := by decide +kernel
theorem dX3_init_35 : decode cX3_init 35 = .ok (.iconst 0, 1) := by decide +kernel
theorem dX3_init_36 : decode cX3_init 36 = .ok (.putfield 31, 3) := by decide +kernel
theorem dX3_init_39 : decode cX3_init 39 = .ok (.aload_n 0, 1) := by decide +kernel
theorem dX3_init_40 : decode cX3_init 40 = .ok (.iconst 0, 1) := by decide +kernel
theorem dX3_init_41 : decode cX3_init 41 = .ok (.putfield 34, 3) := by decide +kernel
theorem dX3_init_44 : decode cX3_init 44 = .ok (.aload_n 0, 1) := by decide +kernel
theorem dX3_init_45 : decode cX3_init 45 = .ok (.iconst 0, 1) := by decide +kernel
theorem dX3_init_46 : decode cX3_init 46 = .ok (.putfield 37, 3) := by decide +kernel
theorem dX3_init_49 : decode cX3_init 49 = .ok (.aload_n 0, 1) := by decide +kernel
theorem dX3_init_50 : decode cX3_init 50 = .ok (.bipush 24, 2) := by decide +kernel
theorem dX3_init_52 : decode cX3_init 52 = .ok (.newarray .int, 2) := by decide +kernel
theorem dX3_init_54 : decode cX3_init 54 = .ok (.putfield 40, 3) := by decide +kernel
theorem dX3_init_57 : decode cX3_init 57 = .ok (.aload_n 0, 1) := by decide +kernel
theorem dX3_init_58 : decode cX3_init 58 = .ok (.bipush 6, 2) := by decide +kernel
theorem dX3_init_60 : decode cX3_init 60 = .ok (.newarray .int, 2) := by decide +kernel
theorem dX3_init_62 : decode cX3_init 62 = .ok (.putfield 44, 3) := by decide +kernel
theorem dX3_init_65 : decode cX3_init 65 = .ok (.aload_n 0, 1) := by decide +kernel
theorem dX3_init_66 : decode cX3_init 66 = .ok (.bipush 6, 2) := by decide +kernel
theorem dX3_init_68 : decode cX3_init 68 = .ok (.newarray .int, 2) := by decide +kernel
theorem dX3_init_70 : decode cX3_init 70 = .ok (.putfield 47, 3) := by decide +kernel
theorem dX3_init_73 : decode cX3_init 73 = .ok (.aload_n 0, 1) := by decide +kernel
theorem dX3_init_74 : decode cX3_init 74 = .ok (.iconst 4, 1) := by decide +kernel
theorem dX3_init_75 : decode cX3_init 75 = .ok (.newarray .int, 2) := by decide +kernel
theorem dX3_init_77 : decode cX3_init 77 = .ok (.putfield 50, 3) := by decide +kernel
theorem dX3_init_80 : decode cX3_init 80 = .ok (.aload_n 0, 1) := by decide +kernel
theorem dX3_init_81 : decode cX3_init 81 = .ok (.iconst 4, 1) := by decide +kernel
theorem dX3_init_82 : decode cX3_init 82 = .ok (.newarray .int, 2) := by decide +kernel
theorem dX3_init_84 : decode cX3_init 84 = .ok (.putfield 53, 3) := by decide +kernel
theorem dX3_init_87 : decode cX3_init 87 = .ok (.aload_n 0, 1) := by decide +kernel
theorem dX3_init_88 : decode cX3_init 88 = .ok (.bipush 24, 2) := by decide +kernel
theorem dX3_init_90 : decode cX3_init 90 = .ok (.newarray .int, 2) := by decide +kernel
theorem dX3_init_92 : decode cX3_init 92 = .ok (.putfield 56, 3) := by decide +kernel
theorem dX3_init_95 : decode cX3_init 95 = .ok (.return_, 1) := by decide +kernel
theorem dX3_clear_0 : decode cX3_clear 0 = .ok (.aload_n 0, 1) := by decide +kernel
theorem dX3_clear_1 : decode cX3_clear 1 = .ok (.iconst 0, 1) := by decide +kernel
theorem dX3_clear_2 : decode cX3_clear 2 = .ok (.putfield 31, 3) := by decide +kernel
theorem dX3_clear_5 : decode cX3_clear 5 = .ok (.aload_n 0, 1) := by decide +kernel
theorem dX3_clear_6 : decode cX3_clear 6 = .ok (.iconst 0, 1) := by decide +kernel
theorem dX3_clear_7 : decode cX3_clear 7 = .ok (.putfield 34, 3) := by decide +kernel
theorem dX3_clear_10 : decode cX3_clear 10 = .ok (.aload_n 0, 1) := by decide +kernel
theorem dX3_clear_11 : decode cX3_clear 11 = .ok (.iconst 0, 1) := by decide +kernel
theorem dX3_clear_12 : decode cX3_clear 12 = .ok (.putfield 37, 3) := by decide +kernel
theorem dX3_clear_15 : decode cX3_clear 15 = .ok (.aload_n 0, 1) := by decide +kernel
theorem dX3_clear_16 : decode cX3_clear 16 = .ok (.getfield 40, 3) := by decide +kernel
theorem dX3_clear_19 : decode cX3_clear 19 = .ok (.iconst 0, 1) := by decide +kernel
theorem dX3_clear_20 : decode cX3_clear 20 = .ok (.invokestatic 59, 3) := by decide +kernel
theorem dX3_clear_23 : decode cX3_clear 23 = .ok (.aload_n 0, 1) := by decide +kernel
theorem dX3_clear_24 : decode cX3_clear 24 = .ok (.getfield 56, 3) := by decide +kernel
theorem dX3_clear_27 : decode cX3_clear 27 = .ok (.iconst 0, 1) := by decide +kernel
theorem dX3_clear_28 : decode cX3_clear 28 = .ok (.invokestatic 59, 3) := by decide +kernel
theorem dX3_clear_31 : decode cX3_clear 31 = .ok (.iconst 0, 1) := by decide +kernel
theorem dX3_clear_32 : decode cX3_clear 32 = .ok (.istore_n 1, 1) := by decide +kernel
theorem dX3_clear_33 : decode cX3_clear 33 = .ok (.iload_n 1, 1) := by decide +kernel
theorem dX3_clear_34 : decode cX3_clear 34 = .ok (.iconst 4, 1) := by decide +kernel
theorem dX3_clear_35 : decode cX3_clear 35 = .ok (.if_icmp .ge 19, 3) := by decide +kernel
theorem dX3_clear_38 : decode cX3_clear 38 = .ok (.aload_n 0, 1) := by decide +kernel
theorem dX3_clear_39 : decode cX3_clear 39 = .ok (.getfield 56, 3) := by decide +kernel
theorem dX3_clear_42 : decode cX3_clear 42 = .ok (.bipush 6, 2) := by decide +kernel
theorem dX3_clear_44 : decode cX3_clear 44 = .ok (.iload_n 1, 1) := by decide +kernel
theorem dX3_clear_45 : decode cX3_clear 45 = .ok (.iadd, 1) := by decide +kernel
theorem dX3_clear_46 : decode cX3_clear 46 = .ok (.iconst (-1), 1) := by decide +kernel
theorem dX3_clear_47 : decode cX3_clear 47 = .ok (.iastore, 1) := by decide +kernel
theorem dX3_clear_48 : decode cX3_clear 48 = .ok (.iinc 1 1, 3) := by decide +kernel
theorem dX3_clear_51 : decode cX3_clear 51 = .ok (.goto (-18), 3) := by decide +kernel
theorem dX3_clear_54 : decode cX3_clear 54 = .ok (.return_, 1) := by decide +kernel
theorem dX3_become_0 : decode cX3_become 0 = .ok (.aload_n 0, 1) := by decide +kernel
theorem dX3_become_1 : decode cX3_become 1 = .ok (.iconst 1, 1) := by decide +kernel
theorem dX3_become_2 : decode cX3_become 2 = .ok (.putfield 9, 3) := by decide +kernel
theorem dX3_become_5 : decode cX3_become 5 = .ok (.aload_n 0, 1) := by decide +kernel
theorem dX3_become_6 : decode cX3_become 6 = .ok (.aload_n 1, 1) := by decide +kernel
theorem dX3_become_7 : decode cX3_become 7 = .ok (.getfield 15, 3) := by decide +kernel
theorem dX3_become_10 : decode cX3_become 10 = .ok (.putfield 15, 3) := by decide +kernel
theorem dX3_become_13 : decode cX3_become 13 = .ok (.aload_n 0, 1) := by decide +kernel
theorem dX3_become_14 : decode cX3_become 14 = .ok (.aload_n 1, 1) := by decide +kernel
theorem dX3_become_15 : decode cX3_become 15 = .ok (.getfield 19, 3) := by decide +kernel
theorem dX3_become_18 : decode cX3_become 18 = .ok (.putfield 19, 3) := by decide +kernel
theorem dX3_become_21 : decode cX3_become 21 = .ok (.aload_n 0, 1) := by decide +kernel
theorem dX3_become_22 : decode cX3_become 22 = .ok (.aload_n 1, 1) := by decide +kernel
theorem dX3_become_23 : decode cX3_become 23 = .ok (.getfield 22, 3) := by decide +kernel
theorem dX3_become_26 : decode cX3_become 26 = .ok (.putfield 22, 3) := by decide +kernel
theorem dX3_become_29 : decode cX3_become 29 = .ok (.aload_n 0, 1) := by decide +kernel
theorem dX3_become_30 : decode cX3_become 30 = .ok (.aload_n 1, 1) := by decide +kernel
theorem dX3_become_31 : decode cX3_become 31 = .ok (.getfield 25, 3) := by decide +kernel
theorem dX3_become_34 : decode cX3_become 34 = .ok (.putfield 25, 3) := by decide +kernel
theorem dX3_become_37 : decode cX3_become 37 = .ok (.aload_n 0, 1) := by decide +kernel
theorem dX3_become_38 : decode cX3_become 38 = .ok (.aload_n 1, 1) := by decide +kernel
theorem dX3_become_39 : decode cX3_become 39 = .ok (.getfield 28, 3) := by decide +kernel
theorem dX3_become_42 : decode cX3_become 42 = .ok (.putfield 28, 3) := by decide +kernel
theorem dX3_become_45 : decode cX3_become 45 = .ok (.aload_n 0, 1) := by decide +kernel
theorem dX3_become_46 : decode cX3_become 46 = .ok (.aload_n 1, 1) := by decide +kernel
theorem dX3_become_47 : decode cX3_become 47 = .ok (.getfield 31, 3) := by decide +kernel
theorem dX3_become_50 : decode cX3_become 50 = .ok (.putfield 31, 3) := by decide +kernel
theorem dX3_become_53 : decode cX3_become 53 = .ok (.aload_n 0, 1) := by decide +kernel
theorem dX3_become_54 : decode cX3_become 54 = .ok (.aload_n 1, 1) := by decide +kernel
theorem dX3_become_55 : decode cX3_become 55 = .ok (.getfield 34, 3) := by decide +kernel
theorem dX3_become_58 : decode cX3_become 58 = .ok (.putfield 34, 3) := by decide +kernel
theorem dX3_become_61 : decode cX3_become 61 = .ok (.aload_n 0, 1) := by decide +kernel
theorem dX3_become_62 : decode cX3_become 62 = .ok (.aload_n 1, 1) := by decide +kernel
theorem dX3_become_63 : decode cX3_become 63 = .ok (.getfield 37, 3) := by decide +kernel
theorem dX3_become_66 : decode cX3_become 66 = .ok (.putfield 37, 3) := by decide +kernel
theorem dX3_become_69 : decode cX3_become 69 = .ok (.aload_n 1, 1) := by decide +kernel
theorem dX3_become_70 : decode cX3_become 70 = .ok (.getfield 40, 3) := by decide +kernel
theorem dX3_become_73 : decode cX3_become 73 = .ok (.iconst 0, 1) := by decide +kernel
theorem dX3_become_74 : decode cX3_become 74 = .ok (.aload_n 0, 1) := by decide +kernel
theorem dX3_become_75 : decode cX3_become 75 = .ok (.getfield 40, 3) := by decide +kernel
theorem dX3_become_78 : decode cX3_become 78 = .ok (.iconst 0, 1) := by decide +kernel
theorem dX3_become_79 : decode cX3_become 79 = .ok (.bipush 24, 2) := by decide +kernel
theorem dX3_become_81 : decode cX3_become 81 = .ok (.invokestatic 65, 3) := by decide +kernel
theorem dX3_become_84 : decode cX3_become 84 = .ok (.aload_n 1, 1) := by decide +kernel
theorem dX3_become_85 : decode cX3_become 85 = .ok (.getfield 44, 3) := by decide +kernel
theorem dX3_become_88 : decode cX3_become 88 = .ok (.iconst 0, 1) := by decide +kernel
theorem dX3_become_89 : decode cX3_become 89 = .ok (.aload_n 0, 1) := by decide +kernel
theorem dX3_become_90 : decode cX3_become 90 = .ok (.getfield 44, 3) := by decide +kernel
theorem dX3_become_93 : decode cX3_become 93 = .ok (.iconst 0, 1) := by decide +kernel
theorem dX3_become_94 : decode cX3_become 94 = .ok (.bipush 6, 2) := by decide +kernel
theorem dX3_become_96 : decode cX3_become 96 = .ok (.invokestatic 65, 3) := by decide +kernel
theorem dX3_become_99 : decode cX3_become 99 = .ok (.aload_n 1, 1) := by decide +kernel
theorem dX3_become_100 : decode cX3_become 100 = .ok (.getfield 47, 3) := by decide +kernel
theorem dX3_become_103 : decode cX3_become 103 = .ok (.iconst 0, 1) := by decide +kernel
theorem dX3_become_104 : decode cX3_become 104 = .ok (.aload_n 0, 1) := by decide +kernel
theorem dX3_become_105 : decode cX3_become 105 = .ok (.getfield 47, 3) := by decide +kernel
theorem dX3_become_108 : decode cX3_become 108 = .ok (.iconst 0, 1) := by decide +kernel
theorem dX3_become_109 : decode cX3_become 109 = .ok (.bipush 6, 2) := by decide +kernel
theorem dX3_become_111 : decode cX3_become 111 = .ok (.invokestatic 65, 3) := by decide +kernel
theorem dX3_become_114 : decode cX3_become 114 = .ok (.aload_n 1, 1) := by decide +kernel
theorem dX3_become_115 : decode cX3_become 115 = .ok (.getfield 50, 3) := by decide +kernel
theorem dX3_become_118 : decode cX3_become 118 = .ok (.iconst 0, 1) := by decide +kernel
theorem dX3_become_119 : decode cX3_become 119 = .ok (.aload_n 0, 1) := by decide +kernel
theorem dX3_become_120 : decode cX3_become 120 = .ok (.getfield 50, 3) := by decide +kernel
theorem dX3_become_123 : decode cX3_become 123 = .ok (.iconst 0, 1) := by decide +kernel
theorem dX3_become_124 : decode cX3_become 124 = .ok (.iconst 4, 1) := by decide +kernel
theorem dX3_become_125 : decode cX3_become 125 = .ok (.invokestatic 65, 3) := by decide +kernel
theorem dX3_become_128 : decode cX3_become 128 = .ok (.aload_n 1, 1) := by decide +kernel
theorem dX3_become_129 : decode cX3_become 129 = .ok (.getfield 53, 3) := by decide +kernel
theorem dX3_become_132 : decode cX3_become 132 = .ok (.iconst 0, 1) := by decide +kernel
theorem dX3_become_133 : decode cX3_become 133 = .ok (.aload_n 0, 1) := by decide +kernel
theorem dX3_become_134 : decode cX3_become 134 = .ok (.getfield 53, 3) := by decide +kernel
theorem dX3_become_137 : decode cX3_become 137 = .ok (.iconst 0, 1) := by decide +kernel
theorem dX3_become_138 : decode cX3_become 138 = .ok (.iconst 4, 1) := by decide +kernel
theorem dX3_become_139 : decode cX3_become 139 = .ok (.invokestatic 65, 3) := by decide +kernel
theorem dX3_become_142 : decode cX3_become 142 = .ok (.aload_n 1, 1) := by decide +kernel
theorem dX3_become_143 : decode cX3_become 143 = .ok (.getfield 56, 3) := by decide +kernel
theorem dX3_become_146 : decode cX3_become 146 = .ok (.iconst 0, 1) := by decide +kernel
theorem dX3_become_147 : decode cX3_become 147 = .ok (.aload_n 0, 1) := by decide +kernel
theorem dX3_become_148 : decode cX3_become 148 = .ok (.getfield 56, 3) := by decide +kernel
theorem dX3_become_151 : decode cX3_become 151 = .ok (.iconst 0, 1) := by decide +kernel
theorem dX3_become_152 : decode cX3_become 152 = .ok (.bipush 24, 2) := by decide +kernel
theorem dX3_become_154 : decode cX3_become 154 = .ok (.invokestatic 65, 3) := by decide +kernel
theorem dX3_become_157 : decode cX3_become 157 = .ok (.return_, 1) := by decide +kernel
theorem dX3_hasRaider_0 : decode cX3_hasRaider 0 = .ok (.iload_n 1, 1) := by decide +kernel
theorem dX3_hasRaider_1 : decode cX3_hasRaider 1 = .ok (.ifCond .lt 15, 3) := by decide +kernel
theorem dX3_hasRaider_4 : decode cX3_hasRaider 4 = .ok (.iload_n 1, 1) := by decide +kernel
theorem dX3_hasRaider_5 : decode cX3_hasRaider 5 = .ok (.aload_n 0, 1) := by decide +kernel
theorem dX3_hasRaider_6 : decode cX3_hasRaider 6 = .ok (.getfield 37, 3) := by decide +kernel
theorem dX3_hasRaider_9 : decode cX3_hasRaider 9 = .ok (.if_icmp .ge 7, 3) := by decide +kernel
theorem dX3_hasRaider_12 : decode cX3_hasRaider 12 = .ok (.iconst 1, 1) := by decide +kernel
theorem dX3_hasRaider_13 : decode cX3_hasRaider 13 = .ok (.goto 4, 3) := by decide +kernel
theorem dX3_hasRaider_16 : decode cX3_hasRaider 16 = .ok (.iconst 0, 1) := by decide +kernel
theorem dX3_hasRaider_17 : decode cX3_hasRaider 17 = .ok (.ireturn, 1) := by decide +kernel
theorem dX3_hasTree_0 : decode cX3_hasTree 0 = .ok (.iload_n 1, 1) := by decide +kernel
theorem dX3_hasTree_1 : decode cX3_hasTree 1 = .ok (.ifCond .lt 15, 3) := by decide +kernel
theorem dX3_hasTree_4 : decode cX3_hasTree 4 = .ok (.iload_n 1, 1) := by decide +kernel
theorem dX3_hasTree_5 : decode cX3_hasTree 5 = .ok (.aload_n 0, 1) := by decide +kernel
theorem dX3_hasTree_6 : decode cX3_hasTree 6 = .ok (.getfield 34, 3) := by decide +kernel
theorem dX3_hasTree_9 : decode cX3_hasTree 9 = .ok (.if_icmp .ge 7, 3) := by decide +kernel
theorem dX3_hasTree_12 : decode cX3_hasTree 12 = .ok (.iconst 1, 1) := by decide +kernel
theorem dX3_hasTree_13 : decode cX3_hasTree 13 = .ok (.goto 4, 3) := by decide +kernel
theorem dX3_hasTree_16 : decode cX3_hasTree 16 = .ok (.iconst 0, 1) := by decide +kernel
theorem dX3_hasTree_17 : decode cX3_hasTree 17 = .ok (.ireturn, 1) := by decide +kernel
theorem dX3_canPlan_0 : decode cX3_canPlan 0 = .ok (.aload_n 0, 1) := by decide +kernel
theorem dX3_canPlan_1 : decode cX3_canPlan 1 = .ok (.getfield 50, 3) := by decide +kernel
theorem dX3_canPlan_4 : decode cX3_canPlan 4 = .ok (.iload_n 1, 1) := by decide +kernel
theorem dX3_canPlan_5 : decode cX3_canPlan 5 = .ok (.iaload, 1) := by decide +kernel
theorem dX3_canPlan_6 : decode cX3_canPlan 6 = .ok (.iconst 4, 1) := by decide +kernel
theorem dX3_canPlan_7 : decode cX3_canPlan 7 = .ok (.if_icmp .ge 7, 3) := by decide +kernel
theorem dX3_canPlan_10 : decode cX3_canPlan 10 = .ok (.iconst 1, 1) := by decide +kernel
theorem dX3_canPlan_11 : decode cX3_canPlan 11 = .ok (.goto 4, 3) := by decide +kernel
theorem dX3_canPlan_14 : decode cX3_canPlan 14 = .ok (.iconst 0, 1) := by decide +kernel
theorem dX3_canPlan_15 : decode cX3_canPlan 15 = .ok (.ireturn, 1) := by decide +kernel
theorem dX3_hasPlan_0 : decode cX3_hasPlan 0 = .ok (.aload_n 0, 1) := by decide +kernel
theorem dX3_hasPlan_1 : decode cX3_hasPlan 1 = .ok (.getfield 56, 3) := by decide +kernel
theorem dX3_hasPlan_4 : decode cX3_hasPlan 4 = .ok (.bipush 6, 2) := by decide +kernel
theorem dX3_hasPlan_6 : decode cX3_hasPlan 6 = .ok (.iload_n 1, 1) := by decide +kernel
theorem dX3_hasPlan_7 : decode cX3_hasPlan 7 = .ok (.iadd, 1) := by decide +kernel
theorem dX3_hasPlan_8 : decode cX3_hasPlan 8 = .ok (.iaload, 1) := by decide +kernel
theorem dX3_hasPlan_9 : decode cX3_hasPlan 9 = .ok (.ifCond .lt 7, 3) := by decide +kernel
theorem dX3_hasPlan_12 : decode cX3_hasPlan 12 = .ok (.iconst 1, 1) := by decide +kernel
theorem dX3_hasPlan_13 : decode cX3_hasPlan 13 = .ok (.goto 4, 3) := by decide +kernel
theorem dX3_hasPlan_16 : decode cX3_hasPlan 16 = .ok (.iconst 0, 1) := by decide +kernel
theorem dX3_hasPlan_17 : decode cX3_hasPlan 17 = .ok (.ireturn, 1) := by decide +kernel
theorem dX3_isPlanned_0 : decode cX3_isPlanned 0 = .ok (.iconst 0, 1) := by decide +kernel
theorem dX3_isPlanned_1 : decode cX3_isPlanned 1 = .ok (.istore_n 1, 1) := by decide +kernel
theorem dX3_isPlanned_2 : decode cX3_isPlanned 2 = .ok (.iload_n 1, 1) := by decide +kernel
theorem dX3_isPlanned_3 : decode cX3_isPlanned 3 = .ok (.aload_n 0, 1) := by decide +kernel
theorem dX3_isPlanned_4 : decode cX3_isPlanned 4 = .ok (.getfield 37, 3) := by decide +kernel
theorem dX3_isPlanned_7 : decode cX3_isPlanned 7 = .ok (.if_icmp .ge 19, 3) := by decide +kernel
theorem dX3_isPlanned_10 : decode cX3_isPlanned 10 = .ok (.aload_n 0, 1) := by decide +kernel
theorem dX3_isPlanned_11 : decode cX3_isPlanned 11 = .ok (.iload_n 1, 1) := by decide +kernel
theorem dX3_isPlanned_12 : decode cX3_isPlanned 12 = .ok (.invokevirtual 71, 3) := by decide +kernel
theorem dX3_isPlanned_15 : decode cX3_isPlanned 15 = .ok (.ifCond .eq 5, 3) := by decide +kernel
theorem dX3_isPlanned_18 : decode cX3_isPlanned 18 = .ok (.iconst 1, 1) := by decide +kernel
theorem dX3_isPlanned_19 : decode cX3_isPlanned 19 = .ok (.ireturn, 1) := by decide +kernel
theorem dX3_isPlanned_20 : decode cX3_isPlanned 20 = .ok (.iinc 1 1, 3) := by decide +kernel
theorem dX3_isPlanned_23 : decode cX3_isPlanned 23 = .ok (.goto (-21), 3) := by decide +kernel
theorem dX3_isPlanned_26 : decode cX3_isPlanned 26 = .ok (.iconst 0, 1) := by decide +kernel
theorem dX3_isPlanned_27 : decode cX3_isPlanned 27 = .ok (.ireturn, 1) := by decide +kernel
theorem dX3_allPlan_0 : decode cX3_allPlan 0 = .ok (.iconst 0, 1) := by decide +kernel
theorem dX3_allPlan_1 : decode cX3_allPlan 1 = .ok (.istore_n 2, 1) := by decide +kernel
theorem dX3_allPlan_2 : decode cX3_allPlan 2 = .ok (.iload_n 2, 1) := by decide +kernel
theorem dX3_allPlan_3 : decode cX3_allPlan 3 = .ok (.aload_n 0, 1) := by decide +kernel
theorem dX3_allPlan_4 : decode cX3_allPlan 4 = .ok (.getfield 37, 3) := by decide +kernel
theorem dX3_allPlan_7 : decode cX3_allPlan 7 = .ok (.if_icmp .ge 27, 3) := by decide +kernel
theorem dX3_allPlan_10 : decode cX3_allPlan 10 = .ok (.iload_n 1, 1) := by decide +kernel
theorem dX3_allPlan_11 : decode cX3_allPlan 11 = .ok (.iload_n 2, 1) := by decide +kernel
theorem dX3_allPlan_12 : decode cX3_allPlan 12 = .ok (.ishr, 1) := by decide +kernel
theorem dX3_allPlan_13 : decode cX3_allPlan 13 = .ok (.iconst 1, 1) := by decide +kernel
theorem dX3_allPlan_14 : decode cX3_allPlan 14 = .ok (.iand, 1) := by decide +kernel
theorem dX3_allPlan_15 : decode cX3_allPlan 15 = .ok (.ifCond .eq 13, 3) := by decide +kernel
theorem dX3_allPlan_18 : decode cX3_allPlan 18 = .ok (.aload_n 0, 1) := by decide +kernel
theorem dX3_allPlan_19 : decode cX3_allPlan 19 = .ok (.iload_n 2, 1) := by decide +kernel
theorem dX3_allPlan_20 : decode cX3_allPlan 20 = .ok (.invokevirtual 71, 3) := by decide +kernel
theorem dX3_allPlan_23 : decode cX3_allPlan 23 = .ok (.ifCond .ne 5, 3) := by decide +kernel
theorem dX3_allPlan_26 : decode cX3_allPlan 26 = .ok (.iconst 0, 1) := by decide +kernel
theorem dX3_allPlan_27 : decode cX3_allPlan 27 = .ok (.ireturn, 1) := by decide +kernel
theorem dX3_allPlan_28 : decode cX3_allPlan 28 = .ok (.iinc 2 1, 3) := by decide +kernel
theorem dX3_allPlan_31 : decode cX3_allPlan 31 = .ok (.goto (-29), 3) := by decide +kernel
theorem dX3_allPlan_34 : decode cX3_allPlan 34 = .ok (.iconst 1, 1) := by decide +kernel
theorem dX3_allPlan_35 : decode cX3_allPlan 35 = .ok (.ireturn, 1) := by decide +kernel
theorem dX3_addHens_0 : decode cX3_addHens 0 = .ok (.aload_n 0, 1) := by decide +kernel
theorem dX3_addHens_1 : decode cX3_addHens 1 = .ok (.dup, 1) := by decide +kernel
theorem dX3_addHens_2 : decode cX3_addHens 2 = .ok (.getfield 31, 3) := by decide +kernel
theorem dX3_addHens_5 : decode cX3_addHens 5 = .ok (.iconst 1, 1) := by decide +kernel
theorem dX3_addHens_6 : decode cX3_addHens 6 = .ok (.iadd, 1) := by decide +kernel
theorem dX3_addHens_7 : decode cX3_addHens 7 = .ok (.putfield 31, 3) := by decide +kernel
theorem dX3_addHens_10 : decode cX3_addHens 10 = .ok (.iconst 0, 1) := by decide +kernel
theorem dX3_addHens_11 : decode cX3_addHens 11 = .ok (.istore_n 3, 1) := by decide +kernel
theorem dX3_addHens_12 : decode cX3_addHens 12 = .ok (.iload_n 3, 1) := by decide +kernel
theorem dX3_addHens_13 : decode cX3_addHens 13 = .ok (.bipush 24, 2) := by decide +kernel
theorem dX3_addHens_15 : decode cX3_addHens 15 = .ok (.if_icmp .ge 28, 3) := by decide +kernel
theorem dX3_addHens_18 : decode cX3_addHens 18 = .ok (.iload_n 3, 1) := by decide +kernel
theorem dX3_addHens_19 : decode cX3_addHens 19 = .ok (.iload_n 1, 1) := by decide +kernel
theorem dX3_addHens_20 : decode cX3_addHens 20 = .ok (.invokestatic 75, 3) := by decide +kernel
theorem dX3_addHens_23 : decode cX3_addHens 23 = .ok (.iconst 1, 1) := by decide +kernel
theorem dX3_addHens_24 : decode cX3_addHens 24 = .ok (.if_icmp .gt 13, 3) := by decide +kernel
theorem dX3_addHens_27 : decode cX3_addHens 27 = .ok (.aload_n 0, 1) := by decide +kernel
theorem dX3_addHens_28 : decode cX3_addHens 28 = .ok (.getfield 40, 3) := by decide +kernel
theorem dX3_addHens_31 : decode cX3_addHens 31 = .ok (.iload_n 3, 1) := by decide +kernel
theorem dX3_addHens_32 : decode cX3_addHens 32 = .ok (.dup2, 1) := by decide +kernel
theorem dX3_addHens_33 : decode cX3_addHens 33 = .ok (.iaload, 1) := by decide +kernel
theorem dX3_addHens_34 : decode cX3_addHens 34 = .ok (.iload_n 2, 1) := by decide +kernel
theorem dX3_addHens_35 : decode cX3_addHens 35 = .ok (.iadd, 1) := by decide +kernel
theorem dX3_addHens_36 : decode cX3_addHens 36 = .ok (.iastore, 1) := by decide +kernel
theorem dX3_addHens_37 : decode cX3_addHens 37 = .ok (.iinc 3 1, 3) := by decide +kernel
theorem dX3_addHens_40 : decode cX3_addHens 40 = .ok (.goto (-28), 3) := by decide +kernel
theorem dX3_addHens_43 : decode cX3_addHens 43 = .ok (.return_, 1) := by decide +kernel
theorem dX4_init_0 : decode cX4_init 0 = .ok (.aload_n 0, 1) := by decide +kernel
theorem dX4_init_1 : decode cX4_init 1 = .ok (.invokespecial 3, 3) := by decide +kernel
theorem dX4_init_4 : decode cX4_init 4 = .ok (.aload_n 0, 1) := by decide +kernel
theorem dX4_init_5 : decode cX4_init 5 = .ok (.iconst 0, 1) := by decide +kernel
theorem dX4_init_6 : decode cX4_init 6 = .ok (.putfield 9, 3) := by decide +kernel
theorem dX4_init_9 : decode cX4_init 9 = .ok (.aload_n 0, 1) := by decide +kernel
theorem dX4_init_10 : decode cX4_init 10 = .ok (.iconst 0, 1) := by decide +kernel
theorem dX4_init_11 : decode cX4_init 11 = .ok (.putfield 15, 3) := by decide +kernel
theorem dX4_init_14 : decode cX4_init 14 = .ok (.aload_n 0, 1) := by decide +kernel
theorem dX4_init_15 : decode cX4_init 15 = .ok (.iconst 0, 1) := by decide +kernel
theorem dX4_init_16 : decode cX4_init 16 = .ok (.putfield 18, 3) := by decide +kernel
theorem dX4_init_19 : decode cX4_init 19 = .ok (.aload_n 0, 1) := by decide +kernel
theorem dX4_init_20 : decode cX4_init 20 = .ok (.iconst 0, 1) := by decide +kernel
theorem dX4_init_21 : decode cX4_init 21 = .ok (.putfield 21, 3) := by decide +kernel
theorem dX4_init_24 : decode cX4_init 24 = .ok (.aload_n 0, 1) := by decide +kernel
theorem dX4_init_25 : decode cX4_init 25 = .ok (.iconst 0, 1) := by decide +kernel
theorem dX4_init_26 : decode cX4_init 26 = .ok (.putfield 24, 3) := by decide +kernel
theorem dX4_init_29 : decode cX4_init 29 = .ok (.aload_n 0, 1) := by decide +kernel
theorem dX4_init_30 : decode cX4_init 30 = .ok (.iconst 0, 1) := by decide +kernel
theorem dX4_init_31 : decode cX4_init 31 = .ok (.putfield 27, 3) := by decide +kernel
theorem dX4_init_34 : decode cX4_init 34 = .ok (.aload_n 0, 1) := by decide +kernel
theorem dX4_init_35 : decode cX4_init 35 = .ok (.bipush 6, 2) := by decide +kernel
theorem dX4_init_37 : decode cX4_init 37 = .ok (.newarray .int, 2) := by decide +kernel
theorem dX4_init_39 : decode cX4_init 39 = .ok (.putfield 30, 3) := by decide +kernel
theorem dX4_init_42 : decode cX4_init 42 = .ok (.aload_n 0, 1) := by decide +kernel
theorem dX4_init_43 : decode cX4_init 43 = .ok (.iconst 4, 1) := by decide +kernel
theorem dX4_init_44 : decode cX4_init 44 = .ok (.newarray .int, 2) := by decide +kernel
theorem dX4_init_46 : decode cX4_init 46 = .ok (.putfield 34, 3) := by decide +kernel
theorem dX4_init_49 : decode cX4_init 49 = .ok (.aload_n 0, 1) := by decide +kernel
theorem dX4_init_50 : decode cX4_init 50 = .ok (.iconst 4, 1) := by decide +kernel
theorem dX4_init_51 : decode cX4_init 51 = .ok (.newarray .int, 2) := by decide +kernel
theorem dX4_init_53 : decode cX4_init 53 = .ok (.putfield 37, 3) := by decide +kernel
theorem dX4_init_56 : decode cX4_init 56 = .ok (.aload_n 0, 1) := by decide +kernel
theorem dX4_init_57 : decode cX4_init 57 = .ok (.iconst 4, 1) := by decide +kernel
theorem dX4_init_58 : decode cX4_init 58 = .ok (.newarray .int, 2) := by decide +kernel
theorem dX4_init_60 : decode cX4_init 60 = .ok (.putfield 40, 3) := by decide +kernel
theorem dX4_init_63 : decode cX4_init 63 = .ok (.aload_n 0, 1) := by decide +kernel
theorem dX4_init_64 : decode cX4_init 64 = .ok (.iconst 4, 1) := by decide +kernel
theorem dX4_init_65 : decode cX4_init 65 = .ok (.newarray .int, 2) := by decide +kernel
theorem dX4_init_67 : decode cX4_init 67 = .ok (.putfield 43, 3) := by decide +kernel
theorem dX4_init_70 : decode cX4_init 70 = .ok (.aload_n 0, 1) := by decide +kernel
theorem dX4_init_71 : decode cX4_init 71 = .ok (.iconst 4, 1) := by decide +kernel
theorem dX4_init_72 : decode cX4_init 72 = .ok (.newarray .int, 2) := by decide +kernel
theorem dX4_init_74 : decode cX4_init 74 = .ok (.putfield 46, 3) := by decide +kernel
theorem dX4_init_77 : decode cX4_init 77 = .ok (.aload_n 0, 1) := by decide +kernel
theorem dX4_init_78 : decode cX4_init 78 = .ok (.iconst 4, 1) := by decide +kernel
theorem dX4_init_79 : decode cX4_init 79 = .ok (.newarray .int, 2) := by decide +kernel
theorem dX4_init_81 : decode cX4_init 81 = .ok (.putfield 49, 3) := by decide +kernel
theorem dX4_init_84 : decode cX4_init 84 = .ok (.aload_n 0, 1) := by decide +kernel
theorem dX4_init_85 : decode cX4_init 85 = .ok (.iconst 4, 1) := by decide +kernel
theorem dX4_init_86 : decode cX4_init 86 = .ok (.newarray .int, 2) := by decide +kernel
theorem dX4_init_88 : decode cX4_init 88 = .ok (.putfield 52, 3) := by decide +kernel
theorem dX4_init_91 : decode cX4_init 91 = .ok (.aload_n 0, 1) := by decide +kernel
theorem dX4_init_92 : decode cX4_init 92 = .ok (.iconst 4, 1) := by decide +kernel
theorem dX4_init_93 : decode cX4_init 93 = .ok (.newarray .int, 2) := by decide +kernel
theorem dX4_init_95 : decode cX4_init 95 = .ok (.putfield 55, 3) := by decide +kernel
theorem dX4_init_98 : decode cX4_init 98 = .ok (.aload_n 0, 1) := by decide +kernel
theorem dX4_init_99 : decode cX4_init 99 = .ok (.iconst 4, 1) := by decide +kernel
theorem dX4_init_100 : decode cX4_init 100 = .ok (.newarray .int, 2) := by decide +kernel
theorem dX4_init_102 : decode cX4_init 102 = .ok (.putfield 58, 3) := by decide +kernel
theorem dX4_init_105 : decode cX4_init 105 = .ok (.aload_n 0, 1) := by decide +kernel
theorem dX4_init_106 : decode cX4_init 106 = .ok (.aload_n 1, 1) := by decide +kernel
theorem dX4_init_107 : decode cX4_init 107 = .ok (.putfield 61, 3) := by decide +kernel
theorem dX4_init_110 : decode cX4_init 110 = .ok (.return_, 1) := by decide +kernel
theorem dX4_gather_0 : decode cX4_gather 0 = .ok (.aload_n 0, 1) := by decide +kernel
theorem dX4_gather_1 : decode cX4_gather 1 = .ok (.getfield 61, 3) := by decide +kernel
theorem dX4_gather_4 : decode cX4_gather 4 = .ok (.getfield 65, 3) := by decide +kernel
theorem dX4_gather_7 : decode cX4_gather 7 = .ok (.iconst 0, 1) := by decide +kernel
theorem dX4_gather_8 : decode cX4_gather 8 = .ok (.aload_n 0, 1) := by decide +kernel
theorem dX4_gather_9 : decode cX4_gather 9 = .ok (.getfield 30, 3) := by decide +kernel
theorem dX4_gather_12 : decode cX4_gather 12 = .ok (.iconst 0, 1) := by decide +kernel
theorem dX4_gather_13 : decode cX4_gather 13 = .ok (.bipush 6, 2) := by decide +kernel
theorem dX4_gather_15 : decode cX4_gather 15 = .ok (.invokestatic 70, 3) := by decide +kernel
theorem dX4_gather_18 : decode cX4_gather 18 = .ok (.iconst 0, 1) := by decide +kernel
theorem dX4_gather_19 : decode cX4_gather 19 = .ok (.istore_n 2, 1) := by decide +kernel
theorem dX4_gather_20 : decode cX4_gather 20 = .ok (.iconst 0, 1) := by decide +kernel
theorem dX4_gather_21 : decode cX4_gather 21 = .ok (.istore_n 3, 1) := by decide +kernel
theorem dX4_gather_22 : decode cX4_gather 22 = .ok (.iconst 0, 1) := by decide +kernel
theorem dX4_gather_23 : decode cX4_gather 23 = .ok (.istore 4, 2) := by decide +kernel
theorem dX4_gather_25 : decode cX4_gather 25 = .ok (.iload 4, 2) := by decide +kernel
theorem dX4_gather_27 : decode cX4_gather 27 = .ok (.iconst 4, 1) := by decide +kernel
theorem dX4_gather_28 : decode cX4_gather 28 = .ok (.if_icmp .ge 164, 3) := by decide +kernel
theorem dX4_gather_31 : decode cX4_gather 31 = .ok (.aload_n 0, 1) := by decide +kernel
theorem dX4_gather_32 : decode cX4_gather 32 = .ok (.getfield 61, 3) := by decide +kernel
theorem dX4_gather_35 : decode cX4_gather 35 = .ok (.iload 4, 2) := by decide +kernel
theorem dX4_gather_37 : decode cX4_gather 37 = .ok (.invokevirtual 76, 3) := by decide +kernel
theorem dX4_gather_40 : decode cX4_gather 40 = .ok (.ifCond .eq 16, 3) := by decide +kernel
theorem dX4_gather_43 : decode cX4_gather 43 = .ok (.iload_n 1, 1) := by decide +kernel
theorem dX4_gather_44 : decode cX4_gather 44 = .ok (.iload 4, 2) := by decide +kernel
theorem dX4_gather_46 : decode cX4_gather 46 = .ok (.ishr, 1) := by decide +kernel
theorem dX4_gather_47 : decode cX4_gather 47 = .ok (.iconst 1, 1) := by decide +kernel
theorem dX4_gather_48 : decode cX4_gather 48 = .ok (.iand, 1) := by decide +kernel
theorem dX4_gather_49 : decode cX4_gather 49 = .ok (.ifCond .eq 7, 3) := by decide +kernel
theorem dX4_gather_52 : decode cX4_gather 52 = .ok (.iconst 1, 1) := by decide +kernel
theorem dX4_gather_53 : decode cX4_gather 53 = .ok (.goto 4, 3) := by decide +kernel
theorem dX4_gather_56 : decode cX4_gather 56 = .ok (.iconst 0, 1) := by decide +kernel
theorem dX4_gather_57 : decode cX4_gather 57 = .ok (.istore 5, 2) := by decide +kernel
theorem dX4_gather_59 : decode cX4_gather 59 = .ok (.aload_n 0, 1) := by decide +kernel
theorem dX4_gather_60 : decode cX4_gather 60 = .ok (.getfield 34, 3) := by decide +kernel
theorem dX4_gather_63 : decode cX4_gather 63 = .ok (.iload 4, 2) := by decide +kernel
theorem dX4_gather_65 : decode cX4_gather 65 = .ok (.iload 5, 2) := by decide +kernel
theorem dX4_gather_67 : decode cX4_gather 67 = .ok (.ifCond .eq 19, 3) := by decide +kernel
theorem dX4_gather_70 : decode cX4_gather 70 = .ok (.aload_n 0, 1) := by decide +kernel
theorem dX4_gather_71 : decode cX4_gather 71 = .ok (.getfield 61, 3) := by decide +kernel
theorem dX4_gather_74 : decode cX4_gather 74 = .ok (.getfield 65, 3) := by decide +kernel
theorem dX4_gather_77 : decode cX4_gather 77 = .ok (.bipush 6, 2) := by decide +kernel
theorem dX4_gather_79 : decode cX4_gather 79 = .ok (.iload 4, 2) := by decide +kernel
theorem dX4_gather_81 : decode cX4_gather 81 = .ok (.iadd, 1) := by decide +kernel
theorem dX4_gather_82 : decode cX4_gather 82 = .ok (.iaload, 1) := by decide +kernel
theorem dX4_gather_83 : decode cX4_gather 83 = .ok (.goto 4, 3) := by decide +kernel
theorem dX4_gather_86 : decode cX4_gather 86 = .ok (.iconst (-1), 1) := by decide +kernel
theorem dX4_gather_87 : decode cX4_gather 87 = .ok (.iastore, 1) := by decide +kernel
theorem dX4_gather_88 : decode cX4_gather 88 = .ok (.aload_n 0, 1) := by decide +kernel
theorem dX4_gather_89 : decode cX4_gather 89 = .ok (.getfield 37, 3) := by decide +kernel
theorem dX4_gather_92 : decode cX4_gather 92 = .ok (.iload 4, 2) := by decide +kernel
theorem dX4_gather_94 : decode cX4_gather 94 = .ok (.aload_n 0, 1) := by decide +kernel
theorem dX4_gather_95 : decode cX4_gather 95 = .ok (.getfield 61, 3) := by decide +kernel
theorem dX4_gather_98 : decode cX4_gather 98 = .ok (.getfield 65, 3) := by decide +kernel
theorem dX4_gather_101 : decode cX4_gather 101 = .ok (.bipush 10, 2) := by decide +kernel
theorem dX4_gather_103 : decode cX4_gather 103 = .ok (.iload 4, 2) := by decide +kernel
theorem dX4_gather_105 : decode cX4_gather 105 = .ok (.iadd, 1) := by decide +kernel
theorem dX4_gather_106 : decode cX4_gather 106 = .ok (.iaload, 1) := by decide +kernel
theorem dX4_gather_107 : decode cX4_gather 107 = .ok (.iastore, 1) := by decide +kernel
theorem dX4_gather_108 : decode cX4_gather 108 = .ok (.aload_n 0, 1) := by decide +kernel
theorem dX4_gather_109 : decode cX4_gather 109 = .ok (.getfield 40, 3) := by decide +kernel
theorem dX4_gather_112 : decode cX4_gather 112 = .ok (.iload 4, 2) := by decide +kernel
theorem dX4_gather_114 : decode cX4_gather 114 = .ok (.aload_n 0, 1) := by decide +kernel
theorem dX4_gather_115 : decode cX4_gather 115 = .ok (.getfield 61, 3) := by decide +kernel
theorem dX4_gather_118 : decode cX4_gather 118 = .ok (.getfield 65, 3) := by decide +kernel
theorem dX4_gather_121 : decode cX4_gather 121 = .ok (.bipush 14, 2) := by decide +kernel
theorem dX4_gather_123 : decode cX4_gather 123 = .ok (.iload 4, 2) := by decide +kernel
theorem dX4_gather_125 : decode cX4_gather 125 = .ok (.iadd, 1) := by decide +kernel
theorem dX4_gather_126 : decode cX4_gather 126 = .ok (.iaload, 1) := by decide +kernel
theorem dX4_gather_127 : decode cX4_gather 127 = .ok (.iastore, 1) := by decide +kernel
theorem dX4_gather_128 : decode cX4_gather 128 = .ok (.iload_n 2, 1) := by decide +kernel
theorem dX4_gather_129 : decode cX4_gather 129 = .ok (.ifCond .ne 22, 3) := by decide +kernel
theorem dX4_gather_132 : decode cX4_gather 132 = .ok (.iload 5, 2) := by decide +kernel
theorem dX4_gather_134 : decode cX4_gather 134 = .ok (.ifCond .eq 21, 3) := by decide +kernel
theorem dX4_gather_137 : decode cX4_gather 137 = .ok (.aload_n 0, 1) := by decide +kernel
theorem dX4_gather_138 : decode cX4_gather 138 = .ok (.getfield 61, 3) := by decide +kernel
theorem dX4_gather_141 : decode cX4_gather 141 = .ok (.getfield 80, 3) := by decide +kernel
theorem dX4_gather_144 : decode cX4_gather 144 = .ok (.iload 4, 2) := by decide +kernel
theorem dX4_gather_146 : decode cX4_gather 146 = .ok (.iaload, 1) := by decide +kernel
theorem dX4_gather_147 : decode cX4_gather 147 = .ok (.iconst 4, 1) := by decide +kernel
theorem dX4_gather_148 : decode cX4_gather 148 = .ok (.if_icmp .ne 7, 3) := by decide +kernel
theorem dX4_gather_151 : decode cX4_gather 151 = .ok (.iconst 1, 1) := by decide +kernel
theorem dX4_gather_152 : decode cX4_gather 152 = .ok (.goto 4, 3) := by decide +kernel
theorem dX4_gather_155 : decode cX4_gather 155 = .ok (.iconst 0, 1) := by decide +kernel
theorem dX4_gather_156 : decode cX4_gather 156 = .ok (.istore_n 2, 1) := by decide +kernel
theorem dX4_gather_157 : decode cX4_gather 157 = .ok (.iload_n 3, 1) := by decide +kernel
theorem dX4_gather_158 : decode cX4_gather 158 = .ok (.ifCond .ne 22, 3) := by decide +kernel
theorem dX4_gather_161 : decode cX4_gather 161 = .ok (.iload 5, 2) := by decide +kernel
theorem dX4_gather_163 : decode cX4_gather 163 = .ok (.ifCond .eq 21, 3) := by decide +kernel
theorem dX4_gather_166 : decode cX4_gather 166 = .ok (.aload_n 0, 1) := by decide +kernel
theorem dX4_gather_167 : decode cX4_gather 167 = .ok (.getfield 61, 3) := by decide +kernel
theorem dX4_gather_170 : decode cX4_gather 170 = .ok (.getfield 80, 3) := by decide +kernel
theorem dX4_gather_173 : decode cX4_gather 173 = .ok (.iload 4, 2) := by decide +kernel
theorem dX4_gather_175 : decode cX4_gather 175 = .ok (.iaload, 1) := by decide +kernel
theorem dX4_gather_176 : decode cX4_gather 176 = .ok (.iconst 5, 1) := by decide +kernel
theorem dX4_gather_177 : decode cX4_gather 177 = .ok (.if_icmp .ne 7, 3) := by decide +kernel
theorem dX4_gather_180 : decode cX4_gather 180 = .ok (.iconst 1, 1) := by decide +kernel
theorem dX4_gather_181 : decode cX4_gather 181 = .ok (.goto 4, 3) := by decide +kernel
theorem dX4_gather_184 : decode cX4_gather 184 = .ok (.iconst 0, 1) := by decide +kernel
theorem dX4_gather_185 : decode cX4_gather 185 = .ok (.istore_n 3, 1) := by decide +kernel
theorem dX4_gather_186 : decode cX4_gather 186 = .ok (.iinc 4 1, 3) := by decide +kernel
theorem dX4_gather_189 : decode cX4_gather 189 = .ok (.goto (-164), 3) := by decide +kernel
theorem dX4_gather_192 : decode cX4_gather 192 = .ok (.aload_n 0, 1) := by decide +kernel
theorem dX4_gather_193 : decode cX4_gather 193 = .ok (.aload_n 0, 1) := by decide +kernel
theorem dX4_gather_194 : decode cX4_gather 194 = .ok (.getfield 61, 3) := by decide +kernel
theorem dX4_gather_197 : decode cX4_gather 197 = .ok (.getfield 83, 3) := by decide +kernel
theorem dX4_gather_200 : decode cX4_gather 200 = .ok (.putfield 9, 3) := by decide +kernel
theorem dX4_gather_203 : decode cX4_gather 203 = .ok (.iload_n 2, 1) := by decide +kernel
theorem dX4_gather_204 : decode cX4_gather 204 = .ok (.ifCond .eq 11, 3) := by decide +kernel
theorem dX4_gather_207 : decode cX4_gather 207 = .ok (.aload_n 0, 1) := by decide +kernel
theorem dX4_gather_208 : decode cX4_gather 208 = .ok (.iconst 0, 1) := by decide +kernel
theorem dX4_gather_209 : decode cX4_gather 209 = .ok (.putfield 9, 3) := by decide +kernel
theorem dX4_gather_212 : decode cX4_gather 212 = .ok (.goto 19, 3) := by decide +kernel
theorem dX4_gather_215 : decode cX4_gather 215 = .ok (.iload_n 3, 1) := by decide +kernel
theorem dX4_gather_216 : decode cX4_gather 216 = .ok (.ifCond .eq 15, 3) := by decide +kernel
theorem dX4_gather_219 : decode cX4_gather 219 = .ok (.aload_n 0, 1) := by decide +kernel
theorem dX4_gather_220 : decode cX4_gather 220 = .ok (.aload_n 0, 1) := by decide +kernel
theorem dX4_gather_221 : decode cX4_gather 221 = .ok (.getfield 9, 3) := by decide +kernel
theorem dX4_gather_224 : decode cX4_gather 224 = .ok (.iconst 2, 1) := by decide +kernel
theorem dX4_gather_225 : decode cX4_gather 225 = .ok (.invokestatic 84, 3) := by decide +kernel
theorem dX4_gather_228 : decode cX4_gather 228 = .ok (.putfield 9, 3) := by decide +kernel
theorem dX4_gather_231 : decode cX4_gather 231 = .ok (.return_, 1) := by decide +kernel
theorem dX4_tell_0 : decode cX4_tell 0 = .ok (.aload_n 0, 1) := by decide +kernel
theorem dX4_tell_1 : decode cX4_tell 1 = .ok (.getfield 34, 3) := by decide +kernel
theorem dX4_tell_4 : decode cX4_tell 4 = .ok (.iload_n 1, 1) := by decide +kernel
theorem dX4_tell_5 : decode cX4_tell 5 = .ok (.iload_n 2, 1) := by decide +kernel
theorem dX4_tell_6 : decode cX4_tell 6 = .ok (.iastore, 1) := by decide +kernel
theorem dX4_tell_7 : decode cX4_tell 7 = .ok (.aload_n 0, 1) := by decide +kernel
theorem dX4_tell_8 : decode cX4_tell 8 = .ok (.getfield 37, 3) := by decide +kernel
theorem dX4_tell_11 : decode cX4_tell 11 = .ok (.iload_n 1, 1) := by decide +kernel
theorem dX4_tell_12 : decode cX4_tell 12 = .ok (.iload_n 3, 1) := by decide +kernel
theorem dX4_tell_13 : decode cX4_tell 13 = .ok (.iastore, 1) := by decide +kernel
theorem dX4_tell_14 : decode cX4_tell 14 = .ok (.aload_n 0, 1) := by decide +kernel
theorem dX4_tell_15 : decode cX4_tell 15 = .ok (.getfield 40, 3) := by decide +kernel
theorem dX4_tell_18 : decode cX4_tell 18 = .ok (.iload_n 1, 1) := by decide +kernel
theorem dX4_tell_19 : decode cX4_tell 19 = .ok (.iload 4, 2) := by decide +kernel
theorem dX4_tell_21 : decode cX4_tell 21 = .ok (.iastore, 1) := by decide +kernel
theorem dX4_tell_22 : decode cX4_tell 22 = .ok (.return_, 1) := by decide +kernel
theorem dX4_run_0 : decode cX4_run 0 = .ok (.aload_n 0, 1) := by decide +kernel
theorem dX4_run_1 : decode cX4_run 1 = .ok (.iconst 0, 1) := by decide +kernel
theorem dX4_run_2 : decode cX4_run 2 = .ok (.putfield 27, 3) := by decide +kernel
theorem dX4_run_5 : decode cX4_run 5 = .ok (.iconst 0, 1) := by decide +kernel
theorem dX4_run_6 : decode cX4_run 6 = .ok (.istore_n 1, 1) := by decide +kernel
theorem dX4_run_7 : decode cX4_run 7 = .ok (.iload_n 1, 1) := by decide +kernel
theorem dX4_run_8 : decode cX4_run 8 = .ok (.iconst 4, 1) := by decide +kernel
theorem dX4_run_9 : decode cX4_run 9 = .ok (.if_icmp .ge 87, 3) := by decide +kernel
theorem dX4_run_12 : decode cX4_run 12 = .ok (.aload_n 0, 1) := by decide +kernel
theorem dX4_run_13 : decode cX4_run 13 = .ok (.getfield 43, 3) := by decide +kernel
theorem dX4_run_16 : decode cX4_run 16 = .ok (.iload_n 1, 1) := by decide +kernel
theorem dX4_run_17 : decode cX4_run 17 = .ok (.aload_n 0, 1) := by decide +kernel
theorem dX4_run_18 : decode cX4_run 18 = .ok (.getfield 34, 3) := by decide +kernel
theorem dX4_run_21 : decode cX4_run 21 = .ok (.iload_n 1, 1) := by decide +kernel
theorem dX4_run_22 : decode cX4_run 22 = .ok (.iaload, 1) := by decide +kernel
theorem dX4_run_23 : decode cX4_run 23 = .ok (.ifCond .lt 7, 3) := by decide +kernel
theorem dX4_run_26 : decode cX4_run 26 = .ok (.iconst 1, 1) := by decide +kernel
theorem dX4_run_27 : decode cX4_run 27 = .ok (.goto 4, 3) := by decide +kernel
theorem dX4_run_30 : decode cX4_run 30 = .ok (.iconst 0, 1) := by decide +kernel
theorem dX4_run_31 : decode cX4_run 31 = .ok (.iastore, 1) := by decide +kernel
theorem dX4_run_32 : decode cX4_run 32 = .ok (.aload_n 0, 1) := by decide +kernel
theorem dX4_run_33 : decode cX4_run 33 = .ok (.dup, 1) := by decide +kernel
theorem dX4_run_34 : decode cX4_run 34 = .ok (.getfield 27, 3) := by decide +kernel
theorem dX4_run_37 : decode cX4_run 37 = .ok (.aload_n 0, 1) := by decide +kernel
theorem dX4_run_38 : decode cX4_run 38 = .ok (.getfield 34, 3) := by decide +kernel
theorem dX4_run_41 : decode cX4_run 41 = .ok (.iload_n 1, 1) := by decide +kernel
theorem dX4_run_42 : decode cX4_run 42 = .ok (.iaload, 1) := by decide +kernel
theorem dX4_run_43 : decode cX4_run 43 = .ok (.ifCond .lt 7, 3) := by decide +kernel
theorem dX4_run_46 : decode cX4_run 46 = .ok (.iconst 1, 1) := by decide +kernel
theorem dX4_run_47 : decode cX4_run 47 = .ok (.goto 4, 3) := by decide +kernel
theorem dX4_run_50 : decode cX4_run 50 = .ok (.iconst 0, 1) := by decide +kernel
theorem dX4_run_51 : decode cX4_run 51 = .ok (.iadd, 1) := by decide +kernel
theorem dX4_run_52 : decode cX4_run 52 = .ok (.putfield 27, 3) := by decide +kernel
theorem dX4_run_55 : decode cX4_run 55 = .ok (.aload_n 0, 1) := by decide +kernel
theorem dX4_run_56 : decode cX4_run 56 = .ok (.getfield 46, 3) := by decide +kernel
theorem dX4_run_59 : decode cX4_run 59 = .ok (.iload_n 1, 1) := by decide +kernel
theorem dX4_run_60 : decode cX4_run 60 = .ok (.iconst 0, 1) := by decide +kernel
theorem dX4_run_61 : decode cX4_run 61 = .ok (.iastore, 1) := by decide +kernel
theorem dX4_run_62 : decode cX4_run 62 = .ok (.aload_n 0, 1) := by decide +kernel
theorem dX4_run_63 : decode cX4_run 63 = .ok (.getfield 49, 3) := by decide +kernel
theorem dX4_run_66 : decode cX4_run 66 = .ok (.iload_n 1, 1) := by decide +kernel
theorem dX4_run_67 : decode cX4_run 67 = .ok (.iconst 0, 1) := by decide +kernel
theorem dX4_run_68 : decode cX4_run 68 = .ok (.iastore, 1) := by decide +kernel
theorem dX4_run_69 : decode cX4_run 69 = .ok (.aload_n 0, 1) := by decide +kernel
theorem dX4_run_70 : decode cX4_run 70 = .ok (.getfield 52, 3) := by decide +kernel
theorem dX4_run_73 : decode cX4_run 73 = .ok (.iload_n 1, 1) := by decide +kernel
theorem dX4_run_74 : decode cX4_run 74 = .ok (.iconst 0, 1) := by decide +kernel
theorem dX4_run_75 : decode cX4_run 75 = .ok (.iastore, 1) := by decide +kernel
theorem dX4_run_76 : decode cX4_run 76 = .ok (.aload_n 0, 1) := by decide +kernel
theorem dX4_run_77 : decode cX4_run 77 = .ok (.getfield 55, 3) := by decide +kernel
theorem dX4_run_80 : decode cX4_run 80 = .ok (.iload_n 1, 1) := by decide +kernel
theorem dX4_run_81 : decode cX4_run 81 = .ok (.iconst 0, 1) := by decide +kernel
theorem dX4_run_82 : decode cX4_run 82 = .ok (.iastore, 1) := by decide +kernel
theorem dX4_run_83 : decode cX4_run 83 = .ok (.aload_n 0, 1) := by decide +kernel
theorem dX4_run_84 : decode cX4_run 84 = .ok (.getfield 58, 3) := by decide +kernel
theorem dX4_run_87 : decode cX4_run 87 = .ok (.iload_n 1, 1) := by decide +kernel
theorem dX4_run_88 : decode cX4_run 88 = .ok (.iconst 0, 1) := by decide +kernel
theorem dX4_run_89 : decode cX4_run 89 = .ok (.iastore, 1) := by decide +kernel
theorem dX4_run_90 : decode cX4_run 90 = .ok (.iinc 1 1, 3) := by decide +kernel
theorem dX4_run_93 : decode cX4_run 93 = .ok (.goto (-86), 3) := by decide +kernel
theorem dX4_run_96 : decode cX4_run 96 = .ok (.aload_n 0, 1) := by decide +kernel
theorem dX4_run_97 : decode cX4_run 97 = .ok (.iconst 0, 1) := by decide +kernel
theorem dX4_run_98 : decode cX4_run 98 = .ok (.putfield 15, 3) := by decide +kernel
theorem dX4_run_101 : decode cX4_run 101 = .ok (.aload_n 0, 1) := by decide +kernel
theorem dX4_run_102 : decode cX4_run 102 = .ok (.iconst 0, 1) := by decide +kernel
theorem dX4_run_103 : decode cX4_run 103 = .ok (.putfield 21, 3) := by decide +kernel
theorem dX4_run_106 : decode cX4_run 106 = .ok (.aload_n 0, 1) := by decide +kernel
theorem dX4_run_107 : decode cX4_run 107 = .ok (.iconst 0, 1) := by decide +kernel
theorem dX4_run_108 : decode cX4_run 108 = .ok (.putfield 24, 3) := by decide +kernel
theorem dX4_run_111 : decode cX4_run 111 = .ok (.aload_n 0, 1) := by decide +kernel
theorem dX4_run_112 : decode cX4_run 112 = .ok (.iconst 1, 1) := by decide +kernel
theorem dX4_run_113 : decode cX4_run 113 = .ok (.putfield 18, 3) := by decide +kernel
theorem dX4_run_116 : decode cX4_run 116 = .ok (.aload_n 0, 1) := by decide +kernel
theorem dX4_run_117 : decode cX4_run 117 = .ok (.getfield 18, 3) := by decide +kernel
theorem dX4_run_120 : decode cX4_run 120 = .ok (.sipush 150, 3) := by decide +kernel
theorem dX4_run_123 : decode cX4_run 123 = .ok (.if_icmp .gt 53, 3) := by decide +kernel
theorem dX4_run_126 : decode cX4_run 126 = .ok (.aload_n 0, 1) := by decide +kernel
theorem dX4_run_127 : decode cX4_run 127 = .ok (.getfield 27, 3) := by decide +kernel
theorem dX4_run_130 : decode cX4_run 130 = .ok (.ifCond .le 46, 3) := by decide +kernel
theorem dX4_run_133 : decode cX4_run 133 = .ok (.aload_n 0, 1) := by decide +kernel
theorem dX4_run_134 : decode cX4_run 134 = .ok (.aload_n 0, 1) := by decide +kernel
theorem dX4_run_135 : decode cX4_run 135 = .ok (.getfield 18, 3) := by decide +kernel
theorem dX4_run_138 : decode cX4_run 138 = .ok (.putfield 24, 3) := by decide +kernel
theorem dX4_run_141 : decode cX4_run 141 = .ok (.iconst 0, 1) := by decide +kernel
theorem dX4_run_142 : decode cX4_run 142 = .ok (.istore_n 1, 1) := by decide +kernel
theorem dX4_run_143 : decode cX4_run 143 = .ok (.iload_n 1, 1) := by decide +kernel
theorem dX4_run_144 : decode cX4_run 144 = .ok (.iconst 4, 1) := by decide +kernel
theorem dX4_run_145 : decode cX4_run 145 = .ok (.if_icmp .ge 14, 3) := by decide +kernel
theorem dX4_run_148 : decode cX4_run 148 = .ok (.aload_n 0, 1) := by decide +kernel
theorem dX4_run_149 : decode cX4_run 149 = .ok (.iload_n 1, 1) := by decide +kernel
theorem dX4_run_150 : decode cX4_run 150 = .ok (.invokevirtual 90, 3) := by decide +kernel
theorem dX4_run_153 : decode cX4_run 153 = .ok (.iinc 1 1, 3) := by decide +kernel
theorem dX4_run_156 : decode cX4_run 156 = .ok (.goto (-13), 3) := by decide +kernel
theorem dX4_run_159 : decode cX4_run 159 = .ok (.aload_n 0, 1) := by decide +kernel
theorem dX4_run_160 : decode cX4_run 160 = .ok (.invokevirtual 94, 3) := by decide +kernel
theorem dX4_run_163 : decode cX4_run 163 = .ok (.aload_n 0, 1) := by decide +kernel
theorem dX4_run_164 : decode cX4_run 164 = .ok (.dup, 1) := by decide +kernel
theorem dX4_run_165 : decode cX4_run 165 = .ok (.getfield 18, 3) := by decide +kernel
theorem dX4_run_168 : decode cX4_run 168 = .ok (.iconst 1, 1) := by decide +kernel
theorem dX4_run_169 : decode cX4_run 169 = .ok (.iadd, 1) := by decide +kernel
theorem dX4_run_170 : decode cX4_run 170 = .ok (.putfield 18, 3) := by decide +kernel
theorem dX4_run_173 : decode cX4_run 173 = .ok (.goto (-57), 3) := by decide +kernel
theorem dX4_run_176 : decode cX4_run 176 = .ok (.return_, 1) := by decide +kernel
theorem dX4_isIn_0 : decode cX4_isIn 0 = .ok (.aload_n 0, 1) := by decide +kernel
theorem dX4_isIn_1 : decode cX4_isIn 1 = .ok (.getfield 43, 3) := by decide +kernel
theorem dX4_isIn_4 : decode cX4_isIn 4 = .ok (.iload_n 1, 1) := by decide +kernel
theorem dX4_isIn_5 : decode cX4_isIn 5 = .ok (.iaload, 1) := by decide +kernel
theorem dX4_isIn_6 : decode cX4_isIn 6 = .ok (.iconst 1, 1) := by decide +kernel
theorem dX4_isIn_7 : decode cX4_isIn 7 = .ok (.if_icmp .lt 17, 3) := by decide +kernel
theorem dX4_isIn_10 : decode cX4_isIn 10 = .ok (.aload_n 0, 1) := by decide +kernel
theorem dX4_isIn_11 : decode cX4_isIn 11 = .ok (.getfield 43, 3) := by decide +kernel
theorem dX4_isIn_14 : decode cX4_isIn 14 = .ok (.iload_n 1, 1) := by decide +kernel
theorem dX4_isIn_15 : decode cX4_isIn 15 = .ok (.iaload, 1) := by decide +kernel
theorem dX4_isIn_16 : decode cX4_isIn 16 = .ok (.iconst 3, 1) := by decide +kernel
theorem dX4_isIn_17 : decode cX4_isIn 17 = .ok (.if_icmp .gt 7, 3) := by decide +kernel
theorem dX4_isIn_20 : decode cX4_isIn 20 = .ok (.iconst 1, 1) := by decide +kernel
theorem dX4_isIn_21 : decode cX4_isIn 21 = .ok (.goto 4, 3) := by decide +kernel
theorem dX4_isIn_24 : decode cX4_isIn 24 = .ok (.iconst 0, 1) := by decide +kernel
theorem dX4_isIn_25 : decode cX4_isIn 25 = .ok (.ireturn, 1) := by decide +kernel
theorem dX4_move_0 : decode cX4_move 0 = .ok (.aload_n 0, 1) := by decide +kernel
theorem dX4_move_1 : decode cX4_move 1 = .ok (.iload_n 1, 1) := by decide +kernel
theorem dX4_move_2 : decode cX4_move 2 = .ok (.invokevirtual 97, 3) := by decide +kernel
theorem dX4_move_5 : decode cX4_move 5 = .ok (.ifCond .ne 4, 3) := by decide +kernel
theorem dX4_move_8 : decode cX4_move 8 = .ok (.return_, 1) := by decide +kernel
theorem dX4_move_9 : decode cX4_move 9 = .ok (.aload_n 0, 1) := by decide +kernel
theorem dX4_move_10 : decode cX4_move 10 = .ok (.getfield 46, 3) := by decide +kernel
theorem dX4_move_13 : decode cX4_move 13 = .ok (.iload_n 1, 1) := by decide +kernel
theorem dX4_move_14 : decode cX4_move 14 = .ok (.dup2, 1) := by decide +kernel
theorem dX4_move_15 : decode cX4_move 15 = .ok (.iaload, 1) := by decide +kernel
theorem dX4_move_16 : decode cX4_move 16 = .ok (.iconst 1, 1) := by decide +kernel
theorem dX4_move_17 : decode cX4_move 17 = .ok (.iadd, 1) := by decide +kernel
theorem dX4_move_18 : decode cX4_move 18 = .ok (.iastore, 1) := by decide +kernel
theorem dX4_move_19 : decode cX4_move 19 = .ok (.aload_n 0, 1) := by decide +kernel
theorem dX4_move_20 : decode cX4_move 20 = .ok (.getfield 43, 3) := by decide +kernel
theorem dX4_move_23 : decode cX4_move 23 = .ok (.iload_n 1, 1) := by decide +kernel
theorem dX4_move_24 : decode cX4_move 24 = .ok (.iaload, 1) := by decide +kernel
theorem dX4_move_25 : decode cX4_move 25 = .ok (.iconst 2, 1) := by decide +kernel
theorem dX4_move_26 : decode cX4_move 26 = .ok (.if_icmp .ne 28, 3) := by decide +kernel
theorem dX4_move_29 : decode cX4_move 29 = .ok (.aload_n 0, 1) := by decide +kernel
theorem dX4_move_30 : decode cX4_move 30 = .ok (.getfield 46, 3) := by decide +kernel
theorem dX4_move_33 : decode cX4_move 33 = .ok (.iload_n 1, 1) := by decide +kernel
theorem dX4_move_34 : decode cX4_move 34 = .ok (.iaload, 1) := by decide +kernel
theorem dX4_move_35 : decode cX4_move 35 = .ok (.iconst 2, 1) := by decide +kernel
theorem dX4_move_36 : decode cX4_move 36 = .ok (.if_icmp .lt 44, 3) := by decide +kernel
theorem dX4_move_39 : decode cX4_move 39 = .ok (.aload_n 0, 1) := by decide +kernel
theorem dX4_move_40 : decode cX4_move 40 = .ok (.getfield 46, 3) := by decide +kernel
theorem dX4_move_43 : decode cX4_move 43 = .ok (.iload_n 1, 1) := by decide +kernel
theorem dX4_move_44 : decode cX4_move 44 = .ok (.iconst 0, 1) := by decide +kernel
theorem dX4_move_45 : decode cX4_move 45 = .ok (.iastore, 1) := by decide +kernel
theorem dX4_move_46 : decode cX4_move 46 = .ok (.aload_n 0, 1) := by decide +kernel
theorem dX4_move_47 : decode cX4_move 47 = .ok (.iload_n 1, 1) := by decide +kernel
theorem dX4_move_48 : decode cX4_move 48 = .ok (.invokevirtual 100, 3) := by decide +kernel
theorem dX4_move_51 : decode cX4_move 51 = .ok (.goto 29, 3) := by decide +kernel
theorem dX4_move_54 : decode cX4_move 54 = .ok (.aload_n 0, 1) := by decide +kernel
theorem dX4_move_55 : decode cX4_move 55 = .ok (.getfield 46, 3) := by decide +kernel
theorem dX4_move_58 : decode cX4_move 58 = .ok (.iload_n 1, 1) := by decide +kernel
theorem dX4_move_59 : decode cX4_move 59 = .ok (.iaload, 1) := by decide +kernel
theorem dX4_move_60 : decode cX4_move 60 = .ok (.aload_n 0, 1) := by decide +kernel
theorem dX4_move_61 : decode cX4_move 61 = .ok (.iload_n 1, 1) := by decide +kernel
theorem dX4_move_62 : decode cX4_move 62 = .ok (.invokevirtual 103, 3) := by decide +kernel
theorem dX4_move_65 : decode cX4_move 65 = .ok (.if_icmp .lt 15, 3) := by decide +kernel
theorem dX4_move_68 : decode cX4_move 68 = .ok (.aload_n 0, 1) := by decide +kernel
theorem dX4_move_69 : decode cX4_move 69 = .ok (.getfield 46, 3) := by decide +kernel
theorem dX4_move_72 : decode cX4_move 72 = .ok (.iload_n 1, 1) := by decide +kernel
theorem dX4_move_73 : decode cX4_move 73 = .ok (.iconst 0, 1) := by decide +kernel
theorem dX4_move_74 : decode cX4_move 74 = .ok (.iastore, 1) := by decide +kernel
theorem dX4_move_75 : decode cX4_move 75 = .ok (.aload_n 0, 1) := by decide +kernel
theorem dX4_move_76 : decode cX4_move 76 = .ok (.iload_n 1, 1) := by decide +kernel
theorem dX4_move_77 : decode cX4_move 77 = .ok (.invokevirtual 107, 3) := by decide +kernel
theorem dX4_move_80 : decode cX4_move 80 = .ok (.return_, 1) := by decide +kernel
theorem dX4_pace_0 : decode cX4_pace 0 = .ok (.aload_n 0, 1) := by decide +kernel
theorem dX4_pace_1 : decode cX4_pace 1 = .ok (.getfield 61, 3) := by decide +kernel
theorem dX4_pace_4 : decode cX4_pace 4 = .ok (.getfield 80, 3) := by decide +kernel
theorem dX4_pace_7 : decode cX4_pace 7 = .ok (.iload_n 1, 1) := by decide +kernel
theorem dX4_pace_8 : decode cX4_pace 8 = .ok (.iaload, 1) := by decide +kernel
theorem dX4_pace_9 : decode cX4_pace 9 = .ok (.iconst 3, 1) := by decide +kernel
theorem dX4_pace_10 : decode cX4_pace 10 = .ok (.if_icmp .ne 15, 3) := by decide +kernel
theorem dX4_pace_13 : decode cX4_pace 13 = .ok (.iconst 2, 1) := by decide +kernel
theorem dX4_pace_14 : decode cX4_pace 14 = .ok (.aload_n 0, 1) := by decide +kernel
theorem dX4_pace_15 : decode cX4_pace 15 = .ok (.getfield 52, 3) := by decide +kernel
theorem dX4_pace_18 : decode cX4_pace 18 = .ok (.iload_n 1, 1) := by decide +kernel
theorem dX4_pace_19 : decode cX4_pace 19 = .ok (.iaload, 1) := by decide +kernel
theorem dX4_pace_20 : decode cX4_pace 20 = .ok (.bipush 12, 2) := by decide +kernel
theorem dX4_pace_22 : decode cX4_pace 22 = .ok (.idiv, 1) := by decide +kernel
theorem dX4_pace_23 : decode cX4_pace 23 = .ok (.iadd, 1) := by decide +kernel
theorem dX4_pace_24 : decode cX4_pace 24 = .ok (.ireturn, 1) := by decide +kernel
theorem dX4_pace_25 : decode cX4_pace 25 = .ok (.aload_n 0, 1) := by decide +kernel
theorem dX4_pace_26 : decode cX4_pace 26 = .ok (.getfield 61, 3) := by decide +kernel
theorem dX4_pace_29 : decode cX4_pace 29 = .ok (.getfield 80, 3) := by decide +kernel
theorem dX4_pace_32 : decode cX4_pace 32 = .ok (.iload_n 1, 1) := by decide +kernel
theorem dX4_pace_33 : decode cX4_pace 33 = .ok (.iaload, 1) := by decide +kernel
theorem dX4_pace_34 : decode cX4_pace 34 = .ok (.iconst 2, 1) := by decide +kernel
theorem dX4_pace_35 : decode cX4_pace 35 = .ok (.if_icmp .ne 7, 3) := by decide +kernel
theorem dX4_pace_38 : decode cX4_pace 38 = .ok (.iconst 1, 1) := by decide +kernel
theorem dX4_pace_39 : decode cX4_pace 39 = .ok (.goto 4, 3) := by decide +kernel
theorem dX4_pace_42 : decode cX4_pace 42 = .ok (.iconst 2, 1) := by decide +kernel
theorem dX4_pace_43 : decode cX4_pace 43 = .ok (.aload_n 0, 1) := by decide +kernel
theorem dX4_pace_44 : decode cX4_pace 44 = .ok (.getfield 52, 3) := by decide +kernel
theorem dX4_pace_47 : decode cX4_pace 47 = .ok (.iload_n 1, 1) := by decide +kernel
theorem dX4_pace_48 : decode cX4_pace 48 = .ok (.iaload, 1) := by decide +kernel
theorem dX4_pace_49 : decode cX4_pace 49 = .ok (.bipush 6, 2) := by decide +kernel
theorem dX4_pace_51 : decode cX4_pace 51 = .ok (.idiv, 1) := by decide +kernel
theorem dX4_pace_52 : decode cX4_pace 52 = .ok (.iadd, 1) := by decide +kernel
theorem dX4_pace_53 : decode cX4_pace 53 = .ok (.ireturn, 1) := by decide +kernel
theorem dX4_step_0 : decode cX4_step 0 = .ok (.aload_n 0, 1) := by decide +kernel
theorem dX4_step_1 : decode cX4_step 1 = .ok (.getfield 43, 3) := by decide +kernel
theorem dX4_step_4 : decode cX4_step 4 = .ok (.iload_n 1, 1) := by decide +kernel
theorem dX4_step_5 : decode cX4_step 5 = .ok (.iaload, 1) := by decide +kernel
theorem dX4_step_6 : decode cX4_step 6 = .ok (.iconst 1, 1) := by decide +kernel
theorem dX4_step_7 : decode cX4_step 7 = .ok (.if_icmp .ne 7, 3) := by decide +kernel
theorem dX4_step_10 : decode cX4_step 10 = .ok (.iconst 1, 1) := by decide +kernel
theorem dX4_step_11 : decode cX4_step 11 = .ok (.goto 4, 3) := by decide +kernel
theorem dX4_step_14 : decode cX4_step 14 = .ok (.iconst 0, 1) := by decide +kernel
theorem dX4_step_15 : decode cX4_step 15 = .ok (.istore_n 2, 1) := by decide +kernel
theorem dX4_step_16 : decode cX4_step 16 = .ok (.aload_n 0, 1) := by decide +kernel
theorem dX4_step_17 : decode cX4_step 17 = .ok (.getfield 49, 3) := by decide +kernel
theorem dX4_step_20 : decode cX4_step 20 = .ok (.iload_n 1, 1) := by decide +kernel
theorem dX4_step_21 : decode cX4_step 21 = .ok (.dup2, 1) := by decide +kernel
theorem dX4_step_22 : decode cX4_step 22 = .ok (.iaload, 1) := by decide +kernel
theorem dX4_step_23 : decode cX4_step 23 = .ok (.iload_n 2, 1) := by decide +kernel
theorem dX4_step_24 : decode cX4_step 24 = .ok (.ifCond .eq 7, 3) := by decide +kernel
theorem dX4_step_27 : decode cX4_step 27 = .ok (.iconst 1, 1) := by decide +kernel
theorem dX4_step_28 : decode cX4_step 28 = .ok (.goto 4, 3) := by decide +kernel
theorem dX4_step_31 : decode cX4_step 31 = .ok (.iconst (-1), 1) := by decide +kernel
theorem dX4_step_32 : decode cX4_step 32 = .ok (.iadd, 1) := by decide +kernel
theorem dX4_step_33 : decode cX4_step 33 = .ok (.iastore, 1) := by decide +kernel
theorem dX4_step_34 : decode cX4_step 34 = .ok (.aload_n 0, 1) := by decide +kernel
theorem dX4_step_35 : decode cX4_step 35 = .ok (.getfield 61, 3) := by decide +kernel
theorem dX4_step_38 : decode cX4_step 38 = .ok (.getfield 110, 3) := by decide +kernel
theorem dX4_step_41 : decode cX4_step 41 = .ok (.aload_n 0, 1) := by decide +kernel
theorem dX4_step_42 : decode cX4_step 42 = .ok (.getfield 34, 3) := by decide +kernel
theorem dX4_step_45 : decode cX4_step 45 = .ok (.iload_n 1, 1) := by decide +kernel
theorem dX4_step_46 : decode cX4_step 46 = .ok (.iaload, 1) := by decide +kernel
theorem dX4_step_47 : decode cX4_step 47 = .ok (.iaload, 1) := by decide +kernel
theorem dX4_step_48 : decode cX4_step 48 = .ok (.istore_n 3, 1) := by decide +kernel
theorem dX4_step_49 : decode cX4_step 49 = .ok (.aload_n 0, 1) := by decide +kernel
theorem dX4_step_50 : decode cX4_step 50 = .ok (.dup, 1) := by decide +kernel
theorem dX4_step_51 : decode cX4_step 51 = .ok (.getfield 15, 3) := by decide +kernel
theorem dX4_step_54 : decode cX4_step 54 = .ok (.aload_n 0, 1) := by decide +kernel
theorem dX4_step_55 : decode cX4_step 55 = .ok (.getfield 61, 3) := by decide +kernel
theorem dX4_step_58 : decode cX4_step 58 = .ok (.getfield 113, 3) := by decide +kernel
theorem dX4_step_61 : decode cX4_step 61 = .ok (.aload_n 0, 1) := by decide +kernel
theorem dX4_step_62 : decode cX4_step 62 = .ok (.getfield 61, 3) := by decide +kernel
theorem dX4_step_65 : decode cX4_step 65 = .ok (.getfield 116, 3) := by decide +kernel
theorem dX4_step_68 : decode cX4_step 68 = .ok (.iload_n 3, 1) := by decide +kernel
theorem dX4_step_69 : decode cX4_step 69 = .ok (.aload_n 0, 1) := by decide +kernel
theorem dX4_step_70 : decode cX4_step 70 = .ok (.getfield 49, 3) := by decide +kernel
theorem dX4_step_73 : decode cX4_step 73 = .ok (.iload_n 1, 1) := by decide +kernel
theorem dX4_step_74 : decode cX4_step 74 = .ok (.iaload, 1) := by decide +kernel
theorem dX4_step_75 : decode cX4_step 75 = .ok (.invokestatic 119, 3) := by decide +kernel
theorem dX4_step_78 : decode cX4_step 78 = .ok (.iaload, 1) := by decide +kernel
theorem dX4_step_79 : decode cX4_step 79 = .ok (.iadd, 1) := by decide +kernel
theorem dX4_step_80 : decode cX4_step 80 = .ok (.putfield 15, 3) := by decide +kernel
theorem dX4_step_83 : decode cX4_step 83 = .ok (.iload_n 2, 1) := by decide +kernel
theorem dX4_step_84 : decode cX4_step 84 = .ok (.ifCond .eq 33, 3) := by decide +kernel
theorem dX4_step_87 : decode cX4_step 87 = .ok (.aload_n 0, 1) := by decide +kernel
theorem dX4_step_88 : decode cX4_step 88 = .ok (.getfield 49, 3) := by decide +kernel
theorem dX4_step_91 : decode cX4_step 91 = .ok (.iload_n 1, 1) := by decide +kernel
theorem dX4_step_92 : decode cX4_step 92 = .ok (.iaload, 1) := by decide +kernel
theorem dX4_step_93 : decode cX4_step 93 = .ok (.aload_n 0, 1) := by decide +kernel
theorem dX4_step_94 : decode cX4_step 94 = .ok (.getfield 61, 3) := by decide +kernel
theorem dX4_step_97 : decode cX4_step 97 = .ok (.getfield 116, 3) := by decide +kernel
theorem dX4_step_100 : decode cX4_step 100 = .ok (.iload_n 3, 1) := by decide +kernel
theorem dX4_step_101 : decode cX4_step 101 = .ok (.invokestatic 123, 3) := by decide +kernel
theorem dX4_step_104 : decode cX4_step 104 = .ok (.if_icmp .ne 13, 3) := by decide +kernel
theorem dX4_step_107 : decode cX4_step 107 = .ok (.aload_n 0, 1) := by decide +kernel
theorem dX4_step_108 : decode cX4_step 108 = .ok (.getfield 43, 3) := by decide +kernel
theorem dX4_step_111 : decode cX4_step 111 = .ok (.iload_n 1, 1) := by decide +kernel
theorem dX4_step_112 : decode cX4_step 112 = .ok (.iconst 2, 1) := by decide +kernel
theorem dX4_step_113 : decode cX4_step 113 = .ok (.iastore, 1) := by decide +kernel
theorem dX4_step_114 : decode cX4_step 114 = .ok (.goto 21, 3) := by decide +kernel
theorem dX4_step_117 : decode cX4_step 117 = .ok (.iload_n 2, 1) := by decide +kernel
theorem dX4_step_118 : decode cX4_step 118 = .ok (.ifCond .ne 17, 3) := by decide +kernel
theorem dX4_step_121 : decode cX4_step 121 = .ok (.aload_n 0, 1) := by decide +kernel
theorem dX4_step_122 : decode cX4_step 122 = .ok (.getfield 49, 3) := by decide +kernel
theorem dX4_step_125 : decode cX4_step 125 = .ok (.iload_n 1, 1) := by decide +kernel
theorem dX4_step_126 : decode cX4_step 126 = .ok (.iaload, 1) := by decide +kernel
theorem dX4_step_127 : decode cX4_step 127 = .ok (.ifCond .ne 8, 3) := by decide +kernel
theorem dX4_step_130 : decode cX4_step 130 = .ok (.aload_n 0, 1) := by decide +kernel
theorem dX4_step_131 : decode cX4_step 131 = .ok (.iload_n 1, 1) := by decide +kernel
theorem dX4_step_132 : decode cX4_step 132 = .ok (.invokevirtual 126, 3) := by decide +kernel
theorem dX4_step_135 : decode cX4_step 135 = .ok (.return_, 1) := by decide +kernel
theorem dX4_cellOnWay_0 : decode cX4_cellOnWay 0 = .ok (.iload_n 1, 1) := by decide +kernel
theorem dX4_cellOnWay_1 : decode cX4_cellOnWay 1 = .ok (.bipush 6, 2) := by decide +kernel
theorem dX4_cellOnWay_3 : decode cX4_cellOnWay 3 = .ok (.irem, 1) := by decide +kernel
theorem dX4_cellOnWay_4 : decode cX4_cellOnWay 4 = .ok (.iload_n 0, 1) := by decide +kernel
theorem dX4_cellOnWay_5 : decode cX4_cellOnWay 5 = .ok (.bipush 6, 2) := by decide +kernel
theorem dX4_cellOnWay_7 : decode cX4_cellOnWay 7 = .ok (.irem, 1) := by decide +kernel
theorem dX4_cellOnWay_8 : decode cX4_cellOnWay 8 = .ok (.isub, 1) := by decide +kernel
theorem dX4_cellOnWay_9 : decode cX4_cellOnWay 9 = .ok (.istore_n 3, 1) := by decide +kernel
theorem dX4_cellOnWay_10 : decode cX4_cellOnWay 10 = .ok (.iload_n 2, 1) := by decide +kernel
theorem dX4_cellOnWay_11 : decode cX4_cellOnWay 11 = .ok (.iload_n 3, 1) := by decide +kernel
theorem dX4_cellOnWay_12 : decode cX4_cellOnWay 12 = .ok (.invokestatic 129, 3) := by decide +kernel
theorem dX4_cellOnWay_15 : decode cX4_cellOnWay 15 = .ok (.invokestatic 84, 3) := by decide +kernel
theorem dX4_cellOnWay_18 : decode cX4_cellOnWay 18 = .ok (.istore 4, 2) := by decide +kernel
theorem dX4_cellOnWay_20 : decode cX4_cellOnWay 20 = .ok (.iload_n 1, 1) := by decide +kernel
theorem dX4_cellOnWay_21 : decode cX4_cellOnWay 21 = .ok (.bipush 6, 2) := by decide +kernel
theorem dX4_cellOnWay_23 : decode cX4_cellOnWay 23 = .ok (.idiv, 1) := by decide +kernel
theorem dX4_cellOnWay_24 : decode cX4_cellOnWay 24 = .ok (.iload_n 0, 1) := by decide +kernel
theorem dX4_cellOnWay_25 : decode cX4_cellOnWay 25 = .ok (.bipush 6, 2) := by decide +kernel
theorem dX4_cellOnWay_27 : decode cX4_cellOnWay 27 = .ok (.idiv, 1) := by decide +kernel
theorem dX4_cellOnWay_28 : decode cX4_cellOnWay 28 = .ok (.isub, 1) := by decide +kernel
theorem dX4_cellOnWay_29 : decode cX4_cellOnWay 29 = .ok (.istore 5, 2) := by decide +kernel
theorem dX4_cellOnWay_31 : decode cX4_cellOnWay 31 = .ok (.iload_n 0, 1) := by decide +kernel
theorem dX4_cellOnWay_32 : decode cX4_cellOnWay 32 = .ok (.iload 4, 2) := by decide +kernel
theorem dX4_cellOnWay_34 : decode cX4_cellOnWay 34 = .ok (.iload_n 3, 1) := by decide +kernel
theorem dX4_cellOnWay_35 : decode cX4_cellOnWay 35 = .ok (.invokestatic 132, 3) := by decide +kernel
theorem dX4_cellOnWay_38 : decode cX4_cellOnWay 38 = .ok (.imul, 1) := by decide +kernel
theorem dX4_cellOnWay_39 : decode cX4_cellOnWay 39 = .ok (.iadd, 1) := by decide +kernel
theorem dX4_cellOnWay_40 : decode cX4_cellOnWay 40 = .ok (.iload_n 2, 1) := by decide +kernel
theorem dX4_cellOnWay_41 : decode cX4_cellOnWay 41 = .ok (.iload 4, 2) := by decide +kernel
theorem dX4_cellOnWay_43 : decode cX4_cellOnWay 43 = .ok (.isub, 1) := by decide +kernel
theorem dX4_cellOnWay_44 : decode cX4_cellOnWay 44 = .ok (.iload 5, 2) := by decide +kernel
theorem dX4_cellOnWay_46 : decode cX4_cellOnWay 46 = .ok (.invokestatic 132, 3) := by decide +kernel
theorem dX4_cellOnWay_49 : decode cX4_cellOnWay 49 = .ok (.imul, 1) := by decide +kernel
theorem dX4_cellOnWay_50 : decode cX4_cellOnWay 50 = .ok (.bipush 6, 2) := by decide +kernel
theorem dX4_cellOnWay_52 : decode cX4_cellOnWay 52 = .ok (.imul, 1) := by decide +kernel
theorem dX4_cellOnWay_53 : decode cX4_cellOnWay 53 = .ok (.iadd, 1) := by decide +kernel
theorem dX4_cellOnWay_54 : decode cX4_cellOnWay 54 = .ok (.ireturn, 1) := by decide +kernel
theorem dX4_pick_0 : decode cX4_pick 0 = .ok (.aload_n 0, 1) := by decide +kernel
theorem dX4_pick_1 : decode cX4_pick 1 = .ok (.getfield 34, 3) := by decide +kernel
theorem dX4_pick_4 : decode cX4_pick 4 = .ok (.iload_n 1, 1) := by decide +kernel
theorem dX4_pick_5 : decode cX4_pick 5 = .ok (.iaload, 1) := by decide +kernel
theorem dX4_pick_6 : decode cX4_pick 6 = .ok (.istore_n 2, 1) := by decide +kernel
theorem dX4_pick_7 : decode cX4_pick 7 = .ok (.aload_n 0, 1) := by decide +kernel
theorem dX4_pick_8 : decode cX4_pick 8 = .ok (.getfield 30, 3) := by decide +kernel
theorem dX4_pick_11 : decode cX4_pick 11 = .ok (.iload_n 2, 1) := by decide +kernel
theorem dX4_pick_12 : decode cX4_pick 12 = .ok (.iaload, 1) := by decide +kernel
theorem dX4_pick_13 : decode cX4_pick 13 = .ok (.ifCond .le 66, 3) := by decide +kernel
theorem dX4_pick_16 : decode cX4_pick 16 = .ok (.aload_n 0, 1) := by decide +kernel
theorem dX4_pick_17 : decode cX4_pick 17 = .ok (.getfield 30, 3) := by decide +kernel
theorem dX4_pick_20 : decode cX4_pick 20 = .ok (.iload_n 2, 1) := by decide +kernel
theorem dX4_pick_21 : decode cX4_pick 21 = .ok (.dup2, 1) := by decide +kernel
theorem dX4_pick_22 : decode cX4_pick 22 = .ok (.iaload, 1) := by decide +kernel
theorem dX4_pick_23 : decode cX4_pick 23 = .ok (.iconst 1, 1) := by decide +kernel
theorem dX4_pick_24 : decode cX4_pick 24 = .ok (.isub, 1) := by decide +kernel
theorem dX4_pick_25 : decode cX4_pick 25 = .ok (.iastore, 1) := by decide +kernel
theorem dX4_pick_26 : decode cX4_pick 26 = .ok (.aload_n 0, 1) := by decide +kernel
theorem dX4_pick_27 : decode cX4_pick 27 = .ok (.getfield 55, 3) := by decide +kernel
theorem dX4_pick_30 : decode cX4_pick 30 = .ok (.iload_n 1, 1) := by decide +kernel
theorem dX4_pick_31 : decode cX4_pick 31 = .ok (.dup2, 1) := by decide +kernel
theorem dX4_pick_32 : decode cX4_pick 32 = .ok (.iaload, 1) := by decide +kernel
theorem dX4_pick_33 : decode cX4_pick 33 = .ok (.iconst 1, 1) := by decide +kernel
theorem dX4_pick_34 : decode cX4_pick 34 = .ok (.iadd, 1) := by decide +kernel
theorem dX4_pick_35 : decode cX4_pick 35 = .ok (.iastore, 1) := by decide +kernel
theorem dX4_pick_36 : decode cX4_pick 36 = .ok (.aload_n 0, 1) := by decide +kernel
theorem dX4_pick_37 : decode cX4_pick 37 = .ok (.dup, 1) := by decide +kernel
theorem dX4_pick_38 : decode cX4_pick 38 = .ok (.getfield 15, 3) := by decide +kernel
theorem dX4_pick_41 : decode cX4_pick 41 = .ok (.iconst 1, 1) := by decide +kernel
theorem dX4_pick_42 : decode cX4_pick 42 = .ok (.iadd, 1) := by decide +kernel
theorem dX4_pick_43 : decode cX4_pick 43 = .ok (.putfield 15, 3) := by decide +kernel
theorem dX4_pick_46 : decode cX4_pick 46 = .ok (.aload_n 0, 1) := by decide +kernel
theorem dX4_pick_47 : decode cX4_pick 47 = .ok (.getfield 40, 3) := by decide +kernel
theorem dX4_pick_50 : decode cX4_pick 50 = .ok (.iload_n 1, 1) := by decide +kernel
theorem dX4_pick_51 : decode cX4_pick 51 = .ok (.iaload, 1) := by decide +kernel
theorem dX4_pick_52 : decode cX4_pick 52 = .ok (.iconst 1, 1) := by decide +kernel
theorem dX4_pick_53 : decode cX4_pick 53 = .ok (.if_icmp .ne 16, 3) := by decide +kernel
theorem dX4_pick_56 : decode cX4_pick 56 = .ok (.aload_n 0, 1) := by decide +kernel
theorem dX4_pick_57 : decode cX4_pick 57 = .ok (.dup, 1) := by decide +kernel
theorem dX4_pick_58 : decode cX4_pick 58 = .ok (.getfield 15, 3) := by decide +kernel
theorem dX4_pick_61 : decode cX4_pick 61 = .ok (.iconst 1, 1) := by decide +kernel
theorem dX4_pick_62 : decode cX4_pick 62 = .ok (.iadd, 1) := by decide +kernel
theorem dX4_pick_63 : decode cX4_pick 63 = .ok (.putfield 15, 3) := by decide +kernel
theorem dX4_pick_66 : decode cX4_pick 66 = .ok (.goto 13, 3) := by decide +kernel
theorem dX4_pick_69 : decode cX4_pick 69 = .ok (.aload_n 0, 1) := by decide +kernel
theorem dX4_pick_70 : decode cX4_pick 70 = .ok (.getfield 52, 3) := by decide +kernel
theorem dX4_pick_73 : decode cX4_pick 73 = .ok (.iload_n 1, 1) := by decide +kernel
theorem dX4_pick_74 : decode cX4_pick 74 = .ok (.dup2, 1) := by decide +kernel
theorem dX4_pick_75 : decode cX4_pick 75 = .ok (.iaload, 1) := by decide +kernel
theorem dX4_pick_76 : decode cX4_pick 76 = .ok (.iconst 1, 1) := by decide +kernel
theorem dX4_pick_77 : decode cX4_pick 77 = .ok (.iadd, 1) := by decide +kernel
theorem dX4_pick_78 : decode cX4_pick 78 = .ok (.iastore, 1) := by decide +kernel
theorem dX4_pick_79 : decode cX4_pick 79 = .ok (.aload_n 0, 1) := by decide +kernel
theorem dX4_pick_80 : decode cX4_pick 80 = .ok (.getfield 55, 3) := by decide +kernel
theorem dX4_pick_83 : decode cX4_pick 83 = .ok (.iload_n 1, 1) := by decide +kernel
theorem dX4_pick_84 : decode cX4_pick 84 = .ok (.iaload, 1) := by decide +kernel
theorem dX4_pick_85 : decode cX4_pick 85 = .ok (.aload_n 0, 1) := by decide +kernel
theorem dX4_pick_86 : decode cX4_pick 86 = .ok (.getfield 37, 3) := by decide +kernel
theorem dX4_pick_89 : decode cX4_pick 89 = .ok (.iload_n 1, 1) := by decide +kernel
theorem dX4_pick_90 : decode cX4_pick 90 = .ok (.iaload, 1) := by decide +kernel
theorem dX4_pick_91 : decode cX4_pick 91 = .ok (.if_icmp .ge 30, 3) := by decide +kernel
theorem dX4_pick_94 : decode cX4_pick 94 = .ok (.aload_n 0, 1) := by decide +kernel
theorem dX4_pick_95 : decode cX4_pick 95 = .ok (.getfield 52, 3) := by decide +kernel
theorem dX4_pick_98 : decode cX4_pick 98 = .ok (.iload_n 1, 1) := by decide +kernel
theorem dX4_pick_99 : decode cX4_pick 99 = .ok (.iaload, 1) := by decide +kernel
theorem dX4_pick_100 : decode cX4_pick 100 = .ok (.aload_n 0, 1) := by decide +kernel
theorem dX4_pick_101 : decode cX4_pick 101 = .ok (.getfield 61, 3) := by decide +kernel
theorem dX4_pick_104 : decode cX4_pick 104 = .ok (.getfield 137, 3) := by decide +kernel
theorem dX4_pick_107 : decode cX4_pick 107 = .ok (.iload_n 1, 1) := by decide +kernel
theorem dX4_pick_108 : decode cX4_pick 108 = .ok (.iaload, 1) := by decide +kernel
theorem dX4_pick_109 : decode cX4_pick 109 = .ok (.if_icmp .ge 12, 3) := by decide +kernel
theorem dX4_pick_112 : decode cX4_pick 112 = .ok (.aload_n 0, 1) := by decide +kernel
theorem dX4_pick_113 : decode cX4_pick 113 = .ok (.getfield 30, 3) := by decide +kernel
theorem dX4_pick_116 : decode cX4_pick 116 = .ok (.iload_n 2, 1) := by decide +kernel
theorem dX4_pick_117 : decode cX4_pick 117 = .ok (.iaload, 1) := by decide +kernel
theorem dX4_pick_118 : decode cX4_pick 118 = .ok (.ifCond .ne 10, 3) := by decide +kernel
theorem dX4_pick_121 : decode cX4_pick 121 = .ok (.aload_n 0, 1) := by decide +kernel
theorem dX4_pick_122 : decode cX4_pick 122 = .ok (.getfield 43, 3) := by decide +kernel
theorem dX4_pick_125 : decode cX4_pick 125 = .ok (.iload_n 1, 1) := by decide +kernel
theorem dX4_pick_126 : decode cX4_pick 126 = .ok (.iconst 3, 1) := by decide +kernel
theorem dX4_pick_127 : decode cX4_pick 127 = .ok (.iastore, 1) := by decide +kernel
theorem dX4_pick_128 : decode cX4_pick 128 = .ok (.return_, 1) := by decide +kernel
theorem dX4_leave_0 : decode cX4_leave 0 = .ok (.aload_n 0, 1) := by decide +kernel
theorem dX4_leave_1 : decode cX4_leave 1 = .ok (.getfield 43, 3) := by decide +kernel
theorem dX4_leave_4 : decode cX4_leave 4 = .ok (.iload_n 1, 1) := by decide +kernel
theorem dX4_leave_5 : decode cX4_leave 5 = .ok (.iconst 4, 1) := by decide +kernel
theorem dX4_leave_6 : decode cX4_leave 6 = .ok (.iastore, 1) := by decide +kernel
theorem dX4_leave_7 : decode cX4_leave 7 = .ok (.aload_n 0, 1) := by decide +kernel
theorem dX4_leave_8 : decode cX4_leave 8 = .ok (.getfield 58, 3) := by decide +kernel
theorem dX4_leave_11 : decode cX4_leave 11 = .ok (.iload_n 1, 1) := by decide +kernel
theorem dX4_leave_12 : decode cX4_leave 12 = .ok (.aload_n 0, 1) := by decide +kernel
theorem dX4_leave_13 : decode cX4_leave 13 = .ok (.getfield 18, 3) := by decide +kernel
theorem dX4_leave_16 : decode cX4_leave 16 = .ok (.iastore, 1) := by decide +kernel
theorem dX4_leave_17 : decode cX4_leave 17 = .ok (.aload_n 0, 1) := by decide +kernel
theorem dX4_leave_18 : decode cX4_leave 18 = .ok (.dup, 1) := by decide +kernel
theorem dX4_leave_19 : decode cX4_leave 19 = .ok (.getfield 27, 3) := by decide +kernel
theorem dX4_leave_22 : decode cX4_leave 22 = .ok (.iconst 1, 1) := by decide +kernel
theorem dX4_leave_23 : decode cX4_leave 23 = .ok (.isub, 1) := by decide +kernel
theorem dX4_leave_24 : decode cX4_leave 24 = .ok (.putfield 27, 3) := by decide +kernel
theorem dX4_leave_27 : decode cX4_leave 27 = .ok (.return_, 1) := by decide +kernel
end
section
theorem dX4_endSecond_0 : decode cX4_endSecond 0 = .ok (.aload_n 0, 1) := by decide +kernel
theorem dX4_endSecond_1 : decode cX4_endSecond 1 = .ok (.getfield 21, 3) := by decide +kernel
theorem dX4_endSecond_4 : decode cX4_endSecond 4 = .ok (.ifCond .ne 25, 3) := by decide +kernel
theorem dX4_endSecond_7 : decode cX4_endSecond 7 = .ok (.aload_n 0, 1) := by decide +kernel
theorem dX4_endSecond_8 : decode cX4_endSecond 8 = .ok (.getfield 15, 3) := by decide +kernel
theorem dX4_endSecond_11 : decode cX4_endSecond 11 = .ok (.aload_n 0, 1) := by decide +kernel
theorem dX4_endSecond_12 : decode cX4_endSecond 12 = .ok (.getfield 61, 3) := by decide +kernel
theorem dX4_endSecond_15 : decode cX4_endSecond 15 = .ok (.getfield 140, 3) := by decide +kernel
theorem dX4_endSecond_18 : decode cX4_endSecond 18 = .ok (.if_icmp .lt 11, 3) := by decide +kernel
theorem dX4_endSecond_21 : decode cX4_endSecond 21 = .ok (.aload_n 0, 1) := by decide +kernel
theorem dX4_endSecond_22 : decode cX4_endSecond 22 = .ok (.aload_n 0, 1) := by decide +kernel
theorem dX4_endSecond_23 : decode cX4_endSecond 23 = .ok (.getfield 18, 3) := by decide +kernel
theorem dX4_endSecond_26 : decode cX4_endSecond 26 = .ok (.putfield 21, 3) := by decide +kernel
theorem dX4_endSecond_29 : decode cX4_endSecond 29 = .ok (.aload_n 0, 1) := by decide +kernel
theorem dX4_endSecond_30 : decode cX4_endSecond 30 = .ok (.getfield 21, 3) := by decide +kernel
theorem dX4_endSecond_33 : decode cX4_endSecond 33 = .ok (.ifCond .le 23, 3) := by decide +kernel
theorem dX4_endSecond_36 : decode cX4_endSecond 36 = .ok (.aload_n 0, 1) := by decide +kernel
theorem dX4_endSecond_37 : decode cX4_endSecond 37 = .ok (.getfield 18, 3) := by decide +kernel
theorem dX4_endSecond_40 : decode cX4_endSecond 40 = .ok (.aload_n 0, 1) := by decide +kernel
theorem dX4_endSecond_41 : decode cX4_endSecond 41 = .ok (.getfield 21, 3) := by decide +kernel
theorem dX4_endSecond_44 : decode cX4_endSecond 44 = .ok (.isub, 1) := by decide +kernel
theorem dX4_endSecond_45 : decode cX4_endSecond 45 = .ok (.aload_n 0, 1) := by decide +kernel
theorem dX4_endSecond_46 : decode cX4_endSecond 46 = .ok (.getfield 9, 3) := by decide +kernel
theorem dX4_endSecond_49 : decode cX4_endSecond 49 = .ok (.if_icmp .ne 7, 3) := by decide +kernel
theorem dX4_endSecond_52 : decode cX4_endSecond 52 = .ok (.aload_n 0, 1) := by decide +kernel
theorem dX4_endSecond_53 : decode cX4_endSecond 53 = .ok (.invokevirtual 143, 3) := by decide +kernel
theorem dX4_endSecond_56 : decode cX4_endSecond 56 = .ok (.aload_n 0, 1) := by decide +kernel
theorem dX4_endSecond_57 : decode cX4_endSecond 57 = .ok (.getfield 21, 3) := by decide +kernel
theorem dX4_endSecond_60 : decode cX4_endSecond 60 = .ok (.ifCond .le 44, 3) := by decide +kernel
theorem dX4_endSecond_63 : decode cX4_endSecond 63 = .ok (.aload_n 0, 1) := by decide +kernel
theorem dX4_endSecond_64 : decode cX4_endSecond 64 = .ok (.getfield 18, 3) := by decide +kernel
theorem dX4_endSecond_67 : decode cX4_endSecond 67 = .ok (.aload_n 0, 1) := by decide +kernel
theorem dX4_endSecond_68 : decode cX4_endSecond 68 = .ok (.getfield 21, 3) := by decide +kernel
theorem dX4_endSecond_71 : decode cX4_endSecond 71 = .ok (.isub, 1) := by decide +kernel
theorem dX4_endSecond_72 : decode cX4_endSecond 72 = .ok (.aload_n 0, 1) := by decide +kernel
theorem dX4_endSecond_73 : decode cX4_endSecond 73 = .ok (.getfield 61, 3) := by decide +kernel
theorem dX4_endSecond_76 : decode cX4_endSecond 76 = .ok (.getfield 146, 3) := by decide +kernel
theorem dX4_endSecond_79 : decode cX4_endSecond 79 = .ok (.aload_n 0, 1) := by decide +kernel
theorem dX4_endSecond_80 : decode cX4_endSecond 80 = .ok (.getfield 61, 3) := by decide +kernel
theorem dX4_endSecond_83 : decode cX4_endSecond 83 = .ok (.getfield 149, 3) := by decide +kernel
theorem dX4_endSecond_86 : decode cX4_endSecond 86 = .ok (.aload_n 0, 1) := by decide +kernel
theorem dX4_endSecond_87 : decode cX4_endSecond 87 = .ok (.getfield 61, 3) := by decide +kernel
theorem dX4_endSecond_90 : decode cX4_endSecond 90 = .ok (.getfield 116, 3) := by decide +kernel
theorem dX4_endSecond_93 : decode cX4_endSecond 93 = .ok (.invokestatic 123, 3) := by decide +kernel
theorem dX4_endSecond_96 : decode cX4_endSecond 96 = .ok (.iadd, 1) := by decide +kernel
theorem dX4_endSecond_97 : decode cX4_endSecond 97 = .ok (.if_icmp .ne 7, 3) := by decide +kernel
theorem dX4_endSecond_100 : decode cX4_endSecond 100 = .ok (.iconst 1, 1) := by decide +kernel
theorem dX4_endSecond_101 : decode cX4_endSecond 101 = .ok (.goto 4, 3) := by decide +kernel
theorem dX4_endSecond_104 : decode cX4_endSecond 104 = .ok (.iconst 0, 1) := by decide +kernel
theorem dX4_endSecond_105 : decode cX4_endSecond 105 = .ok (.istore_n 1, 1) := by decide +kernel
theorem dX4_endSecond_106 : decode cX4_endSecond 106 = .ok (.iload_n 1, 1) := by decide +kernel
theorem dX4_endSecond_107 : decode cX4_endSecond 107 = .ok (.ifCond .ne 13, 3) := by decide +kernel
theorem dX4_endSecond_110 : decode cX4_endSecond 110 = .ok (.aload_n 0, 1) := by decide +kernel
theorem dX4_endSecond_111 : decode cX4_endSecond 111 = .ok (.getfield 18, 3) := by decide +kernel
theorem dX4_endSecond_114 : decode cX4_endSecond 114 = .ok (.sipush 150, 3) := by decide +kernel
theorem dX4_endSecond_117 : decode cX4_endSecond 117 = .ok (.if_icmp .ne 7, 3) := by decide +kernel
theorem dX4_endSecond_120 : decode cX4_endSecond 120 = .ok (.aload_n 0, 1) := by decide +kernel
theorem dX4_endSecond_121 : decode cX4_endSecond 121 = .ok (.invokevirtual 152, 3) := by decide +kernel
theorem dX4_endSecond_124 : decode cX4_endSecond 124 = .ok (.return_, 1) := by decide +kernel
theorem dX4_callBack_0 : decode cX4_callBack 0 = .ok (.iconst 0, 1) := by decide +kernel
theorem dX4_callBack_1 : decode cX4_callBack 1 = .ok (.istore_n 1, 1) := by decide +kernel
theorem dX4_callBack_2 : decode cX4_callBack 2 = .ok (.iload_n 1, 1) := by decide +kernel
theorem dX4_callBack_3 : decode cX4_callBack 3 = .ok (.iconst 4, 1) := by decide +kernel
theorem dX4_callBack_4 : decode cX4_callBack 4 = .ok (.if_icmp .ge 57, 3) := by decide +kernel
theorem dX4_callBack_7 : decode cX4_callBack 7 = .ok (.aload_n 0, 1) := by decide +kernel
theorem dX4_callBack_8 : decode cX4_callBack 8 = .ok (.getfield 43, 3) := by decide +kernel
theorem dX4_callBack_11 : decode cX4_callBack 11 = .ok (.iload_n 1, 1) := by decide +kernel
theorem dX4_callBack_12 : decode cX4_callBack 12 = .ok (.iaload, 1) := by decide +kernel
theorem dX4_callBack_13 : decode cX4_callBack 13 = .ok (.iconst 1, 1) := by decide +kernel
theorem dX4_callBack_14 : decode cX4_callBack 14 = .ok (.if_icmp .eq 13, 3) := by decide +kernel
theorem dX4_callBack_17 : decode cX4_callBack 17 = .ok (.aload_n 0, 1) := by decide +kernel
theorem dX4_callBack_18 : decode cX4_callBack 18 = .ok (.getfield 43, 3) := by decide +kernel
theorem dX4_callBack_21 : decode cX4_callBack 21 = .ok (.iload_n 1, 1) := by decide +kernel
theorem dX4_callBack_22 : decode cX4_callBack 22 = .ok (.iaload, 1) := by decide +kernel
theorem dX4_callBack_23 : decode cX4_callBack 23 = .ok (.iconst 2, 1) := by decide +kernel
theorem dX4_callBack_24 : decode cX4_callBack 24 = .ok (.if_icmp .ne 31, 3) := by decide +kernel
theorem dX4_callBack_27 : decode cX4_callBack 27 = .ok (.aload_n 0, 1) := by decide +kernel
theorem dX4_callBack_28 : decode cX4_callBack 28 = .ok (.getfield 43, 3) := by decide +kernel
theorem dX4_callBack_31 : decode cX4_callBack 31 = .ok (.iload_n 1, 1) := by decide +kernel
theorem dX4_callBack_32 : decode cX4_callBack 32 = .ok (.iconst 3, 1) := by decide +kernel
theorem dX4_callBack_33 : decode cX4_callBack 33 = .ok (.iastore, 1) := by decide +kernel
theorem dX4_callBack_34 : decode cX4_callBack 34 = .ok (.aload_n 0, 1) := by decide +kernel
theorem dX4_callBack_35 : decode cX4_callBack 35 = .ok (.getfield 46, 3) := by decide +kernel
theorem dX4_callBack_38 : decode cX4_callBack 38 = .ok (.iload_n 1, 1) := by decide +kernel
theorem dX4_callBack_39 : decode cX4_callBack 39 = .ok (.iconst 0, 1) := by decide +kernel
theorem dX4_callBack_40 : decode cX4_callBack 40 = .ok (.iastore, 1) := by decide +kernel
theorem dX4_callBack_41 : decode cX4_callBack 41 = .ok (.aload_n 0, 1) := by decide +kernel
theorem dX4_callBack_42 : decode cX4_callBack 42 = .ok (.getfield 49, 3) := by decide +kernel
theorem dX4_callBack_45 : decode cX4_callBack 45 = .ok (.iload_n 1, 1) := by decide +kernel
theorem dX4_callBack_46 : decode cX4_callBack 46 = .ok (.iaload, 1) := by decide +kernel
theorem dX4_callBack_47 : decode cX4_callBack 47 = .ok (.ifCond .ne 8, 3) := by decide +kernel
theorem dX4_callBack_50 : decode cX4_callBack 50 = .ok (.aload_n 0, 1) := by decide +kernel
theorem dX4_callBack_51 : decode cX4_callBack 51 = .ok (.iload_n 1, 1) := by decide +kernel
theorem dX4_callBack_52 : decode cX4_callBack 52 = .ok (.invokevirtual 126, 3) := by decide +kernel
theorem dX4_callBack_55 : decode cX4_callBack 55 = .ok (.iinc 1 1, 3) := by decide +kernel
theorem dX4_callBack_58 : decode cX4_callBack 58 = .ok (.goto (-56), 3) := by decide +kernel
theorem dX4_callBack_61 : decode cX4_callBack 61 = .ok (.return_, 1) := by decide +kernel
theorem dX4_catchAll_0 : decode cX4_catchAll 0 = .ok (.iconst 0, 1) := by decide +kernel
theorem dX4_catchAll_1 : decode cX4_catchAll 1 = .ok (.istore_n 1, 1) := by decide +kernel
theorem dX4_catchAll_2 : decode cX4_catchAll 2 = .ok (.iload_n 1, 1) := by decide +kernel
theorem dX4_catchAll_3 : decode cX4_catchAll 3 = .ok (.iconst 4, 1) := by decide +kernel
theorem dX4_catchAll_4 : decode cX4_catchAll 4 = .ok (.if_icmp .ge 34, 3) := by decide +kernel
theorem dX4_catchAll_7 : decode cX4_catchAll 7 = .ok (.aload_n 0, 1) := by decide +kernel
theorem dX4_catchAll_8 : decode cX4_catchAll 8 = .ok (.iload_n 1, 1) := by decide +kernel
theorem dX4_catchAll_9 : decode cX4_catchAll 9 = .ok (.invokevirtual 97, 3) := by decide +kernel
theorem dX4_catchAll_12 : decode cX4_catchAll 12 = .ok (.ifCond .eq 20, 3) := by decide +kernel
theorem dX4_catchAll_15 : decode cX4_catchAll 15 = .ok (.aload_n 0, 1) := by decide +kernel
theorem dX4_catchAll_16 : decode cX4_catchAll 16 = .ok (.getfield 43, 3) := by decide +kernel
theorem dX4_catchAll_19 : decode cX4_catchAll 19 = .ok (.iload_n 1, 1) := by decide +kernel
theorem dX4_catchAll_20 : decode cX4_catchAll 20 = .ok (.iconst 5, 1) := by decide +kernel
theorem dX4_catchAll_21 : decode cX4_catchAll 21 = .ok (.iastore, 1) := by decide +kernel
theorem dX4_catchAll_22 : decode cX4_catchAll 22 = .ok (.aload_n 0, 1) := by decide +kernel
theorem dX4_catchAll_23 : decode cX4_catchAll 23 = .ok (.dup, 1) := by decide +kernel
theorem dX4_catchAll_24 : decode cX4_catchAll 24 = .ok (.getfield 27, 3) := by decide +kernel
theorem dX4_catchAll_27 : decode cX4_catchAll 27 = .ok (.iconst 1, 1) := by decide +kernel
theorem dX4_catchAll_28 : decode cX4_catchAll 28 = .ok (.isub, 1) := by decide +kernel
theorem dX4_catchAll_29 : decode cX4_catchAll 29 = .ok (.putfield 27, 3) := by decide +kernel
theorem dX4_catchAll_32 : decode cX4_catchAll 32 = .ok (.iinc 1 1, 3) := by decide +kernel
theorem dX4_catchAll_35 : decode cX4_catchAll 35 = .ok (.goto (-33), 3) := by decide +kernel
theorem dX4_catchAll_38 : decode cX4_catchAll 38 = .ok (.return_, 1) := by decide +kernel
theorem dX4_isOut_0 : decode cX4_isOut 0 = .ok (.aload_n 0, 1) := by decide +kernel
theorem dX4_isOut_1 : decode cX4_isOut 1 = .ok (.getfield 43, 3) := by decide +kernel
theorem dX4_isOut_4 : decode cX4_isOut 4 = .ok (.iload_n 1, 1) := by decide +kernel
theorem dX4_isOut_5 : decode cX4_isOut 5 = .ok (.iaload, 1) := by decide +kernel
theorem dX4_isOut_6 : decode cX4_isOut 6 = .ok (.iconst 4, 1) := by decide +kernel
theorem dX4_isOut_7 : decode cX4_isOut 7 = .ok (.if_icmp .ne 7, 3) := by decide +kernel
theorem dX4_isOut_10 : decode cX4_isOut 10 = .ok (.iconst 1, 1) := by decide +kernel
theorem dX4_isOut_11 : decode cX4_isOut 11 = .ok (.goto 4, 3) := by decide +kernel
theorem dX4_isOut_14 : decode cX4_isOut 14 = .ok (.iconst 0, 1) := by decide +kernel
theorem dX4_isOut_15 : decode cX4_isOut 15 = .ok (.ireturn, 1) := by decide +kernel
theorem dX4_applesGot_0 : decode cX4_applesGot 0 = .ok (.aload_n 0, 1) := by decide +kernel
theorem dX4_applesGot_1 : decode cX4_applesGot 1 = .ok (.getfield 40, 3) := by decide +kernel
theorem dX4_applesGot_4 : decode cX4_applesGot 4 = .ok (.iload_n 1, 1) := by decide +kernel
theorem dX4_applesGot_5 : decode cX4_applesGot 5 = .ok (.iaload, 1) := by decide +kernel
theorem dX4_applesGot_6 : decode cX4_applesGot 6 = .ok (.iconst 1, 1) := by decide +kernel
theorem dX4_applesGot_7 : decode cX4_applesGot 7 = .ok (.if_icmp .eq 11, 3) := by decide +kernel
theorem dX4_applesGot_10 : decode cX4_applesGot 10 = .ok (.aload_n 0, 1) := by decide +kernel
theorem dX4_applesGot_11 : decode cX4_applesGot 11 = .ok (.iload_n 1, 1) := by decide +kernel
theorem dX4_applesGot_12 : decode cX4_applesGot 12 = .ok (.invokevirtual 155, 3) := by decide +kernel
theorem dX4_applesGot_15 : decode cX4_applesGot 15 = .ok (.ifCond .eq 12, 3) := by decide +kernel
theorem dX4_applesGot_18 : decode cX4_applesGot 18 = .ok (.aload_n 0, 1) := by decide +kernel
theorem dX4_applesGot_19 : decode cX4_applesGot 19 = .ok (.getfield 55, 3) := by decide +kernel
theorem dX4_applesGot_22 : decode cX4_applesGot 22 = .ok (.iload_n 1, 1) := by decide +kernel
theorem dX4_applesGot_23 : decode cX4_applesGot 23 = .ok (.iaload, 1) := by decide +kernel
theorem dX4_applesGot_24 : decode cX4_applesGot 24 = .ok (.goto 4, 3) := by decide +kernel
theorem dX4_applesGot_27 : decode cX4_applesGot 27 = .ok (.iconst 0, 1) := by decide +kernel
theorem dX4_applesGot_28 : decode cX4_applesGot 28 = .ok (.ireturn, 1) := by decide +kernel
theorem dX4_gotByAll_0 : decode cX4_gotByAll 0 = .ok (.iconst 0, 1) := by decide +kernel
theorem dX4_gotByAll_1 : decode cX4_gotByAll 1 = .ok (.istore_n 1, 1) := by decide +kernel
theorem dX4_gotByAll_2 : decode cX4_gotByAll 2 = .ok (.iconst 0, 1) := by decide +kernel
theorem dX4_gotByAll_3 : decode cX4_gotByAll 3 = .ok (.istore_n 2, 1) := by decide +kernel
theorem dX4_gotByAll_4 : decode cX4_gotByAll 4 = .ok (.iload_n 2, 1) := by decide +kernel
theorem dX4_gotByAll_5 : decode cX4_gotByAll 5 = .ok (.iconst 4, 1) := by decide +kernel
theorem dX4_gotByAll_6 : decode cX4_gotByAll 6 = .ok (.if_icmp .ge 41, 3) := by decide +kernel
theorem dX4_gotByAll_9 : decode cX4_gotByAll 9 = .ok (.aload_n 0, 1) := by decide +kernel
theorem dX4_gotByAll_10 : decode cX4_gotByAll 10 = .ok (.getfield 34, 3) := by decide +kernel
theorem dX4_gotByAll_13 : decode cX4_gotByAll 13 = .ok (.iload_n 2, 1) := by decide +kernel
theorem dX4_gotByAll_14 : decode cX4_gotByAll 14 = .ok (.iaload, 1) := by decide +kernel
theorem dX4_gotByAll_15 : decode cX4_gotByAll 15 = .ok (.ifCond .lt 26, 3) := by decide +kernel
theorem dX4_gotByAll_18 : decode cX4_gotByAll 18 = .ok (.iload_n 1, 1) := by decide +kernel
theorem dX4_gotByAll_19 : decode cX4_gotByAll 19 = .ok (.aload_n 0, 1) := by decide +kernel
theorem dX4_gotByAll_20 : decode cX4_gotByAll 20 = .ok (.iload_n 2, 1) := by decide +kernel
theorem dX4_gotByAll_21 : decode cX4_gotByAll 21 = .ok (.invokevirtual 158, 3) := by decide +kernel
theorem dX4_gotByAll_24 : decode cX4_gotByAll 24 = .ok (.aload_n 0, 1) := by decide +kernel
theorem dX4_gotByAll_25 : decode cX4_gotByAll 25 = .ok (.getfield 61, 3) := by decide +kernel
theorem dX4_gotByAll_28 : decode cX4_gotByAll 28 = .ok (.getfield 161, 3) := by decide +kernel
theorem dX4_gotByAll_31 : decode cX4_gotByAll 31 = .ok (.aload_n 0, 1) := by decide +kernel
theorem dX4_gotByAll_32 : decode cX4_gotByAll 32 = .ok (.getfield 34, 3) := by decide +kernel
theorem dX4_gotByAll_35 : decode cX4_gotByAll 35 = .ok (.iload_n 2, 1) := by decide +kernel
theorem dX4_gotByAll_36 : decode cX4_gotByAll 36 = .ok (.iaload, 1) := by decide +kernel
theorem dX4_gotByAll_37 : decode cX4_gotByAll 37 = .ok (.iaload, 1) := by decide +kernel
theorem dX4_gotByAll_38 : decode cX4_gotByAll 38 = .ok (.imul, 1) := by decide +kernel
theorem dX4_gotByAll_39 : decode cX4_gotByAll 39 = .ok (.iadd, 1) := by decide +kernel
theorem dX4_gotByAll_40 : decode cX4_gotByAll 40 = .ok (.istore_n 1, 1) := by decide +kernel
theorem dX4_gotByAll_41 : decode cX4_gotByAll 41 = .ok (.iinc 2 1, 3) := by decide +kernel
theorem dX4_gotByAll_44 : decode cX4_gotByAll 44 = .ok (.goto (-40), 3) := by decide +kernel
theorem dX4_gotByAll_47 : decode cX4_gotByAll 47 = .ok (.iload_n 1, 1) := by decide +kernel
theorem dX4_gotByAll_48 : decode cX4_gotByAll 48 = .ok (.ireturn, 1) := by decide +kernel
theorem dX4_caughtBits_0 : decode cX4_caughtBits 0 = .ok (.iconst 0, 1) := by decide +kernel
theorem dX4_caughtBits_1 : decode cX4_caughtBits 1 = .ok (.istore_n 1, 1) := by decide +kernel
theorem dX4_caughtBits_2 : decode cX4_caughtBits 2 = .ok (.iconst 0, 1) := by decide +kernel
theorem dX4_caughtBits_3 : decode cX4_caughtBits 3 = .ok (.istore_n 2, 1) := by decide +kernel
theorem dX4_caughtBits_4 : decode cX4_caughtBits 4 = .ok (.iload_n 2, 1) := by decide +kernel
theorem dX4_caughtBits_5 : decode cX4_caughtBits 5 = .ok (.iconst 4, 1) := by decide +kernel
theorem dX4_caughtBits_6 : decode cX4_caughtBits 6 = .ok (.if_icmp .ge 25, 3) := by decide +kernel
theorem dX4_caughtBits_9 : decode cX4_caughtBits 9 = .ok (.aload_n 0, 1) := by decide +kernel
theorem dX4_caughtBits_10 : decode cX4_caughtBits 10 = .ok (.getfield 43, 3) := by decide +kernel
theorem dX4_caughtBits_13 : decode cX4_caughtBits 13 = .ok (.iload_n 2, 1) := by decide +kernel
theorem dX4_caughtBits_14 : decode cX4_caughtBits 14 = .ok (.iaload, 1) := by decide +kernel
theorem dX4_caughtBits_15 : decode cX4_caughtBits 15 = .ok (.iconst 5, 1) := by decide +kernel
theorem dX4_caughtBits_16 : decode cX4_caughtBits 16 = .ok (.if_icmp .ne 9, 3) := by decide +kernel
theorem dX4_caughtBits_19 : decode cX4_caughtBits 19 = .ok (.iload_n 1, 1) := by decide +kernel
theorem dX4_caughtBits_20 : decode cX4_caughtBits 20 = .ok (.iconst 1, 1) := by decide +kernel
theorem dX4_caughtBits_21 : decode cX4_caughtBits 21 = .ok (.iload_n 2, 1) := by decide +kernel
theorem dX4_caughtBits_22 : decode cX4_caughtBits 22 = .ok (.ishl, 1) := by decide +kernel
theorem dX4_caughtBits_23 : decode cX4_caughtBits 23 = .ok (.ior, 1) := by decide +kernel
theorem dX4_caughtBits_24 : decode cX4_caughtBits 24 = .ok (.istore_n 1, 1) := by decide +kernel
theorem dX4_caughtBits_25 : decode cX4_caughtBits 25 = .ok (.iinc 2 1, 3) := by decide +kernel
theorem dX4_caughtBits_28 : decode cX4_caughtBits 28 = .ok (.goto (-24), 3) := by decide +kernel
theorem dX4_caughtBits_31 : decode cX4_caughtBits 31 = .ok (.iload_n 1, 1) := by decide +kernel
theorem dX4_caughtBits_32 : decode cX4_caughtBits 32 = .ok (.ireturn, 1) := by decide +kernel
theorem dX4_leaveBehind_0 : decode cX4_leaveBehind 0 = .ok (.aload_n 0, 1) := by decide +kernel
theorem dX4_leaveBehind_1 : decode cX4_leaveBehind 1 = .ok (.getfield 30, 3) := by decide +kernel
theorem dX4_leaveBehind_4 : decode cX4_leaveBehind 4 = .ok (.iconst 0, 1) := by decide +kernel
theorem dX4_leaveBehind_5 : decode cX4_leaveBehind 5 = .ok (.aload_n 0, 1) := by decide +kernel
theorem dX4_leaveBehind_6 : decode cX4_leaveBehind 6 = .ok (.getfield 61, 3) := by decide +kernel
theorem dX4_leaveBehind_9 : decode cX4_leaveBehind 9 = .ok (.getfield 65, 3) := by decide +kernel
theorem dX4_leaveBehind_12 : decode cX4_leaveBehind 12 = .ok (.iconst 0, 1) := by decide +kernel
theorem dX4_leaveBehind_13 : decode cX4_leaveBehind 13 = .ok (.bipush 6, 2) := by decide +kernel
theorem dX4_leaveBehind_15 : decode cX4_leaveBehind 15 = .ok (.invokestatic 70, 3) := by decide +kernel
theorem dX4_leaveBehind_18 : decode cX4_leaveBehind 18 = .ok (.iconst 0, 1) := by decide +kernel
theorem dX4_leaveBehind_19 : decode cX4_leaveBehind 19 = .ok (.istore_n 1, 1) := by decide +kernel
theorem dX4_leaveBehind_20 : decode cX4_leaveBehind 20 = .ok (.iload_n 1, 1) := by decide +kernel
theorem dX4_leaveBehind_21 : decode cX4_leaveBehind 21 = .ok (.iconst 4, 1) := by decide +kernel
theorem dX4_leaveBehind_22 : decode cX4_leaveBehind 22 = .ok (.if_icmp .ge 35, 3) := by decide +kernel
theorem dX4_leaveBehind_25 : decode cX4_leaveBehind 25 = .ok (.aload_n 0, 1) := by decide +kernel
theorem dX4_leaveBehind_26 : decode cX4_leaveBehind 26 = .ok (.getfield 43, 3) := by decide +kernel
theorem dX4_leaveBehind_29 : decode cX4_leaveBehind 29 = .ok (.iload_n 1, 1) := by decide +kernel
theorem dX4_leaveBehind_30 : decode cX4_leaveBehind 30 = .ok (.iaload, 1) := by decide +kernel
theorem dX4_leaveBehind_31 : decode cX4_leaveBehind 31 = .ok (.iconst 5, 1) := by decide +kernel
theorem dX4_leaveBehind_32 : decode cX4_leaveBehind 32 = .ok (.if_icmp .ne 19, 3) := by decide +kernel
theorem dX4_leaveBehind_35 : decode cX4_leaveBehind 35 = .ok (.aload_n 0, 1) := by decide +kernel
theorem dX4_leaveBehind_36 : decode cX4_leaveBehind 36 = .ok (.getfield 61, 3) := by decide +kernel
theorem dX4_leaveBehind_39 : decode cX4_leaveBehind 39 = .ok (.getfield 65, 3) := by decide +kernel
theorem dX4_leaveBehind_42 : decode cX4_leaveBehind 42 = .ok (.bipush 18, 2) := by decide +kernel
theorem dX4_leaveBehind_44 : decode cX4_leaveBehind 44 = .ok (.iload_n 1, 1) := by decide +kernel
theorem dX4_leaveBehind_45 : decode cX4_leaveBehind 45 = .ok (.iadd, 1) := by decide +kernel
theorem dX4_leaveBehind_46 : decode cX4_leaveBehind 46 = .ok (.dup2, 1) := by decide +kernel
theorem dX4_leaveBehind_47 : decode cX4_leaveBehind 47 = .ok (.iaload, 1) := by decide +kernel
theorem dX4_leaveBehind_48 : decode cX4_leaveBehind 48 = .ok (.iconst 1, 1) := by decide +kernel
theorem dX4_leaveBehind_49 : decode cX4_leaveBehind 49 = .ok (.iadd, 1) := by decide +kernel
theorem dX4_leaveBehind_50 : decode cX4_leaveBehind 50 = .ok (.iastore, 1) := by decide +kernel
theorem dX4_leaveBehind_51 : decode cX4_leaveBehind 51 = .ok (.iinc 1 1, 3) := by decide +kernel
theorem dX4_leaveBehind_54 : decode cX4_leaveBehind 54 = .ok (.goto (-34), 3) := by decide +kernel
theorem dX4_leaveBehind_57 : decode cX4_leaveBehind 57 = .ok (.aload_n 0, 1) := by decide +kernel
theorem dX4_leaveBehind_58 : decode cX4_leaveBehind 58 = .ok (.getfield 61, 3) := by decide +kernel
theorem dX4_leaveBehind_61 : decode cX4_leaveBehind 61 = .ok (.getfield 65, 3) := by decide +kernel
theorem dX4_leaveBehind_64 : decode cX4_leaveBehind 64 = .ok (.bipush 22, 2) := by decide +kernel
theorem dX4_leaveBehind_66 : decode cX4_leaveBehind 66 = .ok (.dup2, 1) := by decide +kernel
theorem dX4_leaveBehind_67 : decode cX4_leaveBehind 67 = .ok (.iaload, 1) := by decide +kernel
theorem dX4_leaveBehind_68 : decode cX4_leaveBehind 68 = .ok (.iconst 1, 1) := by decide +kernel
theorem dX4_leaveBehind_69 : decode cX4_leaveBehind 69 = .ok (.iadd, 1) := by decide +kernel
theorem dX4_leaveBehind_70 : decode cX4_leaveBehind 70 = .ok (.iastore, 1) := by decide +kernel
theorem dX4_leaveBehind_71 : decode cX4_leaveBehind 71 = .ok (.aload_n 0, 1) := by decide +kernel
theorem dX4_leaveBehind_72 : decode cX4_leaveBehind 72 = .ok (.getfield 61, 3) := by decide +kernel
theorem dX4_leaveBehind_75 : decode cX4_leaveBehind 75 = .ok (.getfield 65, 3) := by decide +kernel
theorem dX4_leaveBehind_78 : decode cX4_leaveBehind 78 = .ok (.bipush 23, 2) := by decide +kernel
theorem dX4_leaveBehind_80 : decode cX4_leaveBehind 80 = .ok (.dup2, 1) := by decide +kernel
theorem dX4_leaveBehind_81 : decode cX4_leaveBehind 81 = .ok (.iaload, 1) := by decide +kernel
theorem dX4_leaveBehind_82 : decode cX4_leaveBehind 82 = .ok (.aload_n 0, 1) := by decide +kernel
theorem dX4_leaveBehind_83 : decode cX4_leaveBehind 83 = .ok (.invokevirtual 164, 3) := by decide +kernel
theorem dX4_leaveBehind_86 : decode cX4_leaveBehind 86 = .ok (.iadd, 1) := by decide +kernel
theorem dX4_leaveBehind_87 : decode cX4_leaveBehind 87 = .ok (.iastore, 1) := by decide +kernel
theorem dX4_leaveBehind_88 : decode cX4_leaveBehind 88 = .ok (.return_, 1) := by decide +kernel
theorem dX5_init_0 : decode cX5_init 0 = .ok (.aload_n 0, 1) := by decide +kernel
theorem dX5_init_1 : decode cX5_init 1 = .ok (.invokespecial 3, 3) := by decide +kernel
theorem dX5_init_4 : decode cX5_init 4 = .ok (.aload_n 0, 1) := by decide +kernel
theorem dX5_init_5 : decode cX5_init 5 = .ok (.bipush 120, 2) := by decide +kernel
theorem dX5_init_7 : decode cX5_init 7 = .ok (.newarray .int, 2) := by decide +kernel
theorem dX5_init_9 : decode cX5_init 9 = .ok (.putfield 11, 3) := by decide +kernel
theorem dX5_init_12 : decode cX5_init 12 = .ok (.aload_n 0, 1) := by decide +kernel
theorem dX5_init_13 : decode cX5_init 13 = .ok (.iconst 0, 1) := by decide +kernel
theorem dX5_init_14 : decode cX5_init 14 = .ok (.putfield 15, 3) := by decide +kernel
theorem dX5_init_17 : decode cX5_init 17 = .ok (.aload_n 0, 1) := by decide +kernel
theorem dX5_init_18 : decode cX5_init 18 = .ok (.iconst 0, 1) := by decide +kernel
theorem dX5_init_19 : decode cX5_init 19 = .ok (.putfield 19, 3) := by decide +kernel
theorem dX5_init_22 : decode cX5_init 22 = .ok (.aload_n 0, 1) := by decide +kernel
theorem dX5_init_23 : decode cX5_init 23 = .ok (.iconst 2, 1) := by decide +kernel
theorem dX5_init_24 : decode cX5_init 24 = .ok (.putfield 22, 3) := by decide +kernel
theorem dX5_init_27 : decode cX5_init 27 = .ok (.aload_n 0, 1) := by decide +kernel
theorem dX5_init_28 : decode cX5_init 28 = .ok (.iconst 0, 1) := by decide +kernel
theorem dX5_init_29 : decode cX5_init 29 = .ok (.putfield 25, 3) := by decide +kernel
theorem dX5_init_32 : decode cX5_init 32 = .ok (.aload_n 0, 1) := by decide +kernel
theorem dX5_init_33 : decode cX5_init 33 = .ok (.iconst 0, 1) := by decide +kernel
theorem dX5_init_34 : decode cX5_init 34 = .ok (.putfield 28, 3) := by decide +kernel
theorem dX5_init_37 : decode cX5_init 37 = .ok (.aload_n 0, 1) := by decide +kernel
theorem dX5_init_38 : decode cX5_init 38 = .ok (.iconst 0, 1) := by decide +kernel
theorem dX5_init_39 : decode cX5_init 39 = .ok (.putfield 31, 3) := by decide +kernel
theorem dX5_init_42 : decode cX5_init 42 = .ok (.return_, 1) := by decide +kernel
theorem dX5_isFull_0 : decode cX5_isFull 0 = .ok (.aload_n 0, 1) := by decide +kernel
theorem dX5_isFull_1 : decode cX5_isFull 1 = .ok (.getfield 15, 3) := by decide +kernel
theorem dX5_isFull_4 : decode cX5_isFull 4 = .ok (.bipush 120, 2) := by decide +kernel
theorem dX5_isFull_6 : decode cX5_isFull 6 = .ok (.if_icmp .lt 7, 3) := by decide +kernel
theorem dX5_isFull_9 : decode cX5_isFull 9 = .ok (.iconst 1, 1) := by decide +kernel
theorem dX5_isFull_10 : decode cX5_isFull 10 = .ok (.goto 4, 3) := by decide +kernel
theorem dX5_isFull_13 : decode cX5_isFull 13 = .ok (.iconst 0, 1) := by decide +kernel
theorem dX5_isFull_14 : decode cX5_isFull 14 = .ok (.ireturn, 1) := by decide +kernel
theorem dX5_append_0 : decode cX5_append 0 = .ok (.aload_n 0, 1) := by decide +kernel
theorem dX5_append_1 : decode cX5_append 1 = .ok (.getfield 11, 3) := by decide +kernel
theorem dX5_append_4 : decode cX5_append 4 = .ok (.aload_n 0, 1) := by decide +kernel
theorem dX5_append_5 : decode cX5_append 5 = .ok (.getfield 15, 3) := by decide +kernel
theorem dX5_append_8 : decode cX5_append 8 = .ok (.iload_n 1, 1) := by decide +kernel
theorem dX5_append_9 : decode cX5_append 9 = .ok (.iastore, 1) := by decide +kernel
theorem dX5_append_10 : decode cX5_append 10 = .ok (.aload_n 0, 1) := by decide +kernel
theorem dX5_append_11 : decode cX5_append 11 = .ok (.dup, 1) := by decide +kernel
theorem dX5_append_12 : decode cX5_append 12 = .ok (.getfield 15, 3) := by decide +kernel
theorem dX5_append_15 : decode cX5_append 15 = .ok (.iconst 1, 1) := by decide +kernel
theorem dX5_append_16 : decode cX5_append 16 = .ok (.iadd, 1) := by decide +kernel
theorem dX5_append_17 : decode cX5_append 17 = .ok (.putfield 15, 3) := by decide +kernel
theorem dX5_append_20 : decode cX5_append 20 = .ok (.aload_n 0, 1) := by decide +kernel
theorem dX5_append_21 : decode cX5_append 21 = .ok (.getfield 15, 3) := by decide +kernel
theorem dX5_append_24 : decode cX5_append 24 = .ok (.ireturn, 1) := by decide +kernel
theorem dX5_read_0 : decode cX5_read 0 = .ok (.aload_n 0, 1) := by decide +kernel
theorem dX5_read_1 : decode cX5_read 1 = .ok (.iconst 0, 1) := by decide +kernel
theorem dX5_read_2 : decode cX5_read 2 = .ok (.putfield 31, 3) := by decide +kernel
theorem dX5_read_5 : decode cX5_read 5 = .ok (.aload_n 0, 1) := by decide +kernel
theorem dX5_read_6 : decode cX5_read 6 = .ok (.invokevirtual 34, 3) := by decide +kernel
theorem dX5_read_9 : decode cX5_read 9 = .ok (.aload_n 1, 1) := by decide +kernel
theorem dX5_read_10 : decode cX5_read 10 = .ok (.invokevirtual 37, 3) := by decide +kernel
theorem dX5_read_13 : decode cX5_read 13 = .ok (.aload_n 0, 1) := by decide +kernel
theorem dX5_read_14 : decode cX5_read 14 = .ok (.aload_n 1, 1) := by decide +kernel
theorem dX5_read_15 : decode cX5_read 15 = .ok (.invokevirtual 42, 3) := by decide +kernel
theorem dX5_read_18 : decode cX5_read 18 = .ok (.ifCond .eq 38, 3) := by decide +kernel
theorem dX5_read_21 : decode cX5_read 21 = .ok (.aload_n 0, 1) := by decide +kernel
theorem dX5_read_22 : decode cX5_read 22 = .ok (.aload_n 1, 1) := by decide +kernel
theorem dX5_read_23 : decode cX5_read 23 = .ok (.invokevirtual 46, 3) := by decide +kernel
theorem dX5_read_26 : decode cX5_read 26 = .ok (.ifCond .eq 30, 3) := by decide +kernel
theorem dX5_read_29 : decode cX5_read 29 = .ok (.aload_n 0, 1) := by decide +kernel
theorem dX5_read_30 : decode cX5_read 30 = .ok (.aload_n 1, 1) := by decide +kernel
theorem dX5_read_31 : decode cX5_read 31 = .ok (.invokevirtual 49, 3) := by decide +kernel
theorem dX5_read_34 : decode cX5_read 34 = .ok (.ifCond .eq 22, 3) := by decide +kernel
theorem dX5_read_37 : decode cX5_read 37 = .ok (.aload_n 0, 1) := by decide +kernel
theorem dX5_read_38 : decode cX5_read 38 = .ok (.aload_n 1, 1) := by decide +kernel
theorem dX5_read_39 : decode cX5_read 39 = .ok (.invokevirtual 52, 3) := by decide +kernel
theorem dX5_read_42 : decode cX5_read 42 = .ok (.ifCond .eq 14, 3) := by decide +kernel
theorem dX5_read_45 : decode cX5_read 45 = .ok (.aload_n 0, 1) := by decide +kernel
theorem dX5_read_46 : decode cX5_read 46 = .ok (.invokevirtual 55, 3) := by decide +kernel
theorem dX5_read_49 : decode cX5_read 49 = .ok (.ifCond .eq 7, 3) := by decide +kernel
theorem dX5_read_52 : decode cX5_read 52 = .ok (.iconst 1, 1) := by decide +kernel
theorem dX5_read_53 : decode cX5_read 53 = .ok (.goto 4, 3) := by decide +kernel
theorem dX5_read_56 : decode cX5_read 56 = .ok (.iconst 0, 1) := by decide +kernel
theorem dX5_read_57 : decode cX5_read 57 = .ok (.istore_n 2, 1) := by decide +kernel
theorem dX5_read_58 : decode cX5_read 58 = .ok (.aload_n 0, 1) := by decide +kernel
theorem dX5_read_59 : decode cX5_read 59 = .ok (.iconst 0, 1) := by decide +kernel
theorem dX5_read_60 : decode cX5_read 60 = .ok (.putfield 15, 3) := by decide +kernel
theorem dX5_read_63 : decode cX5_read 63 = .ok (.iload_n 2, 1) := by decide +kernel
theorem dX5_read_64 : decode cX5_read 64 = .ok (.ifCond .eq 7, 3) := by decide +kernel
theorem dX5_read_67 : decode cX5_read 67 = .ok (.iconst (-1), 1) := by decide +kernel
theorem dX5_read_68 : decode cX5_read 68 = .ok (.goto 7, 3) := by decide +kernel
theorem dX5_read_71 : decode cX5_read 71 = .ok (.aload_n 0, 1) := by decide +kernel
theorem dX5_read_72 : decode cX5_read 72 = .ok (.getfield 28, 3) := by decide +kernel
theorem dX5_read_75 : decode cX5_read 75 = .ok (.ireturn, 1) := by decide +kernel
theorem dX5_readLaw_0 : decode cX5_readLaw 0 = .ok (.aload_n 0, 1) := by decide +kernel
theorem dX5_readLaw_1 : decode cX5_readLaw 1 = .ok (.bipush 111, 2) := by decide +kernel
theorem dX5_readLaw_3 : decode cX5_readLaw 3 = .ok (.invokevirtual 59, 3) := by decide +kernel
theorem dX5_readLaw_6 : decode cX5_readLaw 6 = .ok (.ifCond .ne 5, 3) := by decide +kernel
theorem dX5_readLaw_9 : decode cX5_readLaw 9 = .ok (.iconst 0, 1) := by decide +kernel
theorem dX5_readLaw_10 : decode cX5_readLaw 10 = .ok (.ireturn, 1) := by decide +kernel
theorem dX5_readLaw_11 : decode cX5_readLaw 11 = .ok (.aload_n 1, 1) := by decide +kernel
theorem dX5_readLaw_12 : decode cX5_readLaw 12 = .ok (.aload_n 0, 1) := by decide +kernel
theorem dX5_readLaw_13 : decode cX5_readLaw 13 = .ok (.iconst 0, 1) := by decide +kernel
theorem dX5_readLaw_14 : decode cX5_readLaw 14 = .ok (.bipush 23, 2) := by decide +kernel
theorem dX5_readLaw_16 : decode cX5_readLaw 16 = .ok (.iconst 0, 1) := by decide +kernel
theorem dX5_readLaw_17 : decode cX5_readLaw 17 = .ok (.bipush 44, 2) := by decide +kernel
theorem dX5_readLaw_19 : decode cX5_readLaw 19 = .ok (.invokevirtual 63, 3) := by decide +kernel
theorem dX5_readLaw_22 : decode cX5_readLaw 22 = .ok (.putfield 67, 3) := by decide +kernel
theorem dX5_readLaw_25 : decode cX5_readLaw 25 = .ok (.aload_n 1, 1) := by decide +kernel
theorem dX5_readLaw_26 : decode cX5_readLaw 26 = .ok (.getfield 67, 3) := by decide +kernel
theorem dX5_readLaw_29 : decode cX5_readLaw 29 = .ok (.ifCond .ge 5, 3) := by decide +kernel
theorem dX5_readLaw_32 : decode cX5_readLaw 32 = .ok (.iconst 0, 1) := by decide +kernel
theorem dX5_readLaw_33 : decode cX5_readLaw 33 = .ok (.ireturn, 1) := by decide +kernel
theorem dX5_readLaw_34 : decode cX5_readLaw 34 = .ok (.aload_n 1, 1) := by decide +kernel
theorem dX5_readLaw_35 : decode cX5_readLaw 35 = .ok (.aload_n 0, 1) := by decide +kernel
theorem dX5_readLaw_36 : decode cX5_readLaw 36 = .ok (.iconst 0, 1) := by decide +kernel
theorem dX5_readLaw_37 : decode cX5_readLaw 37 = .ok (.bipush 23, 2) := by decide +kernel
theorem dX5_readLaw_39 : decode cX5_readLaw 39 = .ok (.iconst 1, 1) := by decide +kernel
theorem dX5_readLaw_40 : decode cX5_readLaw 40 = .ok (.aload_n 1, 1) := by decide +kernel
theorem dX5_readLaw_41 : decode cX5_readLaw 41 = .ok (.getfield 67, 3) := by decide +kernel
theorem dX5_readLaw_44 : decode cX5_readLaw 44 = .ok (.ishl, 1) := by decide +kernel
theorem dX5_readLaw_45 : decode cX5_readLaw 45 = .ok (.bipush 44, 2) := by decide +kernel
theorem dX5_readLaw_47 : decode cX5_readLaw 47 = .ok (.invokevirtual 63, 3) := by decide +kernel
theorem dX5_readLaw_50 : decode cX5_readLaw 50 = .ok (.putfield 70, 3) := by decide +kernel
theorem dX5_readLaw_53 : decode cX5_readLaw 53 = .ok (.aload_n 1, 1) := by decide +kernel
theorem dX5_readLaw_54 : decode cX5_readLaw 54 = .ok (.getfield 70, 3) := by decide +kernel
theorem dX5_readLaw_57 : decode cX5_readLaw 57 = .ok (.ifCond .ge 5, 3) := by decide +kernel
theorem dX5_readLaw_60 : decode cX5_readLaw 60 = .ok (.iconst 0, 1) := by decide +kernel
theorem dX5_readLaw_61 : decode cX5_readLaw 61 = .ok (.ireturn, 1) := by decide +kernel
theorem dX5_readLaw_62 : decode cX5_readLaw 62 = .ok (.aload_n 1, 1) := by decide +kernel
theorem dX5_readLaw_63 : decode cX5_readLaw 63 = .ok (.aload_n 0, 1) := by decide +kernel
theorem dX5_readLaw_64 : decode cX5_readLaw 64 = .ok (.iconst 1, 1) := by decide +kernel
theorem dX5_readLaw_65 : decode cX5_readLaw 65 = .ok (.bipush 60, 2) := by decide +kernel
theorem dX5_readLaw_67 : decode cX5_readLaw 67 = .ok (.iconst 0, 1) := by decide +kernel
theorem dX5_readLaw_68 : decode cX5_readLaw 68 = .ok (.bipush 44, 2) := by decide +kernel
theorem dX5_readLaw_70 : decode cX5_readLaw 70 = .ok (.invokevirtual 63, 3) := by decide +kernel
theorem dX5_readLaw_73 : decode cX5_readLaw 73 = .ok (.putfield 73, 3) := by decide +kernel
theorem dX5_readLaw_76 : decode cX5_readLaw 76 = .ok (.aload_n 1, 1) := by decide +kernel
theorem dX5_readLaw_77 : decode cX5_readLaw 77 = .ok (.getfield 73, 3) := by decide +kernel
theorem dX5_readLaw_80 : decode cX5_readLaw 80 = .ok (.ifCond .ge 5, 3) := by decide +kernel
theorem dX5_readLaw_83 : decode cX5_readLaw 83 = .ok (.iconst 0, 1) := by decide +kernel
theorem dX5_readLaw_84 : decode cX5_readLaw 84 = .ok (.ireturn, 1) := by decide +kernel
theorem dX5_readLaw_85 : decode cX5_readLaw 85 = .ok (.aload_n 1, 1) := by decide +kernel
theorem dX5_readLaw_86 : decode cX5_readLaw 86 = .ok (.aload_n 0, 1) := by decide +kernel
theorem dX5_readLaw_87 : decode cX5_readLaw 87 = .ok (.iconst 0, 1) := by decide +kernel
theorem dX5_readLaw_88 : decode cX5_readLaw 88 = .ok (.bipush 9, 2) := by decide +kernel
theorem dX5_readLaw_90 : decode cX5_readLaw 90 = .ok (.iconst 0, 1) := by decide +kernel
theorem dX5_readLaw_91 : decode cX5_readLaw 91 = .ok (.bipush 44, 2) := by decide +kernel
theorem dX5_readLaw_93 : decode cX5_readLaw 93 = .ok (.invokevirtual 63, 3) := by decide +kernel
theorem dX5_readLaw_96 : decode cX5_readLaw 96 = .ok (.putfield 76, 3) := by decide +kernel
theorem dX5_readLaw_99 : decode cX5_readLaw 99 = .ok (.aload_n 1, 1) := by decide +kernel
theorem dX5_readLaw_100 : decode cX5_readLaw 100 = .ok (.getfield 76, 3) := by decide +kernel
theorem dX5_readLaw_103 : decode cX5_readLaw 103 = .ok (.ifCond .ge 5, 3) := by decide +kernel
theorem dX5_readLaw_106 : decode cX5_readLaw 106 = .ok (.iconst 0, 1) := by decide +kernel
theorem dX5_readLaw_107 : decode cX5_readLaw 107 = .ok (.ireturn, 1) := by decide +kernel
theorem dX5_readLaw_108 : decode cX5_readLaw 108 = .ok (.aload_n 1, 1) := by decide +kernel
theorem dX5_readLaw_109 : decode cX5_readLaw 109 = .ok (.aload_n 0, 1) := by decide +kernel
theorem dX5_readLaw_110 : decode cX5_readLaw 110 = .ok (.iconst 0, 1) := by decide +kernel
theorem dX5_readLaw_111 : decode cX5_readLaw 111 = .ok (.bipush 40, 2) := by decide +kernel
theorem dX5_readLaw_113 : decode cX5_readLaw 113 = .ok (.iconst 0, 1) := by decide +kernel
theorem dX5_readLaw_114 : decode cX5_readLaw 114 = .ok (.bipush 59, 2) := by decide +kernel
theorem dX5_readLaw_116 : decode cX5_readLaw 116 = .ok (.invokevirtual 63, 3) := by decide +kernel
theorem dX5_readLaw_119 : decode cX5_readLaw 119 = .ok (.putfield 79, 3) := by decide +kernel
theorem dX5_readLaw_122 : decode cX5_readLaw 122 = .ok (.aload_n 1, 1) := by decide +kernel
theorem dX5_readLaw_123 : decode cX5_readLaw 123 = .ok (.getfield 79, 3) := by decide +kernel
theorem dX5_readLaw_126 : decode cX5_readLaw 126 = .ok (.ifCond .lt 7, 3) := by decide +kernel
theorem dX5_readLaw_129 : decode cX5_readLaw 129 = .ok (.iconst 1, 1) := by decide +kernel
theorem dX5_readLaw_130 : decode cX5_readLaw 130 = .ok (.goto 4, 3) := by decide +kernel
theorem dX5_readLaw_133 : decode cX5_readLaw 133 = .ok (.iconst 0, 1) := by decide +kernel
theorem dX5_readLaw_134 : decode cX5_readLaw 134 = .ok (.ireturn, 1) := by decide +kernel
theorem dX5_readHens_0 : decode cX5_readHens 0 = .ok (.iconst 0, 1) := by decide +kernel
theorem dX5_readHens_1 : decode cX5_readHens 1 = .ok (.istore_n 2, 1) := by decide +kernel
theorem dX5_readHens_2 : decode cX5_readHens 2 = .ok (.iload_n 2, 1) := by decide +kernel
theorem dX5_readHens_3 : decode cX5_readHens 3 = .ok (.iconst 3, 1) := by decide +kernel
theorem dX5_readHens_4 : decode cX5_readHens 4 = .ok (.if_icmp .gt 76, 3) := by decide +kernel
theorem dX5_readHens_7 : decode cX5_readHens 7 = .ok (.aload_n 0, 1) := by decide +kernel
theorem dX5_readHens_8 : decode cX5_readHens 8 = .ok (.getfield 22, 3) := by decide +kernel
theorem dX5_readHens_11 : decode cX5_readHens 11 = .ok (.bipush 104, 2) := by decide +kernel
theorem dX5_readHens_13 : decode cX5_readHens 13 = .ok (.if_icmp .ne 67, 3) := by decide +kernel
theorem dX5_readHens_16 : decode cX5_readHens 16 = .ok (.iload_n 2, 1) := by decide +kernel
theorem dX5_readHens_17 : decode cX5_readHens 17 = .ok (.iconst 3, 1) := by decide +kernel
theorem dX5_readHens_18 : decode cX5_readHens 18 = .ok (.if_icmp .ne 9, 3) := by decide +kernel
theorem dX5_readHens_21 : decode cX5_readHens 21 = .ok (.aload_n 0, 1) := by decide +kernel
theorem dX5_readHens_22 : decode cX5_readHens 22 = .ok (.iconst 3, 1) := by decide +kernel
theorem dX5_readHens_23 : decode cX5_readHens 23 = .ok (.invokevirtual 82, 3) := by decide +kernel
theorem dX5_readHens_26 : decode cX5_readHens 26 = .ok (.ireturn, 1) := by decide +kernel
theorem dX5_readHens_27 : decode cX5_readHens 27 = .ok (.aload_n 0, 1) := by decide +kernel
theorem dX5_readHens_28 : decode cX5_readHens 28 = .ok (.invokevirtual 34, 3) := by decide +kernel
theorem dX5_readHens_31 : decode cX5_readHens 31 = .ok (.aload_n 0, 1) := by decide +kernel
theorem dX5_readHens_32 : decode cX5_readHens 32 = .ok (.iconst 0, 1) := by decide +kernel
theorem dX5_readHens_33 : decode cX5_readHens 33 = .ok (.bipush 23, 2) := by decide +kernel
theorem dX5_readHens_35 : decode cX5_readHens 35 = .ok (.iconst 0, 1) := by decide +kernel
theorem dX5_readHens_36 : decode cX5_readHens 36 = .ok (.bipush 44, 2) := by decide +kernel
theorem dX5_readHens_38 : decode cX5_readHens 38 = .ok (.invokevirtual 63, 3) := by decide +kernel
theorem dX5_readHens_41 : decode cX5_readHens 41 = .ok (.istore_n 3, 1) := by decide +kernel
theorem dX5_readHens_42 : decode cX5_readHens 42 = .ok (.iload_n 3, 1) := by decide +kernel
theorem dX5_readHens_43 : decode cX5_readHens 43 = .ok (.ifCond .ge 5, 3) := by decide +kernel
theorem dX5_readHens_46 : decode cX5_readHens 46 = .ok (.iconst 0, 1) := by decide +kernel
theorem dX5_readHens_47 : decode cX5_readHens 47 = .ok (.ireturn, 1) := by decide +kernel
theorem dX5_readHens_48 : decode cX5_readHens 48 = .ok (.aload_n 0, 1) := by decide +kernel
theorem dX5_readHens_49 : decode cX5_readHens 49 = .ok (.iconst 1, 1) := by decide +kernel
theorem dX5_readHens_50 : decode cX5_readHens 50 = .ok (.bipush 9, 2) := by decide +kernel
theorem dX5_readHens_52 : decode cX5_readHens 52 = .ok (.iconst 0, 1) := by decide +kernel
theorem dX5_readHens_53 : decode cX5_readHens 53 = .ok (.bipush 59, 2) := by decide +kernel
theorem dX5_readHens_55 : decode cX5_readHens 55 = .ok (.invokevirtual 63, 3) := by decide +kernel
theorem dX5_readHens_58 : decode cX5_readHens 58 = .ok (.istore 4, 2) := by decide +kernel
theorem dX5_readHens_60 : decode cX5_readHens 60 = .ok (.iload 4, 2) := by decide +kernel
theorem dX5_readHens_62 : decode cX5_readHens 62 = .ok (.ifCond .ge 5, 3) := by decide +kernel
theorem dX5_readHens_65 : decode cX5_readHens 65 = .ok (.iconst 0, 1) := by decide +kernel
theorem dX5_readHens_66 : decode cX5_readHens 66 = .ok (.ireturn, 1) := by decide +kernel
theorem dX5_readHens_67 : decode cX5_readHens 67 = .ok (.aload_n 1, 1) := by decide +kernel
theorem dX5_readHens_68 : decode cX5_readHens 68 = .ok (.iload_n 3, 1) := by decide +kernel
theorem dX5_readHens_69 : decode cX5_readHens 69 = .ok (.iload 4, 2) := by decide +kernel
theorem dX5_readHens_71 : decode cX5_readHens 71 = .ok (.invokevirtual 85, 3) := by decide +kernel
theorem dX5_readHens_74 : decode cX5_readHens 74 = .ok (.iinc 2 1, 3) := by decide +kernel
theorem dX5_readHens_77 : decode cX5_readHens 77 = .ok (.goto (-75), 3) := by decide +kernel
theorem dX5_readHens_80 : decode cX5_readHens 80 = .ok (.iconst 1, 1) := by decide +kernel
theorem dX5_readHens_81 : decode cX5_readHens 81 = .ok (.ireturn, 1) := by decide +kernel
theorem dX5_readTrees_0 : decode cX5_readTrees 0 = .ok (.iconst 1, 1) := by decide +kernel
theorem dX5_readTrees_1 : decode cX5_readTrees 1 = .ok (.aload_n 1, 1) := by decide +kernel
theorem dX5_readTrees_2 : decode cX5_readTrees 2 = .ok (.getfield 70, 3) := by decide +kernel
theorem dX5_readTrees_5 : decode cX5_readTrees 5 = .ok (.ishl, 1) := by decide +kernel
theorem dX5_readTrees_6 : decode cX5_readTrees 6 = .ok (.istore_n 2, 1) := by decide +kernel
theorem dX5_readTrees_7 : decode cX5_readTrees 7 = .ok (.iconst 0, 1) := by decide +kernel
theorem dX5_readTrees_8 : decode cX5_readTrees 8 = .ok (.istore_n 3, 1) := by decide +kernel
theorem dX5_readTrees_9 : decode cX5_readTrees 9 = .ok (.iload_n 3, 1) := by decide +kernel
theorem dX5_readTrees_10 : decode cX5_readTrees 10 = .ok (.bipush 6, 2) := by decide +kernel
theorem dX5_readTrees_12 : decode cX5_readTrees 12 = .ok (.if_icmp .gt 137, 3) := by decide +kernel
theorem dX5_readTrees_15 : decode cX5_readTrees 15 = .ok (.aload_n 0, 1) := by decide +kernel
theorem dX5_readTrees_16 : decode cX5_readTrees 16 = .ok (.getfield 22, 3) := by decide +kernel
theorem dX5_readTrees_19 : decode cX5_readTrees 19 = .ok (.bipush 116, 2) := by decide +kernel
theorem dX5_readTrees_21 : decode cX5_readTrees 21 = .ok (.if_icmp .ne 128, 3) := by decide +kernel
theorem dX5_readTrees_24 : decode cX5_readTrees 24 = .ok (.iload_n 3, 1) := by decide +kernel
theorem dX5_readTrees_25 : decode cX5_readTrees 25 = .ok (.bipush 6, 2) := by decide +kernel
theorem dX5_readTrees_27 : decode cX5_readTrees 27 = .ok (.if_icmp .ne 9, 3) := by decide +kernel
theorem dX5_readTrees_30 : decode cX5_readTrees 30 = .ok (.aload_n 0, 1) := by decide +kernel
theorem dX5_readTrees_31 : decode cX5_readTrees 31 = .ok (.iconst 3, 1) := by decide +kernel
theorem dX5_readTrees_32 : decode cX5_readTrees 32 = .ok (.invokevirtual 82, 3) := by decide +kernel
theorem dX5_readTrees_35 : decode cX5_readTrees 35 = .ok (.ireturn, 1) := by decide +kernel
theorem dX5_readTrees_36 : decode cX5_readTrees 36 = .ok (.aload_n 0, 1) := by decide +kernel
theorem dX5_readTrees_37 : decode cX5_readTrees 37 = .ok (.invokevirtual 34, 3) := by decide +kernel
theorem dX5_readTrees_40 : decode cX5_readTrees 40 = .ok (.aload_n 1, 1) := by decide +kernel
theorem dX5_readTrees_41 : decode cX5_readTrees 41 = .ok (.getfield 89, 3) := by decide +kernel
theorem dX5_readTrees_44 : decode cX5_readTrees 44 = .ok (.iload_n 3, 1) := by decide +kernel
theorem dX5_readTrees_45 : decode cX5_readTrees 45 = .ok (.aload_n 0, 1) := by decide +kernel
theorem dX5_readTrees_46 : decode cX5_readTrees 46 = .ok (.iconst 0, 1) := by decide +kernel
theorem dX5_readTrees_47 : decode cX5_readTrees 47 = .ok (.bipush 23, 2) := by decide +kernel
theorem dX5_readTrees_49 : decode cX5_readTrees 49 = .ok (.iload_n 2, 1) := by decide +kernel
theorem dX5_readTrees_50 : decode cX5_readTrees 50 = .ok (.bipush 44, 2) := by decide +kernel
theorem dX5_readTrees_52 : decode cX5_readTrees 52 = .ok (.invokevirtual 63, 3) := by decide +kernel
theorem dX5_readTrees_55 : decode cX5_readTrees 55 = .ok (.iastore, 1) := by decide +kernel
theorem dX5_readTrees_56 : decode cX5_readTrees 56 = .ok (.aload_n 1, 1) := by decide +kernel
theorem dX5_readTrees_57 : decode cX5_readTrees 57 = .ok (.getfield 89, 3) := by decide +kernel
theorem dX5_readTrees_60 : decode cX5_readTrees 60 = .ok (.iload_n 3, 1) := by decide +kernel
theorem dX5_readTrees_61 : decode cX5_readTrees 61 = .ok (.iaload, 1) := by decide +kernel
theorem dX5_readTrees_62 : decode cX5_readTrees 62 = .ok (.ifCond .ge 5, 3) := by decide +kernel
theorem dX5_readTrees_65 : decode cX5_readTrees 65 = .ok (.iconst 0, 1) := by decide +kernel
theorem dX5_readTrees_66 : decode cX5_readTrees 66 = .ok (.ireturn, 1) := by decide +kernel
theorem dX5_readTrees_67 : decode cX5_readTrees 67 = .ok (.iload_n 2, 1) := by decide +kernel
theorem dX5_readTrees_68 : decode cX5_readTrees 68 = .ok (.iconst 1, 1) := by decide +kernel
theorem dX5_readTrees_69 : decode cX5_readTrees 69 = .ok (.aload_n 1, 1) := by decide +kernel
theorem dX5_readTrees_70 : decode cX5_readTrees 70 = .ok (.getfield 89, 3) := by decide +kernel
theorem dX5_readTrees_73 : decode cX5_readTrees 73 = .ok (.iload_n 3, 1) := by decide +kernel
theorem dX5_readTrees_74 : decode cX5_readTrees 74 = .ok (.iaload, 1) := by decide +kernel
theorem dX5_readTrees_75 : decode cX5_readTrees 75 = .ok (.ishl, 1) := by decide +kernel
theorem dX5_readTrees_76 : decode cX5_readTrees 76 = .ok (.ior, 1) := by decide +kernel
theorem dX5_readTrees_77 : decode cX5_readTrees 77 = .ok (.istore_n 2, 1) := by decide +kernel
theorem dX5_readTrees_78 : decode cX5_readTrees 78 = .ok (.aload_n 1, 1) := by decide +kernel
theorem dX5_readTrees_79 : decode cX5_readTrees 79 = .ok (.getfield 92, 3) := by decide +kernel
theorem dX5_readTrees_82 : decode cX5_readTrees 82 = .ok (.iconst 0, 1) := by decide +kernel
theorem dX5_readTrees_83 : decode cX5_readTrees 83 = .ok (.iload_n 3, 1) := by decide +kernel
theorem dX5_readTrees_84 : decode cX5_readTrees 84 = .ok (.iadd, 1) := by decide +kernel
theorem dX5_readTrees_85 : decode cX5_readTrees 85 = .ok (.aload_n 0, 1) := by decide +kernel
theorem dX5_readTrees_86 : decode cX5_readTrees 86 = .ok (.iconst 0, 1) := by decide +kernel
theorem dX5_readTrees_87 : decode cX5_readTrees 87 = .ok (.bipush 30, 2) := by decide +kernel
theorem dX5_readTrees_89 : decode cX5_readTrees 89 = .ok (.iconst 0, 1) := by decide +kernel
theorem dX5_readTrees_90 : decode cX5_readTrees 90 = .ok (.bipush 44, 2) := by decide +kernel
theorem dX5_readTrees_92 : decode cX5_readTrees 92 = .ok (.invokevirtual 63, 3) := by decide +kernel
theorem dX5_readTrees_95 : decode cX5_readTrees 95 = .ok (.iastore, 1) := by decide +kernel
theorem dX5_readTrees_96 : decode cX5_readTrees 96 = .ok (.aload_n 1, 1) := by decide +kernel
theorem dX5_readTrees_97 : decode cX5_readTrees 97 = .ok (.getfield 92, 3) := by decide +kernel
theorem dX5_readTrees_100 : decode cX5_readTrees 100 = .ok (.iconst 0, 1) := by decide +kernel
theorem dX5_readTrees_101 : decode cX5_readTrees 101 = .ok (.iload_n 3, 1) := by decide +kernel
theorem dX5_readTrees_102 : decode cX5_readTrees 102 = .ok (.iadd, 1) := by decide +kernel
theorem dX5_readTrees_103 : decode cX5_readTrees 103 = .ok (.iaload, 1) := by decide +kernel
theorem dX5_readTrees_104 : decode cX5_readTrees 104 = .ok (.ifCond .ge 5, 3) := by decide +kernel
theorem dX5_readTrees_107 : decode cX5_readTrees 107 = .ok (.iconst 0, 1) := by decide +kernel
theorem dX5_readTrees_108 : decode cX5_readTrees 108 = .ok (.ireturn, 1) := by decide +kernel
theorem dX5_readTrees_109 : decode cX5_readTrees 109 = .ok (.aload_n 1, 1) := by decide +kernel
theorem dX5_readTrees_110 : decode cX5_readTrees 110 = .ok (.getfield 95, 3) := by decide +kernel
theorem dX5_readTrees_113 : decode cX5_readTrees 113 = .ok (.iload_n 3, 1) := by decide +kernel
theorem dX5_readTrees_114 : decode cX5_readTrees 114 = .ok (.aload_n 0, 1) := by decide +kernel
theorem dX5_readTrees_115 : decode cX5_readTrees 115 = .ok (.iconst 0, 1) := by decide +kernel
theorem dX5_readTrees_116 : decode cX5_readTrees 116 = .ok (.bipush 9, 2) := by decide +kernel
theorem dX5_readTrees_118 : decode cX5_readTrees 118 = .ok (.iconst 0, 1) := by decide +kernel
theorem dX5_readTrees_119 : decode cX5_readTrees 119 = .ok (.bipush 59, 2) := by decide +kernel
theorem dX5_readTrees_121 : decode cX5_readTrees 121 = .ok (.invokevirtual 63, 3) := by decide +kernel
theorem dX5_readTrees_124 : decode cX5_readTrees 124 = .ok (.iastore, 1) := by decide +kernel
theorem dX5_readTrees_125 : decode cX5_readTrees 125 = .ok (.aload_n 1, 1) := by decide +kernel
theorem dX5_readTrees_126 : decode cX5_readTrees 126 = .ok (.getfield 95, 3) := by decide +kernel
theorem dX5_readTrees_129 : decode cX5_readTrees 129 = .ok (.iload_n 3, 1) := by decide +kernel
theorem dX5_readTrees_130 : decode cX5_readTrees 130 = .ok (.iaload, 1) := by decide +kernel
theorem dX5_readTrees_131 : decode cX5_readTrees 131 = .ok (.ifCond .ge 5, 3) := by decide +kernel
theorem dX5_readTrees_134 : decode cX5_readTrees 134 = .ok (.iconst 0, 1) := by decide +kernel
theorem dX5_readTrees_135 : decode cX5_readTrees 135 = .ok (.ireturn, 1) := by decide +kernel
theorem dX5_readTrees_136 : decode cX5_readTrees 136 = .ok (.aload_n 1, 1) := by decide +kernel
theorem dX5_readTrees_137 : decode cX5_readTrees 137 = .ok (.iload_n 3, 1) := by decide +kernel
theorem dX5_readTrees_138 : decode cX5_readTrees 138 = .ok (.iconst 1, 1) := by decide +kernel
theorem dX5_readTrees_139 : decode cX5_readTrees 139 = .ok (.iadd, 1) := by decide +kernel
theorem dX5_readTrees_140 : decode cX5_readTrees 140 = .ok (.putfield 98, 3) := by decide +kernel
theorem dX5_readTrees_143 : decode cX5_readTrees 143 = .ok (.iinc 3 1, 3) := by decide +kernel
theorem dX5_readTrees_146 : decode cX5_readTrees 146 = .ok (.goto (-137), 3) := by decide +kernel
theorem dX5_readTrees_149 : decode cX5_readTrees 149 = .ok (.iconst 1, 1) := by decide +kernel
theorem dX5_readTrees_150 : decode cX5_readTrees 150 = .ok (.ireturn, 1) := by decide +kernel
theorem dX5_readRaiders_0 : decode cX5_readRaiders 0 = .ok (.iconst 0, 1) := by decide +kernel
theorem dX5_readRaiders_1 : decode cX5_readRaiders 1 = .ok (.istore_n 2, 1) := by decide +kernel
theorem dX5_readRaiders_2 : decode cX5_readRaiders 2 = .ok (.iload_n 2, 1) := by decide +kernel
theorem dX5_readRaiders_3 : decode cX5_readRaiders 3 = .ok (.iconst 4, 1) := by decide +kernel
theorem dX5_readRaiders_4 : decode cX5_readRaiders 4 = .ok (.if_icmp .gt 89, 3) := by decide +kernel
theorem dX5_readRaiders_7 : decode cX5_readRaiders 7 = .ok (.ldc 101, 2) := by decide +kernel
theorem dX5_readRaiders_9 : decode cX5_readRaiders 9 = .ok (.aload_n 0, 1) := by decide +kernel
theorem dX5_readRaiders_10 : decode cX5_readRaiders 10 = .ok (.getfield 22, 3) := by decide +kernel
theorem dX5_readRaiders_13 : decode cX5_readRaiders 13 = .ok (.i2c, 1) := by decide +kernel
theorem dX5_readRaiders_14 : decode cX5_readRaiders 14 = .ok (.invokevirtual 103, 3) := by decide +kernel
theorem dX5_readRaiders_17 : decode cX5_readRaiders 17 = .ok (.ifCond .lt 76, 3) := by decide +kernel
theorem dX5_readRaiders_20 : decode cX5_readRaiders 20 = .ok (.iload_n 2, 1) := by decide +kernel
theorem dX5_readRaiders_21 : decode cX5_readRaiders 21 = .ok (.iconst 4, 1) := by decide +kernel
theorem dX5_readRaiders_22 : decode cX5_readRaiders 22 = .ok (.if_icmp .ne 9, 3) := by decide +kernel
theorem dX5_readRaiders_25 : decode cX5_readRaiders 25 = .ok (.aload_n 0, 1) := by decide +kernel
theorem dX5_readRaiders_26 : decode cX5_readRaiders 26 = .ok (.iconst 3, 1) := by decide +kernel
theorem dX5_readRaiders_27 : decode cX5_readRaiders 27 = .ok (.invokevirtual 82, 3) := by decide +kernel
theorem dX5_readRaiders_30 : decode cX5_readRaiders 30 = .ok (.ireturn, 1) := by decide +kernel
theorem dX5_readRaiders_31 : decode cX5_readRaiders 31 = .ok (.aload_n 1, 1) := by decide +kernel
theorem dX5_readRaiders_32 : decode cX5_readRaiders 32 = .ok (.getfield 109, 3) := by decide +kernel
theorem dX5_readRaiders_35 : decode cX5_readRaiders 35 = .ok (.iload_n 2, 1) := by decide +kernel
theorem dX5_readRaiders_36 : decode cX5_readRaiders 36 = .ok (.ldc 101, 2) := by decide +kernel
theorem dX5_readRaiders_38 : decode cX5_readRaiders 38 = .ok (.aload_n 0, 1) := by decide +kernel
theorem dX5_readRaiders_39 : decode cX5_readRaiders 39 = .ok (.getfield 22, 3) := by decide +kernel
theorem dX5_readRaiders_42 : decode cX5_readRaiders 42 = .ok (.i2c, 1) := by decide +kernel
theorem dX5_readRaiders_43 : decode cX5_readRaiders 43 = .ok (.invokevirtual 103, 3) := by decide +kernel
theorem dX5_readRaiders_46 : decode cX5_readRaiders 46 = .ok (.iconst 1, 1) := by decide +kernel
theorem dX5_readRaiders_47 : decode cX5_readRaiders 47 = .ok (.iadd, 1) := by decide +kernel
theorem dX5_readRaiders_48 : decode cX5_readRaiders 48 = .ok (.iastore, 1) := by decide +kernel
theorem dX5_readRaiders_49 : decode cX5_readRaiders 49 = .ok (.aload_n 0, 1) := by decide +kernel
theorem dX5_readRaiders_50 : decode cX5_readRaiders 50 = .ok (.invokevirtual 34, 3) := by decide +kernel
theorem dX5_readRaiders_53 : decode cX5_readRaiders 53 = .ok (.aload_n 1, 1) := by decide +kernel
theorem dX5_readRaiders_54 : decode cX5_readRaiders 54 = .ok (.getfield 112, 3) := by decide +kernel
theorem dX5_readRaiders_57 : decode cX5_readRaiders 57 = .ok (.iload_n 2, 1) := by decide +kernel
theorem dX5_readRaiders_58 : decode cX5_readRaiders 58 = .ok (.aload_n 0, 1) := by decide +kernel
theorem dX5_readRaiders_59 : decode cX5_readRaiders 59 = .ok (.iconst 1, 1) := by decide +kernel
theorem dX5_readRaiders_60 : decode cX5_readRaiders 60 = .ok (.bipush 20, 2) := by decide +kernel
theorem dX5_readRaiders_62 : decode cX5_readRaiders 62 = .ok (.iconst 0, 1) := by decide +kernel
theorem dX5_readRaiders_63 : decode cX5_readRaiders 63 = .ok (.bipush 59, 2) := by decide +kernel
theorem dX5_readRaiders_65 : decode cX5_readRaiders 65 = .ok (.invokevirtual 63, 3) := by decide +kernel
theorem dX5_readRaiders_68 : decode cX5_readRaiders 68 = .ok (.iastore, 1) := by decide +kernel
theorem dX5_readRaiders_69 : decode cX5_readRaiders 69 = .ok (.aload_n 1, 1) := by decide +kernel
theorem dX5_readRaiders_70 : decode cX5_readRaiders 70 = .ok (.getfield 112, 3) := by decide +kernel
theorem dX5_readRaiders_73 : decode cX5_readRaiders 73 = .ok (.iload_n 2, 1) := by decide +kernel
theorem dX5_readRaiders_74 : decode cX5_readRaiders 74 = .ok (.iaload, 1) := by decide +kernel
theorem dX5_readRaiders_75 : decode cX5_readRaiders 75 = .ok (.ifCond .ge 5, 3) := by decide +kernel
theorem dX5_readRaiders_78 : decode cX5_readRaiders 78 = .ok (.iconst 0, 1) := by decide +kernel
theorem dX5_readRaiders_79 : decode cX5_readRaiders 79 = .ok (.ireturn, 1) := by decide +kernel
theorem dX5_readRaiders_80 : decode cX5_readRaiders 80 = .ok (.aload_n 1, 1) := by decide +kernel
theorem dX5_readRaiders_81 : decode cX5_readRaiders 81 = .ok (.iload_n 2, 1) := by decide +kernel
theorem dX5_readRaiders_82 : decode cX5_readRaiders 82 = .ok (.iconst 1, 1) := by decide +kernel
theorem dX5_readRaiders_83 : decode cX5_readRaiders 83 = .ok (.iadd, 1) := by decide +kernel
theorem dX5_readRaiders_84 : decode cX5_readRaiders 84 = .ok (.putfield 115, 3) := by decide +kernel
theorem dX5_readRaiders_87 : decode cX5_readRaiders 87 = .ok (.iinc 2 1, 3) := by decide +kernel
theorem dX5_readRaiders_90 : decode cX5_readRaiders 90 = .ok (.goto (-88), 3) := by decide +kernel
theorem dX5_readRaiders_93 : decode cX5_readRaiders 93 = .ok (.iconst 1, 1) := by decide +kernel
theorem dX5_readRaiders_94 : decode cX5_readRaiders 94 = .ok (.ireturn, 1) := by decide +kernel
theorem dX5_isAtEnd_0 : decode cX5_isAtEnd 0 = .ok (.aload_n 0, 1) := by decide +kernel
theorem dX5_isAtEnd_1 : decode cX5_isAtEnd 1 = .ok (.getfield 22, 3) := by decide +kernel
theorem dX5_isAtEnd_4 : decode cX5_isAtEnd 4 = .ok (.iconst 2, 1) := by decide +kernel
theorem dX5_isAtEnd_5 : decode cX5_isAtEnd 5 = .ok (.if_icmp .eq 11, 3) := by decide +kernel
theorem dX5_isAtEnd_8 : decode cX5_isAtEnd 8 = .ok (.aload_n 0, 1) := by decide +kernel
theorem dX5_isAtEnd_9 : decode cX5_isAtEnd 9 = .ok (.iconst 1, 1) := by decide +kernel
theorem dX5_isAtEnd_10 : decode cX5_isAtEnd 10 = .ok (.invokevirtual 82, 3) := by decide +kernel
theorem dX5_isAtEnd_13 : decode cX5_isAtEnd 13 = .ok (.ifCond .eq 7, 3) := by decide +kernel
theorem dX5_isAtEnd_16 : decode cX5_isAtEnd 16 = .ok (.iconst 1, 1) := by decide +kernel
theorem dX5_isAtEnd_17 : decode cX5_isAtEnd 17 = .ok (.goto 4, 3) := by decide +kernel
theorem dX5_isAtEnd_20 : decode cX5_isAtEnd 20 = .ok (.iconst 0, 1) := by decide +kernel
theorem dX5_isAtEnd_21 : decode cX5_isAtEnd 21 = .ok (.ireturn, 1) := by decide +kernel
theorem dX5_fail_0 : decode cX5_fail 0 = .ok (.aload_n 0, 1) := by decide +kernel
theorem dX5_fail_1 : decode cX5_fail 1 = .ok (.iload_n 1, 1) := by decide +kernel
theorem dX5_fail_2 : decode cX5_fail 2 = .ok (.putfield 19, 3) := by decide +kernel
theorem dX5_fail_5 : decode cX5_fail 5 = .ok (.iconst 0, 1) := by decide +kernel
theorem dX5_fail_6 : decode cX5_fail 6 = .ok (.ireturn, 1) := by decide +kernel
theorem dX5_take_0 : decode cX5_take 0 = .ok (.aload_n 0, 1) := by decide +kernel
theorem dX5_take_1 : decode cX5_take 1 = .ok (.getfield 22, 3) := by decide +kernel
theorem dX5_take_4 : decode cX5_take 4 = .ok (.iload_n 1, 1) := by decide +kernel
theorem dX5_take_5 : decode cX5_take 5 = .ok (.if_icmp .eq 9, 3) := by decide +kernel
theorem dX5_take_8 : decode cX5_take 8 = .ok (.aload_n 0, 1) := by decide +kernel
theorem dX5_take_9 : decode cX5_take 9 = .ok (.iconst 1, 1) := by decide +kernel
theorem dX5_take_10 : decode cX5_take 10 = .ok (.invokevirtual 82, 3) := by decide +kernel
theorem dX5_take_13 : decode cX5_take 13 = .ok (.ireturn, 1) := by decide +kernel
theorem dX5_take_14 : decode cX5_take 14 = .ok (.aload_n 0, 1) := by decide +kernel
theorem dX5_take_15 : decode cX5_take 15 = .ok (.invokevirtual 34, 3) := by decide +kernel
theorem dX5_take_18 : decode cX5_take 18 = .ok (.iconst 1, 1) := by decide +kernel
theorem dX5_take_19 : decode cX5_take 19 = .ok (.ireturn, 1) := by decide +kernel
theorem dX5_takeField_0 : decode cX5_takeField 0 = .ok (.aload_n 0, 1) := by decide +kernel
theorem dX5_takeField_1 : decode cX5_takeField 1 = .ok (.getfield 22, 3) := by decide +kernel
theorem dX5_takeField_4 : decode cX5_takeField 4 = .ok (.iconst 1, 1) := by decide +kernel
theorem dX5_takeField_5 : decode cX5_takeField 5 = .ok (.if_icmp .eq 11, 3) := by decide +kernel
theorem dX5_takeField_8 : decode cX5_takeField 8 = .ok (.aload_n 0, 1) := by decide +kernel
theorem dX5_takeField_9 : decode cX5_takeField 9 = .ok (.iconst 1, 1) := by decide +kernel
theorem dX5_takeField_10 : decode cX5_takeField 10 = .ok (.invokevirtual 82, 3) := by decide +kernel
theorem dX5_takeField_13 : decode cX5_takeField 13 = .ok (.pop, 1) := by decide +kernel
theorem dX5_takeField_14 : decode cX5_takeField 14 = .ok (.iconst (-1), 1) := by decide +kernel
theorem dX5_takeField_15 : decode cX5_takeField 15 = .ok (.ireturn, 1) := by decide +kernel
theorem dX5_takeField_16 : decode cX5_takeField 16 = .ok (.aload_n 0, 1) := by decide +kernel
theorem dX5_takeField_17 : decode cX5_takeField 17 = .ok (.getfield 25, 3) := by decide +kernel
theorem dX5_takeField_20 : decode cX5_takeField 20 = .ok (.istore 5, 2) := by decide +kernel
theorem dX5_takeField_22 : decode cX5_takeField 22 = .ok (.iload 5, 2) := by decide +kernel
theorem dX5_takeField_24 : decode cX5_takeField 24 = .ok (.iload_n 1, 1) := by decide +kernel
theorem dX5_takeField_25 : decode cX5_takeField 25 = .ok (.if_icmp .lt 22, 3) := by decide +kernel
theorem dX5_takeField_28 : decode cX5_takeField 28 = .ok (.iload 5, 2) := by decide +kernel
theorem dX5_takeField_30 : decode cX5_takeField 30 = .ok (.iload_n 2, 1) := by decide +kernel
theorem dX5_takeField_31 : decode cX5_takeField 31 = .ok (.if_icmp .gt 16, 3) := by decide +kernel
theorem dX5_takeField_34 : decode cX5_takeField 34 = .ok (.iload_n 3, 1) := by decide +kernel
theorem dX5_takeField_35 : decode cX5_takeField 35 = .ok (.ifCond .eq 20, 3) := by decide +kernel
theorem dX5_takeField_38 : decode cX5_takeField 38 = .ok (.iload_n 3, 1) := by decide +kernel
theorem dX5_takeField_39 : decode cX5_takeField 39 = .ok (.iload 5, 2) := by decide +kernel
theorem dX5_takeField_41 : decode cX5_takeField 41 = .ok (.ishr, 1) := by decide +kernel
theorem dX5_takeField_42 : decode cX5_takeField 42 = .ok (.iconst 1, 1) := by decide +kernel
theorem dX5_takeField_43 : decode cX5_takeField 43 = .ok (.iand, 1) := by decide +kernel
theorem dX5_takeField_44 : decode cX5_takeField 44 = .ok (.ifCond .eq 11, 3) := by decide +kernel
theorem dX5_takeField_47 : decode cX5_takeField 47 = .ok (.aload_n 0, 1) := by decide +kernel
theorem dX5_takeField_48 : decode cX5_takeField 48 = .ok (.iconst 2, 1) := by decide +kernel
theorem dX5_takeField_49 : decode cX5_takeField 49 = .ok (.invokevirtual 82, 3) := by decide +kernel
theorem dX5_takeField_52 : decode cX5_takeField 52 = .ok (.pop, 1) := by decide +kernel
theorem dX5_takeField_53 : decode cX5_takeField 53 = .ok (.iconst (-1), 1) := by decide +kernel
theorem dX5_takeField_54 : decode cX5_takeField 54 = .ok (.ireturn, 1) := by decide +kernel
theorem dX5_takeField_55 : decode cX5_takeField 55 = .ok (.aload_n 0, 1) := by decide +kernel
theorem dX5_takeField_56 : decode cX5_takeField 56 = .ok (.invokevirtual 34, 3) := by decide +kernel
theorem dX5_takeField_59 : decode cX5_takeField 59 = .ok (.aload_n 0, 1) := by decide +kernel
theorem dX5_takeField_60 : decode cX5_takeField 60 = .ok (.iload 4, 2) := by decide +kernel
theorem dX5_takeField_62 : decode cX5_takeField 62 = .ok (.invokevirtual 59, 3) := by decide +kernel
theorem dX5_takeField_65 : decode cX5_takeField 65 = .ok (.ifCond .eq 8, 3) := by decide +kernel
theorem dX5_takeField_68 : decode cX5_takeField 68 = .ok (.iload 5, 2) := by decide +kernel
theorem dX5_takeField_70 : decode cX5_takeField 70 = .ok (.goto 4, 3) := by decide +kernel
theorem dX5_takeField_73 : decode cX5_takeField 73 = .ok (.iconst (-1), 1) := by decide +kernel
theorem dX5_takeField_74 : decode cX5_takeField 74 = .ok (.ireturn, 1) := by decide +kernel
theorem dX5_advance_0 : decode cX5_advance 0 = .ok (.aload_n 0, 1) := by decide +kernel
theorem dX5_advance_1 : decode cX5_advance 1 = .ok (.aload_n 0, 1) := by decide +kernel
theorem dX5_advance_2 : decode cX5_advance 2 = .ok (.getfield 31, 3) := by decide +kernel
theorem dX5_advance_5 : decode cX5_advance 5 = .ok (.putfield 28, 3) := by decide +kernel
theorem dX5_advance_8 : decode cX5_advance 8 = .ok (.aload_n 0, 1) := by decide +kernel
theorem dX5_advance_9 : decode cX5_advance 9 = .ok (.getfield 31, 3) := by decide +kernel
theorem dX5_advance_12 : decode cX5_advance 12 = .ok (.aload_n 0, 1) := by decide +kernel
theorem dX5_advance_13 : decode cX5_advance 13 = .ok (.getfield 15, 3) := by decide +kernel
theorem dX5_advance_16 : decode cX5_advance 16 = .ok (.if_icmp .lt 9, 3) := by decide +kernel
theorem dX5_advance_19 : decode cX5_advance 19 = .ok (.aload_n 0, 1) := by decide +kernel
theorem dX5_advance_20 : decode cX5_advance 20 = .ok (.iconst 2, 1) := by decide +kernel
theorem dX5_advance_21 : decode cX5_advance 21 = .ok (.putfield 22, 3) := by decide +kernel
theorem dX5_advance_24 : decode cX5_advance 24 = .ok (.return_, 1) := by decide +kernel
theorem dX5_advance_25 : decode cX5_advance 25 = .ok (.aload_n 0, 1) := by decide +kernel
theorem dX5_advance_26 : decode cX5_advance 26 = .ok (.getfield 11, 3) := by decide +kernel
theorem dX5_advance_29 : decode cX5_advance 29 = .ok (.aload_n 0, 1) := by decide +kernel
theorem dX5_advance_30 : decode cX5_advance 30 = .ok (.getfield 31, 3) := by decide +kernel
theorem dX5_advance_33 : decode cX5_advance 33 = .ok (.iaload, 1) := by decide +kernel
theorem dX5_advance_34 : decode cX5_advance 34 = .ok (.istore_n 1, 1) := by decide +kernel
theorem dX5_advance_35 : decode cX5_advance 35 = .ok (.iload_n 1, 1) := by decide +kernel
theorem dX5_advance_36 : decode cX5_advance 36 = .ok (.invokestatic 118, 3) := by decide +kernel
theorem dX5_advance_39 : decode cX5_advance 39 = .ok (.ifCond .eq 8, 3) := by decide +kernel
theorem dX5_advance_42 : decode cX5_advance 42 = .ok (.aload_n 0, 1) := by decide +kernel
theorem dX5_advance_43 : decode cX5_advance 43 = .ok (.invokevirtual 121, 3) := by decide +kernel
theorem dX5_advance_46 : decode cX5_advance 46 = .ok (.return_, 1) := by decide +kernel
theorem dX5_advance_47 : decode cX5_advance 47 = .ok (.iload_n 1, 1) := by decide +kernel
theorem dX5_advance_48 : decode cX5_advance 48 = .ok (.bipush 97, 2) := by decide +kernel
theorem dX5_advance_50 : decode cX5_advance 50 = .ok (.if_icmp .lt 9, 3) := by decide +kernel
theorem dX5_advance_53 : decode cX5_advance 53 = .ok (.iload_n 1, 1) := by decide +kernel
theorem dX5_advance_54 : decode cX5_advance 54 = .ok (.bipush 122, 2) := by decide +kernel
theorem dX5_advance_56 : decode cX5_advance 56 = .ok (.if_icmp .le 15, 3) := by decide +kernel
theorem dX5_advance_59 : decode cX5_advance 59 = .ok (.iload_n 1, 1) := by decide +kernel
theorem dX5_advance_60 : decode cX5_advance 60 = .ok (.bipush 44, 2) := by decide +kernel
theorem dX5_advance_62 : decode cX5_advance 62 = .ok (.if_icmp .eq 9, 3) := by decide +kernel
theorem dX5_advance_65 : decode cX5_advance 65 = .ok (.iload_n 1, 1) := by decide +kernel
theorem dX5_advance_66 : decode cX5_advance 66 = .ok (.bipush 59, 2) := by decide +kernel
theorem dX5_advance_68 : decode cX5_advance 68 = .ok (.if_icmp .ne 7, 3) := by decide +kernel
theorem dX5_advance_71 : decode cX5_advance 71 = .ok (.iconst 1, 1) := by decide +kernel
theorem dX5_advance_72 : decode cX5_advance 72 = .ok (.goto 4, 3) := by decide +kernel
theorem dX5_advance_75 : decode cX5_advance 75 = .ok (.iconst 0, 1) := by decide +kernel
theorem dX5_advance_76 : decode cX5_advance 76 = .ok (.istore_n 2, 1) := by decide +kernel
theorem dX5_advance_77 : decode cX5_advance 77 = .ok (.aload_n 0, 1) := by decide +kernel
theorem dX5_advance_78 : decode cX5_advance 78 = .ok (.iload_n 2, 1) := by decide +kernel
theorem dX5_advance_79 : decode cX5_advance 79 = .ok (.ifCond .eq 7, 3) := by decide +kernel
theorem dX5_advance_82 : decode cX5_advance 82 = .ok (.iload_n 1, 1) := by decide +kernel
theorem dX5_advance_83 : decode cX5_advance 83 = .ok (.goto 4, 3) := by decide +kernel
theorem dX5_advance_86 : decode cX5_advance 86 = .ok (.iconst 3, 1) := by decide +kernel
theorem dX5_advance_87 : decode cX5_advance 87 = .ok (.putfield 22, 3) := by decide +kernel
theorem dX5_advance_90 : decode cX5_advance 90 = .ok (.aload_n 0, 1) := by decide +kernel
theorem dX5_advance_91 : decode cX5_advance 91 = .ok (.dup, 1) := by decide +kernel
theorem dX5_advance_92 : decode cX5_advance 92 = .ok (.getfield 31, 3) := by decide +kernel
theorem dX5_advance_95 : decode cX5_advance 95 = .ok (.iconst 1, 1) := by decide +kernel
theorem dX5_advance_96 : decode cX5_advance 96 = .ok (.iadd, 1) := by decide +kernel
theorem dX5_advance_97 : decode cX5_advance 97 = .ok (.putfield 31, 3) := by decide +kernel
theorem dX5_advance_100 : decode cX5_advance 100 = .ok (.return_, 1) := by decide +kernel
theorem dX5_advanceOverFigures_0 : decode cX5_advanceOverFigures 0 = .ok (.aload_n 0, 1) := by decide +kernel
theorem dX5_advanceOverFigures_1 : decode cX5_advanceOverFigures 1 = .ok (.iconst 0, 1) := by decide +kernel
theorem dX5_advanceOverFigures_2 : decode cX5_advanceOverFigures 2 = .ok (.putfield 25, 3) := by decide +kernel
theorem dX5_advanceOverFigures_5 : decode cX5_advanceOverFigures 5 = .ok (.aload_n 0, 1) := by decide +kernel
theorem dX5_advanceOverFigures_6 : decode cX5_advanceOverFigures 6 = .ok (.getfield 31, 3) := by decide +kernel
theorem dX5_advanceOverFigures_9 : decode cX5_advanceOverFigures 9 = .ok (.aload_n 0, 1) := by decide +kernel
theorem dX5_advanceOverFigures_10 : decode cX5_advanceOverFigures 10 = .ok (.getfield 15, 3) := by decide +kernel
theorem dX5_advanceOverFigures_13 : decode cX5_advanceOverFigures 13 = .ok (.if_icmp .ge 68, 3) := by decide +kernel
theorem dX5_advanceOverFigures_16 : decode cX5_advanceOverFigures 16 = .ok (.aload_n 0, 1) := by decide +kernel
theorem dX5_advanceOverFigures_17 : decode cX5_advanceOverFigures 17 = .ok (.getfield 11, 3) := by decide +kernel
theorem dX5_advanceOverFigures_20 : decode cX5_advanceOverFigures 20 = .ok (.aload_n 0, 1) := by decide +kernel
theorem dX5_advanceOverFigures_21 : decode cX5_advanceOverFigures 21 = .ok (.getfield 31, 3) := by decide +kernel
theorem dX5_advanceOverFigures_24 : decode cX5_advanceOverFigures 24 = .ok (.iaload, 1) := by decide +kernel
theorem dX5_advanceOverFigures_25 : decode cX5_advanceOverFigures 25 = .ok (.invokestatic 118, 3) := by decide +kernel
theorem dX5_advanceOverFigures_28 : decode cX5_advanceOverFigures 28 = .ok (.ifCond .eq 53, 3) := by decide +kernel
theorem dX5_advanceOverFigures_31 : decode cX5_advanceOverFigures 31 = .ok (.aload_n 0, 1) := by decide +kernel
theorem dX5_advanceOverFigures_32 : decode cX5_advanceOverFigures 32 = .ok (.getfield 31, 3) := by decide +kernel
theorem dX5_advanceOverFigures_35 : decode cX5_advanceOverFigures 35 = .ok (.aload_n 0, 1) := by decide +kernel
theorem dX5_advanceOverFigures_36 : decode cX5_advanceOverFigures 36 = .ok (.getfield 28, 3) := by decide +kernel
theorem dX5_advanceOverFigures_39 : decode cX5_advanceOverFigures 39 = .ok (.isub, 1) := by decide +kernel
theorem dX5_advanceOverFigures_40 : decode cX5_advanceOverFigures 40 = .ok (.iconst 2, 1) := by decide +kernel
theorem dX5_advanceOverFigures_41 : decode cX5_advanceOverFigures 41 = .ok (.if_icmp .gt 40, 3) := by decide +kernel
theorem dX5_advanceOverFigures_44 : decode cX5_advanceOverFigures 44 = .ok (.aload_n 0, 1) := by decide +kernel
theorem dX5_advanceOverFigures_45 : decode cX5_advanceOverFigures 45 = .ok (.aload_n 0, 1) := by decide +kernel
theorem dX5_advanceOverFigures_46 : decode cX5_advanceOverFigures 46 = .ok (.getfield 25, 3) := by decide +kernel
theorem dX5_advanceOverFigures_49 : decode cX5_advanceOverFigures 49 = .ok (.bipush 10, 2) := by decide +kernel
theorem dX5_advanceOverFigures_51 : decode cX5_advanceOverFigures 51 = .ok (.imul, 1) := by decide +kernel
theorem dX5_advanceOverFigures_52 : decode cX5_advanceOverFigures 52 = .ok (.aload_n 0, 1) := by decide +kernel
theorem dX5_advanceOverFigures_53 : decode cX5_advanceOverFigures 53 = .ok (.getfield 11, 3) := by decide +kernel
theorem dX5_advanceOverFigures_56 : decode cX5_advanceOverFigures 56 = .ok (.aload_n 0, 1) := by decide +kernel
theorem dX5_advanceOverFigures_57 : decode cX5_advanceOverFigures 57 = .ok (.getfield 31, 3) := by decide +kernel
theorem dX5_advanceOverFigures_60 : decode cX5_advanceOverFigures 60 = .ok (.iaload, 1) := by decide +kernel
theorem dX5_advanceOverFigures_61 : decode cX5_advanceOverFigures 61 = .ok (.iadd, 1) := by decide +kernel
theorem dX5_advanceOverFigures_62 : decode cX5_advanceOverFigures 62 = .ok (.bipush 48, 2) := by decide +kernel
theorem dX5_advanceOverFigures_64 : decode cX5_advanceOverFigures 64 = .ok (.isub, 1) := by decide +kernel
theorem dX5_advanceOverFigures_65 : decode cX5_advanceOverFigures 65 = .ok (.putfield 25, 3) := by decide +kernel
theorem dX5_advanceOverFigures_68 : decode cX5_advanceOverFigures 68 = .ok (.aload_n 0, 1) := by decide +kernel
theorem dX5_advanceOverFigures_69 : decode cX5_advanceOverFigures 69 = .ok (.dup, 1) := by decide +kernel
theorem dX5_advanceOverFigures_70 : decode cX5_advanceOverFigures 70 = .ok (.getfield 31, 3) := by decide +kernel
theorem dX5_advanceOverFigures_73 : decode cX5_advanceOverFigures 73 = .ok (.iconst 1, 1) := by decide +kernel
theorem dX5_advanceOverFigures_74 : decode cX5_advanceOverFigures 74 = .ok (.iadd, 1) := by decide +kernel
theorem dX5_advanceOverFigures_75 : decode cX5_advanceOverFigures 75 = .ok (.putfield 31, 3) := by decide +kernel
theorem dX5_advanceOverFigures_78 : decode cX5_advanceOverFigures 78 = .ok (.goto (-73), 3) := by decide +kernel
theorem dX5_advanceOverFigures_81 : decode cX5_advanceOverFigures 81 = .ok (.aload_n 0, 1) := by decide +kernel
theorem dX5_advanceOverFigures_82 : decode cX5_advanceOverFigures 82 = .ok (.aload_n 0, 1) := by decide +kernel
theorem dX5_advanceOverFigures_83 : decode cX5_advanceOverFigures 83 = .ok (.getfield 31, 3) := by decide +kernel
theorem dX5_advanceOverFigures_86 : decode cX5_advanceOverFigures 86 = .ok (.aload_n 0, 1) := by decide +kernel
theorem dX5_advanceOverFigures_87 : decode cX5_advanceOverFigures 87 = .ok (.getfield 28, 3) := by decide +kernel
theorem dX5_advanceOverFigures_90 : decode cX5_advanceOverFigures 90 = .ok (.isub, 1) := by decide +kernel
theorem dX5_advanceOverFigures_91 : decode cX5_advanceOverFigures 91 = .ok (.iconst 2, 1) := by decide +kernel
theorem dX5_advanceOverFigures_92 : decode cX5_advanceOverFigures 92 = .ok (.if_icmp .gt 7, 3) := by decide +kernel
theorem dX5_advanceOverFigures_95 : decode cX5_advanceOverFigures 95 = .ok (.iconst 1, 1) := by decide +kernel
theorem dX5_advanceOverFigures_96 : decode cX5_advanceOverFigures 96 = .ok (.goto 4, 3) := by decide +kernel
theorem dX5_advanceOverFigures_99 : decode cX5_advanceOverFigures 99 = .ok (.iconst 3, 1) := by decide +kernel
theorem dX5_advanceOverFigures_100 : decode cX5_advanceOverFigures 100 = .ok (.putfield 22, 3) := by decide +kernel
theorem dX5_advanceOverFigures_103 : decode cX5_advanceOverFigures 103 = .ok (.return_, 1) := by decide +kernel
theorem dX5_isFigure_0 : decode cX5_isFigure 0 = .ok (.iload_n 0, 1) := by decide +kernel
theorem dX5_isFigure_1 : decode cX5_isFigure 1 = .ok (.bipush 48, 2) := by decide +kernel
theorem dX5_isFigure_3 : decode cX5_isFigure 3 = .ok (.if_icmp .lt 13, 3) := by decide +kernel
theorem dX5_isFigure_6 : decode cX5_isFigure 6 = .ok (.iload_n 0, 1) := by decide +kernel
theorem dX5_isFigure_7 : decode cX5_isFigure 7 = .ok (.bipush 57, 2) := by decide +kernel
theorem dX5_isFigure_9 : decode cX5_isFigure 9 = .ok (.if_icmp .gt 7, 3) := by decide +kernel
theorem dX5_isFigure_12 : decode cX5_isFigure 12 = .ok (.iconst 1, 1) := by decide +kernel
theorem dX5_isFigure_13 : decode cX5_isFigure 13 = .ok (.goto 4, 3) := by decide +kernel
theorem dX5_isFigure_16 : decode cX5_isFigure 16 = .ok (.iconst 0, 1) := by decide +kernel
theorem dX5_isFigure_17 : decode cX5_isFigure 17 = .ok (.ireturn, 1) := by decide +kernel
theorem dX6_init_0 : decode cX6_init 0 = .ok (.aload_n 0, 1) := by decide +kernel
theorem dX6_init_1 : decode cX6_init 1 = .ok (.invokespecial 3, 3) := by decide +kernel
theorem dX6_init_4 : decode cX6_init 4 = .ok (.aload_n 0, 1) := by decide +kernel
theorem dX6_init_5 : decode cX6_init 5 = .ok (.bipush 8, 2) := by decide +kernel
theorem dX6_init_7 : decode cX6_init 7 = .ok (.newarray .int, 2) := by decide +kernel
theorem dX6_init_9 : decode cX6_init 9 = .ok (.putfield 11, 3) := by decide +kernel
theorem dX6_init_12 : decode cX6_init 12 = .ok (.aload_n 0, 1) := by decide +kernel
theorem dX6_init_13 : decode cX6_init 13 = .ok (.bipush 8, 2) := by decide +kernel
theorem dX6_init_15 : decode cX6_init 15 = .ok (.newarray .int, 2) := by decide +kernel
theorem dX6_init_17 : decode cX6_init 17 = .ok (.putfield 15, 3) := by decide +kernel
theorem dX6_init_20 : decode cX6_init 20 = .ok (.aload_n 0, 1) := by decide +kernel
theorem dX6_init_21 : decode cX6_init 21 = .ok (.bipush 8, 2) := by decide +kernel
theorem dX6_init_23 : decode cX6_init 23 = .ok (.bipush 40, 2) := by decide +kernel
theorem dX6_init_25 : decode cX6_init 25 = .ok (.multianewarray 18 2, 4) := by decide +kernel
theorem dX6_init_29 : decode cX6_init 29 = .ok (.putfield 20, 3) := by decide +kernel
theorem dX6_init_32 : decode cX6_init 32 = .ok (.aload_n 0, 1) := by decide +kernel
theorem dX6_init_33 : decode cX6_init 33 = .ok (.getfield 11, 3) := by decide +kernel
theorem dX6_init_36 : decode cX6_init 36 = .ok (.iconst (-1), 1) := by decide +kernel
theorem dX6_init_37 : decode cX6_init 37 = .ok (.invokestatic 23, 3) := by decide +kernel
theorem dX6_init_40 : decode cX6_init 40 = .ok (.return_, 1) := by decide +kernel
theorem dX6_isRow_0 : decode cX6_isRow 0 = .ok (.iload_n 0, 1) := by decide +kernel
theorem dX6_isRow_1 : decode cX6_isRow 1 = .ok (.ifCond .lt 13, 3) := by decide +kernel
theorem dX6_isRow_4 : decode cX6_isRow 4 = .ok (.iload_n 0, 1) := by decide +kernel
theorem dX6_isRow_5 : decode cX6_isRow 5 = .ok (.bipush 8, 2) := by decide +kernel
theorem dX6_isRow_7 : decode cX6_isRow 7 = .ok (.if_icmp .ge 7, 3) := by decide +kernel
theorem dX6_isRow_10 : decode cX6_isRow 10 = .ok (.iconst 1, 1) := by decide +kernel
theorem dX6_isRow_11 : decode cX6_isRow 11 = .ok (.goto 4, 3) := by decide +kernel
theorem dX6_isRow_14 : decode cX6_isRow 14 = .ok (.iconst 0, 1) := by decide +kernel
theorem dX6_isRow_15 : decode cX6_isRow 15 = .ok (.ireturn, 1) := by decide +kernel
theorem dX6_isMissing_0 : decode cX6_isMissing 0 = .ok (.aload_n 0, 1) := by decide +kernel
theorem dX6_isMissing_1 : decode cX6_isMissing 1 = .ok (.getfield 11, 3) := by decide +kernel
theorem dX6_isMissing_4 : decode cX6_isMissing 4 = .ok (.iload_n 1, 1) := by decide +kernel
theorem dX6_isMissing_5 : decode cX6_isMissing 5 = .ok (.iaload, 1) := by decide +kernel
theorem dX6_isMissing_6 : decode cX6_isMissing 6 = .ok (.iconst (-1), 1) := by decide +kernel
theorem dX6_isMissing_7 : decode cX6_isMissing 7 = .ok (.if_icmp .ne 7, 3) := by decide +kernel
theorem dX6_isMissing_10 : decode cX6_isMissing 10 = .ok (.iconst 1, 1) := by decide +kernel
theorem dX6_isMissing_11 : decode cX6_isMissing 11 = .ok (.goto 4, 3) := by decide +kernel
theorem dX6_isMissing_14 : decode cX6_isMissing 14 = .ok (.iconst 0, 1) := by decide +kernel
theorem dX6_isMissing_15 : decode cX6_isMissing 15 = .ok (.ireturn, 1) := by decide +kernel
theorem dX6_make_0 : decode cX6_make 0 = .ok (.aload_n 0, 1) := by decide +kernel
theorem dX6_make_1 : decode cX6_make 1 = .ok (.getfield 11, 3) := by decide +kernel
theorem dX6_make_4 : decode cX6_make 4 = .ok (.iload_n 1, 1) := by decide +kernel
theorem dX6_make_5 : decode cX6_make 5 = .ok (.iload_n 2, 1) := by decide +kernel
theorem dX6_make_6 : decode cX6_make 6 = .ok (.iastore, 1) := by decide +kernel
theorem dX6_make_7 : decode cX6_make 7 = .ok (.aload_n 0, 1) := by decide +kernel
theorem dX6_make_8 : decode cX6_make 8 = .ok (.getfield 15, 3) := by decide +kernel
theorem dX6_make_11 : decode cX6_make 11 = .ok (.iload_n 1, 1) := by decide +kernel
theorem dX6_make_12 : decode cX6_make 12 = .ok (.iload_n 3, 1) := by decide +kernel
theorem dX6_make_13 : decode cX6_make 13 = .ok (.iastore, 1) := by decide +kernel
theorem dX6_make_14 : decode cX6_make 14 = .ok (.aload_n 0, 1) := by decide +kernel
theorem dX6_make_15 : decode cX6_make 15 = .ok (.getfield 20, 3) := by decide +kernel
theorem dX6_make_18 : decode cX6_make 18 = .ok (.iload_n 1, 1) := by decide +kernel
theorem dX6_make_19 : decode cX6_make 19 = .ok (.aaload, 1) := by decide +kernel
theorem dX6_make_20 : decode cX6_make 20 = .ok (.iconst 0, 1) := by decide +kernel
theorem dX6_make_21 : decode cX6_make 21 = .ok (.invokestatic 23, 3) := by decide +kernel
theorem dX6_make_24 : decode cX6_make 24 = .ok (.return_, 1) := by decide +kernel
theorem dX6_lose_0 : decode cX6_lose 0 = .ok (.aload_n 0, 1) := by decide +kernel
theorem dX6_lose_1 : decode cX6_lose 1 = .ok (.getfield 15, 3) := by decide +kernel
theorem dX6_lose_4 : decode cX6_lose 4 = .ok (.iload_n 1, 1) := by decide +kernel
theorem dX6_lose_5 : decode cX6_lose 5 = .ok (.iaload, 1) := by decide +kernel
theorem dX6_lose_6 : decode cX6_lose 6 = .ok (.istore_n 2, 1) := by decide +kernel
theorem dX6_lose_7 : decode cX6_lose 7 = .ok (.aload_n 0, 1) := by decide +kernel
theorem dX6_lose_8 : decode cX6_lose 8 = .ok (.getfield 11, 3) := by decide +kernel
theorem dX6_lose_11 : decode cX6_lose 11 = .ok (.iload_n 1, 1) := by decide +kernel
theorem dX6_lose_12 : decode cX6_lose 12 = .ok (.iconst (-1), 1) := by decide +kernel
theorem dX6_lose_13 : decode cX6_lose 13 = .ok (.iastore, 1) := by decide +kernel
theorem dX6_lose_14 : decode cX6_lose 14 = .ok (.aload_n 0, 1) := by decide +kernel
theorem dX6_lose_15 : decode cX6_lose 15 = .ok (.getfield 15, 3) := by decide +kernel
theorem dX6_lose_18 : decode cX6_lose 18 = .ok (.iload_n 1, 1) := by decide +kernel
theorem dX6_lose_19 : decode cX6_lose 19 = .ok (.iconst 0, 1) := by decide +kernel
theorem dX6_lose_20 : decode cX6_lose 20 = .ok (.iastore, 1) := by decide +kernel
theorem dX6_lose_21 : decode cX6_lose 21 = .ok (.iload_n 2, 1) := by decide +kernel
theorem dX6_lose_22 : decode cX6_lose 22 = .ok (.ireturn, 1) := by decide +kernel
theorem dX6_troubleWith_0 : decode cX6_troubleWith 0 = .ok (.aload_n 0, 1) := by decide +kernel
theorem dX6_troubleWith_1 : decode cX6_troubleWith 1 = .ok (.iload_n 1, 1) := by decide +kernel
theorem dX6_troubleWith_2 : decode cX6_troubleWith 2 = .ok (.invokevirtual 29, 3) := by decide +kernel
theorem dX6_troubleWith_5 : decode cX6_troubleWith 5 = .ok (.ifCond .eq 5, 3) := by decide +kernel
theorem dX6_troubleWith_8 : decode cX6_troubleWith 8 = .ok (.iconst 1, 1) := by decide +kernel
theorem dX6_troubleWith_9 : decode cX6_troubleWith 9 = .ok (.ireturn, 1) := by decide +kernel
theorem dX6_troubleWith_10 : decode cX6_troubleWith 10 = .ok (.iload_n 2, 1) := by decide +kernel
theorem dX6_troubleWith_11 : decode cX6_troubleWith 11 = .ok (.ifCond .lt 29, 3) := by decide +kernel
theorem dX6_troubleWith_14 : decode cX6_troubleWith 14 = .ok (.iload_n 3, 1) := by decide +kernel
theorem dX6_troubleWith_15 : decode cX6_troubleWith 15 = .ok (.ifCond .lt 25, 3) := by decide +kernel
theorem dX6_troubleWith_18 : decode cX6_troubleWith 18 = .ok (.iload_n 3, 1) := by decide +kernel
theorem dX6_troubleWith_19 : decode cX6_troubleWith 19 = .ok (.aload_n 0, 1) := by decide +kernel
theorem dX6_troubleWith_20 : decode cX6_troubleWith 20 = .ok (.getfield 15, 3) := by decide +kernel
theorem dX6_troubleWith_23 : decode cX6_troubleWith 23 = .ok (.iload_n 1, 1) := by decide +kernel
theorem dX6_troubleWith_24 : decode cX6_troubleWith 24 = .ok (.iaload, 1) := by decide +kernel
theorem dX6_troubleWith_25 : decode cX6_troubleWith 25 = .ok (.if_icmp .gt 15, 3) := by decide +kernel
theorem dX6_troubleWith_28 : decode cX6_troubleWith 28 = .ok (.iload_n 2, 1) := by decide +kernel
theorem dX6_troubleWith_29 : decode cX6_troubleWith 29 = .ok (.aload_n 0, 1) := by decide +kernel
theorem dX6_troubleWith_30 : decode cX6_troubleWith 30 = .ok (.getfield 15, 3) := by decide +kernel
theorem dX6_troubleWith_33 : decode cX6_troubleWith 33 = .ok (.iload_n 1, 1) := by decide +kernel
theorem dX6_troubleWith_34 : decode cX6_troubleWith 34 = .ok (.iaload, 1) := by decide +kernel
theorem dX6_troubleWith_35 : decode cX6_troubleWith 35 = .ok (.iload_n 3, 1) := by decide +kernel
theorem dX6_troubleWith_36 : decode cX6_troubleWith 36 = .ok (.isub, 1) := by decide +kernel
theorem dX6_troubleWith_37 : decode cX6_troubleWith 37 = .ok (.if_icmp .le 7, 3) := by decide +kernel
theorem dX6_troubleWith_40 : decode cX6_troubleWith 40 = .ok (.iconst 2, 1) := by decide +kernel
theorem dX6_troubleWith_41 : decode cX6_troubleWith 41 = .ok (.goto 4, 3) := by decide +kernel
theorem dX6_troubleWith_44 : decode cX6_troubleWith 44 = .ok (.iconst 0, 1) := by decide +kernel
theorem dX6_troubleWith_45 : decode cX6_troubleWith 45 = .ok (.ireturn, 1) := by decide +kernel
theorem dX6_troubleBetween_0 : decode cX6_troubleBetween 0 = .ok (.aload_n 0, 1) := by decide +kernel
theorem dX6_troubleBetween_1 : decode cX6_troubleBetween 1 = .ok (.iload_n 1, 1) := by decide +kernel
theorem dX6_troubleBetween_2 : decode cX6_troubleBetween 2 = .ok (.invokevirtual 29, 3) := by decide +kernel
theorem dX6_troubleBetween_5 : decode cX6_troubleBetween 5 = .ok (.ifCond .ne 11, 3) := by decide +kernel
theorem dX6_troubleBetween_8 : decode cX6_troubleBetween 8 = .ok (.aload_n 0, 1) := by decide +kernel
theorem dX6_troubleBetween_9 : decode cX6_troubleBetween 9 = .ok (.iload_n 3, 1) := by decide +kernel
theorem dX6_troubleBetween_10 : decode cX6_troubleBetween 10 = .ok (.invokevirtual 29, 3) := by decide +kernel
theorem dX6_troubleBetween_13 : decode cX6_troubleBetween 13 = .ok (.ifCond .eq 5, 3) := by decide +kernel
theorem dX6_troubleBetween_16 : decode cX6_troubleBetween 16 = .ok (.iconst 1, 1) := by decide +kernel
theorem dX6_troubleBetween_17 : decode cX6_troubleBetween 17 = .ok (.ireturn, 1) := by decide +kernel
theorem dX6_troubleBetween_18 : decode cX6_troubleBetween 18 = .ok (.aload_n 0, 1) := by decide +kernel
theorem dX6_troubleBetween_19 : decode cX6_troubleBetween 19 = .ok (.getfield 11, 3) := by decide +kernel
theorem dX6_troubleBetween_22 : decode cX6_troubleBetween 22 = .ok (.iload_n 1, 1) := by decide +kernel
theorem dX6_troubleBetween_23 : decode cX6_troubleBetween 23 = .ok (.iaload, 1) := by decide +kernel
theorem dX6_troubleBetween_24 : decode cX6_troubleBetween 24 = .ok (.aload_n 0, 1) := by decide +kernel
theorem dX6_troubleBetween_25 : decode cX6_troubleBetween 25 = .ok (.getfield 11, 3) := by decide +kernel
theorem dX6_troubleBetween_28 : decode cX6_troubleBetween 28 = .ok (.iload_n 3, 1) := by decide +kernel
theorem dX6_troubleBetween_29 : decode cX6_troubleBetween 29 = .ok (.iaload, 1) := by decide +kernel
theorem dX6_troubleBetween_30 : decode cX6_troubleBetween 30 = .ok (.if_icmp .eq 5, 3) := by decide +kernel
theorem dX6_troubleBetween_33 : decode cX6_troubleBetween 33 = .ok (.iconst 5, 1) := by decide +kernel
theorem dX6_troubleBetween_34 : decode cX6_troubleBetween 34 = .ok (.ireturn, 1) := by decide +kernel
theorem dX6_troubleBetween_35 : decode cX6_troubleBetween 35 = .ok (.aload_n 0, 1) := by decide +kernel
theorem dX6_troubleBetween_36 : decode cX6_troubleBetween 36 = .ok (.iload_n 1, 1) := by decide +kernel
theorem dX6_troubleBetween_37 : decode cX6_troubleBetween 37 = .ok (.iload_n 2, 1) := by decide +kernel
theorem dX6_troubleBetween_38 : decode cX6_troubleBetween 38 = .ok (.iload 5, 2) := by decide +kernel
theorem dX6_troubleBetween_40 : decode cX6_troubleBetween 40 = .ok (.invokevirtual 33, 3) := by decide +kernel
theorem dX6_troubleBetween_43 : decode cX6_troubleBetween 43 = .ok (.istore 6, 2) := by decide +kernel
theorem dX6_troubleBetween_45 : decode cX6_troubleBetween 45 = .ok (.iload 6, 2) := by decide +kernel
theorem dX6_troubleBetween_47 : decode cX6_troubleBetween 47 = .ok (.ifCond .eq 8, 3) := by decide +kernel
theorem dX6_troubleBetween_50 : decode cX6_troubleBetween 50 = .ok (.iload 6, 2) := by decide +kernel
theorem dX6_troubleBetween_52 : decode cX6_troubleBetween 52 = .ok (.goto 12, 3) := by decide +kernel
theorem dX6_troubleBetween_55 : decode cX6_troubleBetween 55 = .ok (.aload_n 0, 1) := by decide +kernel
theorem dX6_troubleBetween_56 : decode cX6_troubleBetween 56 = .ok (.iload_n 3, 1) := by decide +kernel
theorem dX6_troubleBetween_57 : decode cX6_troubleBetween 57 = .ok (.iload 4, 2) := by decide +kernel
theorem dX6_troubleBetween_59 : decode cX6_troubleBetween 59 = .ok (.iload 5, 2) := by decide +kernel
theorem dX6_troubleBetween_61 : decode cX6_troubleBetween 61 = .ok (.invokevirtual 33, 3) := by decide +kernel
theorem dX6_troubleBetween_64 : decode cX6_troubleBetween 64 = .ok (.ireturn, 1) := by decide +kernel
theorem dX6_move_0 : decode cX6_move 0 = .ok (.aload_n 0, 1) := by decide +kernel
theorem dX6_move_1 : decode cX6_move 1 = .ok (.getfield 20, 3) := by decide +kernel
theorem dX6_move_4 : decode cX6_move 4 = .ok (.iload_n 1, 1) := by decide +kernel
theorem dX6_move_5 : decode cX6_move 5 = .ok (.aaload, 1) := by decide +kernel
theorem dX6_move_6 : decode cX6_move 6 = .ok (.iload_n 2, 1) := by decide +kernel
theorem dX6_move_7 : decode cX6_move 7 = .ok (.aload_n 0, 1) := by decide +kernel
theorem dX6_move_8 : decode cX6_move 8 = .ok (.getfield 20, 3) := by decide +kernel
theorem dX6_move_11 : decode cX6_move 11 = .ok (.iload_n 3, 1) := by decide +kernel
theorem dX6_move_12 : decode cX6_move 12 = .ok (.aaload, 1) := by decide +kernel
theorem dX6_move_13 : decode cX6_move 13 = .ok (.iload 4, 2) := by decide +kernel
theorem dX6_move_15 : decode cX6_move 15 = .ok (.iload 5, 2) := by decide +kernel
theorem dX6_move_17 : decode cX6_move 17 = .ok (.invokestatic 37, 3) := by decide +kernel
theorem dX6_move_20 : decode cX6_move 20 = .ok (.return_, 1) := by decide +kernel
theorem dX6_put_0 : decode cX6_put 0 = .ok (.iload_n 3, 1) := by decide +kernel
theorem dX6_put_1 : decode cX6_put 1 = .ok (.istore 4, 2) := by decide +kernel
theorem dX6_put_3 : decode cX6_put 3 = .ok (.aload_n 0, 1) := by decide +kernel
theorem dX6_put_4 : decode cX6_put 4 = .ok (.getfield 11, 3) := by decide +kernel
theorem dX6_put_7 : decode cX6_put 7 = .ok (.iload_n 1, 1) := by decide +kernel
theorem dX6_put_8 : decode cX6_put 8 = .ok (.iaload, 1) := by decide +kernel
theorem dX6_put_9 : decode cX6_put 9 = .ok (.ifCond .ne 10, 3) := by decide +kernel
theorem dX6_put_12 : decode cX6_put 12 = .ok (.iload_n 3, 1) := by decide +kernel
theorem dX6_put_13 : decode cX6_put 13 = .ok (.i2b, 1) := by decide +kernel
theorem dX6_put_14 : decode cX6_put 14 = .ok (.istore 4, 2) := by decide +kernel
theorem dX6_put_16 : decode cX6_put 16 = .ok (.goto 17, 3) := by decide +kernel
theorem dX6_put_19 : decode cX6_put 19 = .ok (.aload_n 0, 1) := by decide +kernel
theorem dX6_put_20 : decode cX6_put 20 = .ok (.getfield 11, 3) := by decide +kernel
theorem dX6_put_23 : decode cX6_put 23 = .ok (.iload_n 1, 1) := by decide +kernel
theorem dX6_put_24 : decode cX6_put 24 = .ok (.iaload, 1) := by decide +kernel
theorem dX6_put_25 : decode cX6_put 25 = .ok (.iconst 1, 1) := by decide +kernel
theorem dX6_put_26 : decode cX6_put 26 = .ok (.if_icmp .ne 7, 3) := by decide +kernel
theorem dX6_put_29 : decode cX6_put 29 = .ok (.iload_n 3, 1) := by decide +kernel
theorem dX6_put_30 : decode cX6_put 30 = .ok (.i2s, 1) := by decide +kernel
theorem dX6_put_31 : decode cX6_put 31 = .ok (.istore 4, 2) := by decide +kernel
theorem dX6_put_33 : decode cX6_put 33 = .ok (.aload_n 0, 1) := by decide +kernel
theorem dX6_put_34 : decode cX6_put 34 = .ok (.getfield 20, 3) := by decide +kernel
theorem dX6_put_37 : decode cX6_put 37 = .ok (.iload_n 1, 1) := by decide +kernel
theorem dX6_put_38 : decode cX6_put 38 = .ok (.aaload, 1) := by decide +kernel
theorem dX6_put_39 : decode cX6_put 39 = .ok (.iload_n 2, 1) := by decide +kernel
theorem dX6_put_40 : decode cX6_put 40 = .ok (.iload 4, 2) := by decide +kernel
theorem dX6_put_42 : decode cX6_put 42 = .ok (.iastore, 1) := by decide +kernel
theorem dX6_put_43 : decode cX6_put 43 = .ok (.iload 4, 2) := by decide +kernel
theorem dX6_put_45 : decode cX6_put 45 = .ok (.ireturn, 1) := by decide +kernel
theorem dX6_item_0 : decode cX6_item 0 = .ok (.aload_n 0, 1) := by decide +kernel
theorem dX6_item_1 : decode cX6_item 1 = .ok (.getfield 20, 3) := by decide +kernel
theorem dX6_item_4 : decode cX6_item 4 = .ok (.iload_n 1, 1) := by decide +kernel
theorem dX6_item_5 : decode cX6_item 5 = .ok (.aaload, 1) := by decide +kernel
theorem dX6_item_6 : decode cX6_item 6 = .ok (.iload_n 2, 1) := by decide +kernel
theorem dX6_item_7 : decode cX6_item 7 = .ok (.iaload, 1) := by decide +kernel
theorem dX6_item_8 : decode cX6_item 8 = .ok (.ireturn, 1) := by decide +kernel
theorem dX6_sumOf_0 : decode cX6_sumOf 0 = .ok (.lconst 0, 1) := by decide +kernel
theorem dX6_sumOf_1 : decode cX6_sumOf 1 = .ok (.lstore 4, 2) := by decide +kernel
theorem dX6_sumOf_3 : decode cX6_sumOf 3 = .ok (.iconst 0, 1) := by decide +kernel
theorem dX6_sumOf_4 : decode cX6_sumOf 4 = .ok (.istore 6, 2) := by decide +kernel
theorem dX6_sumOf_6 : decode cX6_sumOf 6 = .ok (.iload 6, 2) := by decide +kernel
theorem dX6_sumOf_8 : decode cX6_sumOf 8 = .ok (.iconst 4, 1) := by decide +kernel
theorem dX6_sumOf_9 : decode cX6_sumOf 9 = .ok (.if_icmp .ge 35, 3) := by decide +kernel
theorem dX6_sumOf_12 : decode cX6_sumOf 12 = .ok (.iload_n 3, 1) := by decide +kernel
theorem dX6_sumOf_13 : decode cX6_sumOf 13 = .ok (.iload 6, 2) := by decide +kernel
theorem dX6_sumOf_15 : decode cX6_sumOf 15 = .ok (.ishr, 1) := by decide +kernel
theorem dX6_sumOf_16 : decode cX6_sumOf 16 = .ok (.iconst 1, 1) := by decide +kernel
theorem dX6_sumOf_17 : decode cX6_sumOf 17 = .ok (.iand, 1) := by decide +kernel
theorem dX6_sumOf_18 : decode cX6_sumOf 18 = .ok (.ifCond .eq 20, 3) := by decide +kernel
theorem dX6_sumOf_21 : decode cX6_sumOf 21 = .ok (.lload 4, 2) := by decide +kernel
theorem dX6_sumOf_23 : decode cX6_sumOf 23 = .ok (.aload_n 0, 1) := by decide +kernel
theorem dX6_sumOf_24 : decode cX6_sumOf 24 = .ok (.getfield 20, 3) := by decide +kernel
theorem dX6_sumOf_27 : decode cX6_sumOf 27 = .ok (.iload_n 1, 1) := by decide +kernel
theorem dX6_sumOf_28 : decode cX6_sumOf 28 = .ok (.aaload, 1) := by decide +kernel
theorem dX6_sumOf_29 : decode cX6_sumOf 29 = .ok (.iload_n 2, 1) := by decide +kernel
theorem dX6_sumOf_30 : decode cX6_sumOf 30 = .ok (.iload 6, 2) := by decide +kernel
theorem dX6_sumOf_32 : decode cX6_sumOf 32 = .ok (.iadd, 1) := by decide +kernel
theorem dX6_sumOf_33 : decode cX6_sumOf 33 = .ok (.iaload, 1) := by decide +kernel
theorem dX6_sumOf_34 : decode cX6_sumOf 34 = .ok (.i2l, 1) := by decide +kernel
theorem dX6_sumOf_35 : decode cX6_sumOf 35 = .ok (.ladd, 1) := by decide +kernel
theorem dX6_sumOf_36 : decode cX6_sumOf 36 = .ok (.lstore 4, 2) := by decide +kernel
theorem dX6_sumOf_38 : decode cX6_sumOf 38 = .ok (.iinc 6 1, 3) := by decide +kernel
theorem dX6_sumOf_41 : decode cX6_sumOf 41 = .ok (.goto (-35), 3) := by decide +kernel
theorem dX6_sumOf_44 : decode cX6_sumOf 44 = .ok (.lload 4, 2) := by decide +kernel
theorem dX6_sumOf_46 : decode cX6_sumOf 46 = .ok (.lreturn, 1) := by decide +kernel
theorem dX6_present_0 : decode cX6_present 0 = .ok (.iconst 0, 1) := by decide +kernel
theorem dX6_present_1 : decode cX6_present 1 = .ok (.istore_n 1, 1) := by decide +kernel
theorem dX6_present_2 : decode cX6_present 2 = .ok (.iconst 0, 1) := by decide +kernel
theorem dX6_present_3 : decode cX6_present 3 = .ok (.istore_n 2, 1) := by decide +kernel
theorem dX6_present_4 : decode cX6_present 4 = .ok (.iload_n 2, 1) := by decide +kernel
theorem dX6_present_5 : decode cX6_present 5 = .ok (.bipush 8, 2) := by decide +kernel
theorem dX6_present_7 : decode cX6_present 7 = .ok (.if_icmp .ge 20, 3) := by decide +kernel
theorem dX6_present_10 : decode cX6_present 10 = .ok (.aload_n 0, 1) := by decide +kernel
theorem dX6_present_11 : decode cX6_present 11 = .ok (.iload_n 2, 1) := by decide +kernel
theorem dX6_present_12 : decode cX6_present 12 = .ok (.invokevirtual 29, 3) := by decide +kernel
theorem dX6_present_15 : decode cX6_present 15 = .ok (.ifCond .ne 6, 3) := by decide +kernel
theorem dX6_present_18 : decode cX6_present 18 = .ok (.iinc 1 1, 3) := by decide +kernel
theorem dX6_present_21 : decode cX6_present 21 = .ok (.iinc 2 1, 3) := by decide +kernel
theorem dX6_present_24 : decode cX6_present 24 = .ok (.goto (-20), 3) := by decide +kernel
theorem dX6_present_27 : decode cX6_present 27 = .ok (.iload_n 1, 1) := by decide +kernel
theorem dX6_present_28 : decode cX6_present 28 = .ok (.ireturn, 1) := by decide +kernel
theorem dX7_init_0 : decode cX7_init 0 = .ok (.aload_n 0, 1) := by decide +kernel
theorem dX7_init_1 : decode cX7_init 1 = .ok (.invokespecial 3, 3) := by decide +kernel
theorem dX7_init_4 : decode cX7_init 4 = .ok (.aload_n 0, 1) := by decide +kernel
theorem dX7_init_5 : decode cX7_init 5 = .ok (.new 9, 3) := by decide +kernel
theorem dX7_init_8 : decode cX7_init 8 = .ok (.dup, 1) := by decide +kernel
theorem dX7_init_9 : decode cX7_init 9 = .ok (.invokespecial 11, 3) := by decide +kernel
theorem dX7_init_12 : decode cX7_init 12 = .ok (.putfield 12, 3) := by decide +kernel
theorem dX7_init_15 : decode cX7_init 15 = .ok (.aload_n 0, 1) := by decide +kernel
theorem dX7_init_16 : decode cX7_init 16 = .ok (.new 16, 3) := by decide +kernel
theorem dX7_init_19 : decode cX7_init 19 = .ok (.dup, 1) := by decide +kernel
theorem dX7_init_20 : decode cX7_init 20 = .ok (.invokespecial 18, 3) := by decide +kernel
theorem dX7_init_23 : decode cX7_init 23 = .ok (.putfield 19, 3) := by decide +kernel
theorem dX7_init_26 : decode cX7_init 26 = .ok (.aload_n 0, 1) := by decide +kernel
theorem dX7_init_27 : decode cX7_init 27 = .ok (.new 23, 3) := by decide +kernel
theorem dX7_init_30 : decode cX7_init 30 = .ok (.dup, 1) := by decide +kernel
theorem dX7_init_31 : decode cX7_init 31 = .ok (.invokespecial 25, 3) := by decide +kernel
theorem dX7_init_34 : decode cX7_init 34 = .ok (.putfield 26, 3) := by decide +kernel
theorem dX7_init_37 : decode cX7_init 37 = .ok (.aload_n 0, 1) := by decide +kernel
theorem dX7_init_38 : decode cX7_init 38 = .ok (.new 23, 3) := by decide +kernel
theorem dX7_init_41 : decode cX7_init 41 = .ok (.dup, 1) := by decide +kernel
theorem dX7_init_42 : decode cX7_init 42 = .ok (.invokespecial 25, 3) := by decide +kernel
theorem dX7_init_45 : decode cX7_init 45 = .ok (.putfield 30, 3) := by decide +kernel
theorem dX7_init_48 : decode cX7_init 48 = .ok (.aload_n 0, 1) := by decide +kernel
theorem dX7_init_49 : decode cX7_init 49 = .ok (.new 23, 3) := by decide +kernel
theorem dX7_init_52 : decode cX7_init 52 = .ok (.dup, 1) := by decide +kernel
theorem dX7_init_53 : decode cX7_init 53 = .ok (.invokespecial 25, 3) := by decide +kernel
theorem dX7_init_56 : decode cX7_init 56 = .ok (.putfield 33, 3) := by decide +kernel
theorem dX7_init_59 : decode cX7_init 59 = .ok (.aload_n 0, 1) := by decide +kernel
theorem dX7_init_60 : decode cX7_init 60 = .ok (.new 23, 3) := by decide +kernel
theorem dX7_init_63 : decode cX7_init 63 = .ok (.dup, 1) := by decide +kernel
theorem dX7_init_64 : decode cX7_init 64 = .ok (.invokespecial 25, 3) := by decide +kernel
theorem dX7_init_67 : decode cX7_init 67 = .ok (.putfield 36, 3) := by decide +kernel
theorem dX7_init_70 : decode cX7_init 70 = .ok (.aload_n 0, 1) := by decide +kernel
theorem dX7_init_71 : decode cX7_init 71 = .ok (.new 39, 3) := by decide +kernel
theorem dX7_init_74 : decode cX7_init 74 = .ok (.dup, 1) := by decide +kernel
theorem dX7_init_75 : decode cX7_init 75 = .ok (.invokespecial 41, 3) := by decide +kernel
theorem dX7_init_78 : decode cX7_init 78 = .ok (.putfield 42, 3) := by decide +kernel
theorem dX7_init_81 : decode cX7_init 81 = .ok (.aload_n 0, 1) := by decide +kernel
theorem dX7_init_82 : decode cX7_init 82 = .ok (.new 46, 3) := by decide +kernel
theorem dX7_init_85 : decode cX7_init 85 = .ok (.dup, 1) := by decide +kernel
theorem dX7_init_86 : decode cX7_init 86 = .ok (.aload_n 0, 1) := by decide +kernel
theorem dX7_init_87 : decode cX7_init 87 = .ok (.getfield 26, 3) := by decide +kernel
theorem dX7_init_90 : decode cX7_init 90 = .ok (.invokespecial 48, 3) := by decide +kernel
theorem dX7_init_93 : decode cX7_init 93 = .ok (.putfield 51, 3) := by decide +kernel
theorem dX7_init_96 : decode cX7_init 96 = .ok (.aload_n 0, 1) := by decide +kernel
theorem dX7_init_97 : decode cX7_init 97 = .ok (.new 55, 3) := by decide +kernel
theorem dX7_init_100 : decode cX7_init 100 = .ok (.dup, 1) := by decide +kernel
theorem dX7_init_101 : decode cX7_init 101 = .ok (.invokespecial 57, 3) := by decide +kernel
theorem dX7_init_104 : decode cX7_init 104 = .ok (.putfield 58, 3) := by decide +kernel
theorem dX7_init_107 : decode cX7_init 107 = .ok (.aload_n 0, 1) := by decide +kernel
theorem dX7_init_108 : decode cX7_init 108 = .ok (.new 62, 3) := by decide +kernel
theorem dX7_init_111 : decode cX7_init 111 = .ok (.dup, 1) := by decide +kernel
theorem dX7_init_112 : decode cX7_init 112 = .ok (.invokespecial 64, 3) := by decide +kernel
theorem dX7_init_115 : decode cX7_init 115 = .ok (.putfield 65, 3) := by decide +kernel
theorem dX7_init_118 : decode cX7_init 118 = .ok (.aload_n 0, 1) := by decide +kernel
theorem dX7_init_119 : decode cX7_init 119 = .ok (.iconst 4, 1) := by decide +kernel
theorem dX7_init_120 : decode cX7_init 120 = .ok (.newarray .int, 2) := by decide +kernel
theorem dX7_init_122 : decode cX7_init 122 = .ok (.putfield 69, 3) := by decide +kernel
theorem dX7_init_125 : decode cX7_init 125 = .ok (.aload_n 0, 1) := by decide +kernel
theorem dX7_init_126 : decode cX7_init 126 = .ok (.bipush 16, 2) := by decide +kernel
theorem dX7_init_128 : decode cX7_init 128 = .ok (.newarray .int, 2) := by decide +kernel
theorem dX7_init_130 : decode cX7_init 130 = .ok (.putfield 73, 3) := by decide +kernel
theorem dX7_init_133 : decode cX7_init 133 = .ok (.aload_n 0, 1) := by decide +kernel
theorem dX7_init_134 : decode cX7_init 134 = .ok (.iconst 0, 1) := by decide +kernel
theorem dX7_init_135 : decode cX7_init 135 = .ok (.putfield 76, 3) := by decide +kernel
theorem dX7_init_138 : decode cX7_init 138 = .ok (.aload_n 0, 1) := by decide +kernel
theorem dX7_init_139 : decode cX7_init 139 = .ok (.iconst 0, 1) := by decide +kernel
theorem dX7_init_140 : decode cX7_init 140 = .ok (.putfield 80, 3) := by decide +kernel
theorem dX7_init_143 : decode cX7_init 143 = .ok (.return_, 1) := by decide +kernel
theorem dX7_row_0 : decode cX7_row 0 = .ok (.iload_n 1, 1) := by decide +kernel
theorem dX7_row_1 : decode cX7_row 1 = .ok (.invokestatic 83, 3) := by decide +kernel
theorem dX7_row_4 : decode cX7_row 4 = .ok (.ifCond .eq 18, 3) := by decide +kernel
theorem dX7_row_7 : decode cX7_row 7 = .ok (.iload_n 2, 1) := by decide +kernel
theorem dX7_row_8 : decode cX7_row 8 = .ok (.ifCond .lt 14, 3) := by decide +kernel
theorem dX7_row_11 : decode cX7_row 11 = .ok (.iload_n 2, 1) := by decide +kernel
theorem dX7_row_12 : decode cX7_row 12 = .ok (.iconst 3, 1) := by decide +kernel
theorem dX7_row_13 : decode cX7_row 13 = .ok (.if_icmp .ge 9, 3) := by decide +kernel
theorem dX7_row_16 : decode cX7_row 16 = .ok (.iload_n 3, 1) := by decide +kernel
theorem dX7_row_17 : decode cX7_row 17 = .ok (.bipush 40, 2) := by decide +kernel
theorem dX7_row_19 : decode cX7_row 19 = .ok (.if_icmp .le 6, 3) := by decide +kernel
theorem dX7_row_22 : decode cX7_row 22 = .ok (.ldc 87, 2) := by decide +kernel
theorem dX7_row_24 : decode cX7_row 24 = .ok (.ireturn, 1) := by decide +kernel
theorem dX7_row_25 : decode cX7_row 25 = .ok (.iload_n 3, 1) := by decide +kernel
theorem dX7_row_26 : decode cX7_row 26 = .ok (.ifCond .ge 9, 3) := by decide +kernel
theorem dX7_row_29 : decode cX7_row 29 = .ok (.aload_n 0, 1) := by decide +kernel
theorem dX7_row_30 : decode cX7_row 30 = .ok (.iconst 4, 1) := by decide +kernel
theorem dX7_row_31 : decode cX7_row 31 = .ok (.invokevirtual 88, 3) := by decide +kernel
theorem dX7_row_34 : decode cX7_row 34 = .ok (.ireturn, 1) := by decide +kernel
theorem dX7_row_35 : decode cX7_row 35 = .ok (.aload_n 0, 1) := by decide +kernel
theorem dX7_row_36 : decode cX7_row 36 = .ok (.getfield 12, 3) := by decide +kernel
theorem dX7_row_39 : decode cX7_row 39 = .ok (.iload_n 1, 1) := by decide +kernel
theorem dX7_row_40 : decode cX7_row 40 = .ok (.iload_n 2, 1) := by decide +kernel
theorem dX7_row_41 : decode cX7_row 41 = .ok (.iload_n 3, 1) := by decide +kernel
theorem dX7_row_42 : decode cX7_row 42 = .ok (.invokevirtual 92, 3) := by decide +kernel
theorem dX7_row_45 : decode cX7_row 45 = .ok (.aload_n 0, 1) := by decide +kernel
theorem dX7_row_46 : decode cX7_row 46 = .ok (.iload_n 3, 1) := by decide +kernel
theorem dX7_row_47 : decode cX7_row 47 = .ok (.invokevirtual 96, 3) := by decide +kernel
theorem dX7_row_50 : decode cX7_row 50 = .ok (.ireturn, 1) := by decide +kernel
theorem dX7_set_0 : decode cX7_set 0 = .ok (.iload_n 1, 1) := by decide +kernel
theorem dX7_set_1 : decode cX7_set 1 = .ok (.invokestatic 83, 3) := by decide +kernel
theorem dX7_set_4 : decode cX7_set 4 = .ok (.ifCond .ne 6, 3) := by decide +kernel
theorem dX7_set_7 : decode cX7_set 7 = .ok (.ldc 87, 2) := by decide +kernel
theorem dX7_set_9 : decode cX7_set 9 = .ok (.ireturn, 1) := by decide +kernel
theorem dX7_set_10 : decode cX7_set 10 = .ok (.aload_n 0, 1) := by decide +kernel
theorem dX7_set_11 : decode cX7_set 11 = .ok (.getfield 12, 3) := by decide +kernel
theorem dX7_set_14 : decode cX7_set 14 = .ok (.iload_n 1, 1) := by decide +kernel
theorem dX7_set_15 : decode cX7_set 15 = .ok (.iload_n 2, 1) := by decide +kernel
theorem dX7_set_16 : decode cX7_set 16 = .ok (.iconst 1, 1) := by decide +kernel
theorem dX7_set_17 : decode cX7_set 17 = .ok (.invokevirtual 99, 3) := by decide +kernel
theorem dX7_set_20 : decode cX7_set 20 = .ok (.istore 4, 2) := by decide +kernel
theorem dX7_set_22 : decode cX7_set 22 = .ok (.iload 4, 2) := by decide +kernel
theorem dX7_set_24 : decode cX7_set 24 = .ok (.ifCond .eq 12, 3) := by decide +kernel
theorem dX7_set_27 : decode cX7_set 27 = .ok (.aload_n 0, 1) := by decide +kernel
theorem dX7_set_28 : decode cX7_set 28 = .ok (.iload 4, 2) := by decide +kernel
theorem dX7_set_30 : decode cX7_set 30 = .ok (.invokevirtual 88, 3) := by decide +kernel
theorem dX7_set_33 : decode cX7_set 33 = .ok (.goto 17, 3) := by decide +kernel
theorem dX7_set_36 : decode cX7_set 36 = .ok (.aload_n 0, 1) := by decide +kernel
theorem dX7_set_37 : decode cX7_set 37 = .ok (.aload_n 0, 1) := by decide +kernel
theorem dX7_set_38 : decode cX7_set 38 = .ok (.getfield 12, 3) := by decide +kernel
theorem dX7_set_41 : decode cX7_set 41 = .ok (.iload_n 1, 1) := by decide +kernel
theorem dX7_set_42 : decode cX7_set 42 = .ok (.iload_n 2, 1) := by decide +kernel
theorem dX7_set_43 : decode cX7_set 43 = .ok (.iload_n 3, 1) := by decide +kernel
theorem dX7_set_44 : decode cX7_set 44 = .ok (.invokevirtual 103, 3) := by decide +kernel
theorem dX7_set_47 : decode cX7_set 47 = .ok (.invokevirtual 96, 3) := by decide +kernel
theorem dX7_set_50 : decode cX7_set 50 = .ok (.ireturn, 1) := by decide +kernel
theorem dX7_copy_0 : decode cX7_copy 0 = .ok (.iload_n 1, 1) := by decide +kernel
theorem dX7_copy_1 : decode cX7_copy 1 = .ok (.invokestatic 83, 3) := by decide +kernel
theorem dX7_copy_4 : decode cX7_copy 4 = .ok (.ifCond .eq 10, 3) := by decide +kernel
theorem dX7_copy_7 : decode cX7_copy 7 = .ok (.iload_n 3, 1) := by decide +kernel
theorem dX7_copy_8 : decode cX7_copy 8 = .ok (.invokestatic 83, 3) := by decide +kernel
theorem dX7_copy_11 : decode cX7_copy 11 = .ok (.ifCond .ne 6, 3) := by decide +kernel
theorem dX7_copy_14 : decode cX7_copy 14 = .ok (.ldc 87, 2) := by decide +kernel
theorem dX7_copy_16 : decode cX7_copy 16 = .ok (.ireturn, 1) := by decide +kernel
theorem dX7_copy_17 : decode cX7_copy 17 = .ok (.aload_n 0, 1) := by decide +kernel
theorem dX7_copy_18 : decode cX7_copy 18 = .ok (.getfield 12, 3) := by decide +kernel
theorem dX7_copy_21 : decode cX7_copy 21 = .ok (.iload_n 1, 1) := by decide +kernel
theorem dX7_copy_22 : decode cX7_copy 22 = .ok (.iload_n 2, 1) := by decide +kernel
theorem dX7_copy_23 : decode cX7_copy 23 = .ok (.iload_n 3, 1) := by decide +kernel
theorem dX7_copy_24 : decode cX7_copy 24 = .ok (.iload 4, 2) := by decide +kernel
theorem dX7_copy_26 : decode cX7_copy 26 = .ok (.iload 5, 2) := by decide +kernel
theorem dX7_copy_28 : decode cX7_copy 28 = .ok (.invokevirtual 106, 3) := by decide +kernel
theorem dX7_copy_31 : decode cX7_copy 31 = .ok (.istore 6, 2) := by decide +kernel
theorem dX7_copy_33 : decode cX7_copy 33 = .ok (.iload 6, 2) := by decide +kernel
theorem dX7_copy_35 : decode cX7_copy 35 = .ok (.ifCond .eq 10, 3) := by decide +kernel
theorem dX7_copy_38 : decode cX7_copy 38 = .ok (.aload_n 0, 1) := by decide +kernel
theorem dX7_copy_39 : decode cX7_copy 39 = .ok (.iload 6, 2) := by decide +kernel
theorem dX7_copy_41 : decode cX7_copy 41 = .ok (.invokevirtual 88, 3) := by decide +kernel
theorem dX7_copy_44 : decode cX7_copy 44 = .ok (.ireturn, 1) := by decide +kernel
theorem dX7_copy_45 : decode cX7_copy 45 = .ok (.aload_n 0, 1) := by decide +kernel
theorem dX7_copy_46 : decode cX7_copy 46 = .ok (.getfield 12, 3) := by decide +kernel
theorem dX7_copy_49 : decode cX7_copy 49 = .ok (.iload_n 1, 1) := by decide +kernel
theorem dX7_copy_50 : decode cX7_copy 50 = .ok (.iload_n 2, 1) := by decide +kernel
theorem dX7_copy_51 : decode cX7_copy 51 = .ok (.iload_n 3, 1) := by decide +kernel
theorem dX7_copy_52 : decode cX7_copy 52 = .ok (.iload 4, 2) := by decide +kernel
theorem dX7_copy_54 : decode cX7_copy 54 = .ok (.iload 5, 2) := by decide +kernel
theorem dX7_copy_56 : decode cX7_copy 56 = .ok (.invokevirtual 110, 3) := by decide +kernel
theorem dX7_copy_59 : decode cX7_copy 59 = .ok (.aload_n 0, 1) := by decide +kernel
theorem dX7_copy_60 : decode cX7_copy 60 = .ok (.iload 5, 2) := by decide +kernel
theorem dX7_copy_62 : decode cX7_copy 62 = .ok (.invokevirtual 96, 3) := by decide +kernel
theorem dX7_copy_65 : decode cX7_copy 65 = .ok (.ireturn, 1) := by decide +kernel
theorem dX7_drop_0 : decode cX7_drop 0 = .ok (.iload_n 1, 1) := by decide +kernel
theorem dX7_drop_1 : decode cX7_drop 1 = .ok (.invokestatic 83, 3) := by decide +kernel
theorem dX7_drop_4 : decode cX7_drop 4 = .ok (.ifCond .ne 6, 3) := by decide +kernel
theorem dX7_drop_7 : decode cX7_drop 7 = .ok (.ldc 87, 2) := by decide +kernel
theorem dX7_drop_9 : decode cX7_drop 9 = .ok (.ireturn, 1) := by decide +kernel
theorem dX7_drop_10 : decode cX7_drop 10 = .ok (.aload_n 0, 1) := by decide +kernel
theorem dX7_drop_11 : decode cX7_drop 11 = .ok (.getfield 12, 3) := by decide +kernel
theorem dX7_drop_14 : decode cX7_drop 14 = .ok (.iload_n 1, 1) := by decide +kernel
theorem dX7_drop_15 : decode cX7_drop 15 = .ok (.invokevirtual 114, 3) := by decide +kernel
theorem dX7_drop_18 : decode cX7_drop 18 = .ok (.ifCond .eq 11, 3) := by decide +kernel
theorem dX7_drop_21 : decode cX7_drop 21 = .ok (.aload_n 0, 1) := by decide +kernel
theorem dX7_drop_22 : decode cX7_drop 22 = .ok (.iconst 1, 1) := by decide +kernel
theorem dX7_drop_23 : decode cX7_drop 23 = .ok (.invokevirtual 88, 3) := by decide +kernel
theorem dX7_drop_26 : decode cX7_drop 26 = .ok (.goto 15, 3) := by decide +kernel
theorem dX7_drop_29 : decode cX7_drop 29 = .ok (.aload_n 0, 1) := by decide +kernel
theorem dX7_drop_30 : decode cX7_drop 30 = .ok (.aload_n 0, 1) := by decide +kernel
theorem dX7_drop_31 : decode cX7_drop 31 = .ok (.getfield 12, 3) := by decide +kernel
theorem dX7_drop_34 : decode cX7_drop 34 = .ok (.iload_n 1, 1) := by decide +kernel
theorem dX7_drop_35 : decode cX7_drop 35 = .ok (.invokevirtual 117, 3) := by decide +kernel
theorem dX7_drop_38 : decode cX7_drop 38 = .ok (.invokevirtual 96, 3) := by decide +kernel
theorem dX7_drop_41 : decode cX7_drop 41 = .ok (.ireturn, 1) := by decide +kernel
theorem dX7_feed_0 : decode cX7_feed 0 = .ok (.iload_n 1, 1) := by decide +kernel
theorem dX7_feed_1 : decode cX7_feed 1 = .ok (.ifCond .lt 10, 3) := by decide +kernel
theorem dX7_feed_4 : decode cX7_feed 4 = .ok (.iload_n 1, 1) := by decide +kernel
theorem dX7_feed_5 : decode cX7_feed 5 = .ok (.sipush 255, 3) := by decide +kernel
theorem dX7_feed_8 : decode cX7_feed 8 = .ok (.if_icmp .le 6, 3) := by decide +kernel
theorem dX7_feed_11 : decode cX7_feed 11 = .ok (.ldc 87, 2) := by decide +kernel
theorem dX7_feed_13 : decode cX7_feed 13 = .ok (.ireturn, 1) := by decide +kernel
theorem dX7_feed_14 : decode cX7_feed 14 = .ok (.aload_n 0, 1) := by decide +kernel
theorem dX7_feed_15 : decode cX7_feed 15 = .ok (.getfield 19, 3) := by decide +kernel
theorem dX7_feed_18 : decode cX7_feed 18 = .ok (.invokevirtual 120, 3) := by decide +kernel
theorem dX7_feed_21 : decode cX7_feed 21 = .ok (.ifCond .eq 8, 3) := by decide +kernel
theorem dX7_feed_24 : decode cX7_feed 24 = .ok (.ldc 124, 2) := by decide +kernel
theorem dX7_feed_26 : decode cX7_feed 26 = .ok (.goto 11, 3) := by decide +kernel
theorem dX7_feed_29 : decode cX7_feed 29 = .ok (.aload_n 0, 1) := by decide +kernel
theorem dX7_feed_30 : decode cX7_feed 30 = .ok (.getfield 19, 3) := by decide +kernel
theorem dX7_feed_33 : decode cX7_feed 33 = .ok (.iload_n 1, 1) := by decide +kernel
theorem dX7_feed_34 : decode cX7_feed 34 = .ok (.invokevirtual 125, 3) := by decide +kernel
theorem dX7_feed_37 : decode cX7_feed 37 = .ok (.ireturn, 1) := by decide +kernel
theorem dX7_orchard_0 : decode cX7_orchard 0 = .ok (.aload_n 0, 1) := by decide +kernel
theorem dX7_orchard_1 : decode cX7_orchard 1 = .ok (.getfield 19, 3) := by decide +kernel
theorem dX7_orchard_4 : decode cX7_orchard 4 = .ok (.aload_n 0, 1) := by decide +kernel
theorem dX7_orchard_5 : decode cX7_orchard 5 = .ok (.getfield 30, 3) := by decide +kernel
theorem dX7_orchard_8 : decode cX7_orchard 8 = .ok (.invokevirtual 128, 3) := by decide +kernel
theorem dX7_orchard_11 : decode cX7_orchard 11 = .ok (.istore_n 1, 1) := by decide +kernel
theorem dX7_orchard_12 : decode cX7_orchard 12 = .ok (.iload_n 1, 1) := by decide +kernel
theorem dX7_orchard_13 : decode cX7_orchard 13 = .ok (.ifCond .lt 8, 3) := by decide +kernel
theorem dX7_orchard_16 : decode cX7_orchard 16 = .ok (.ldc 132, 2) := by decide +kernel
theorem dX7_orchard_18 : decode cX7_orchard 18 = .ok (.iload_n 1, 1) := by decide +kernel
theorem dX7_orchard_19 : decode cX7_orchard 19 = .ok (.isub, 1) := by decide +kernel
theorem dX7_orchard_20 : decode cX7_orchard 20 = .ok (.ireturn, 1) := by decide +kernel
theorem dX7_orchard_21 : decode cX7_orchard 21 = .ok (.aload_n 0, 1) := by decide +kernel
theorem dX7_orchard_22 : decode cX7_orchard 22 = .ok (.getfield 26, 3) := by decide +kernel
theorem dX7_orchard_25 : decode cX7_orchard 25 = .ok (.aload_n 0, 1) := by decide +kernel
theorem dX7_orchard_26 : decode cX7_orchard 26 = .ok (.getfield 30, 3) := by decide +kernel
theorem dX7_orchard_29 : decode cX7_orchard 29 = .ok (.invokevirtual 133, 3) := by decide +kernel
theorem dX7_orchard_32 : decode cX7_orchard 32 = .ok (.aload_n 0, 1) := by decide +kernel
theorem dX7_orchard_33 : decode cX7_orchard 33 = .ok (.getfield 42, 3) := by decide +kernel
theorem dX7_orchard_36 : decode cX7_orchard 36 = .ok (.invokevirtual 136, 3) := by decide +kernel
theorem dX7_orchard_39 : decode cX7_orchard 39 = .ok (.aload_n 0, 1) := by decide +kernel
theorem dX7_orchard_40 : decode cX7_orchard 40 = .ok (.getfield 26, 3) := by decide +kernel
theorem dX7_orchard_43 : decode cX7_orchard 43 = .ok (.getfield 139, 3) := by decide +kernel
theorem dX7_orchard_46 : decode cX7_orchard 46 = .ok (.ireturn, 1) := by decide +kernel
theorem dX7_fault_0 : decode cX7_fault 0 = .ok (.aload_n 0, 1) := by decide +kernel
theorem dX7_fault_1 : decode cX7_fault 1 = .ok (.getfield 19, 3) := by decide +kernel
theorem dX7_fault_4 : decode cX7_fault 4 = .ok (.getfield 142, 3) := by decide +kernel
theorem dX7_fault_7 : decode cX7_fault 7 = .ok (.ireturn, 1) := by decide +kernel
theorem dX7_undo_0 : decode cX7_undo 0 = .ok (.aload_n 0, 1) := by decide +kernel
theorem dX7_undo_1 : decode cX7_undo 1 = .ok (.getfield 42, 3) := by decide +kernel
theorem dX7_undo_4 : decode cX7_undo 4 = .ok (.aload_n 0, 1) := by decide +kernel
theorem dX7_undo_5 : decode cX7_undo 5 = .ok (.getfield 26, 3) := by decide +kernel
theorem dX7_undo_8 : decode cX7_undo 8 = .ok (.invokevirtual 145, 3) := by decide +kernel
theorem dX7_undo_11 : decode cX7_undo 11 = .ok (.ifCond .eq 13, 3) := by decide +kernel
theorem dX7_undo_14 : decode cX7_undo 14 = .ok (.aload_n 0, 1) := by decide +kernel
theorem dX7_undo_15 : decode cX7_undo 15 = .ok (.getfield 42, 3) := by decide +kernel
theorem dX7_undo_18 : decode cX7_undo 18 = .ok (.getfield 149, 3) := by decide +kernel
theorem dX7_undo_21 : decode cX7_undo 21 = .ok (.goto 5, 3) := by decide +kernel
theorem dX7_undo_24 : decode cX7_undo 24 = .ok (.ldc 152, 2) := by decide +kernel
theorem dX7_undo_26 : decode cX7_undo 26 = .ok (.ireturn, 1) := by decide +kernel
end
section
theorem dX7_plan_0 : decode cX7_plan 0 = .ok (.aload_n 0, 1) := by decide +kernel
theorem dX7_plan_1 : decode cX7_plan 1 = .ok (.getfield 26, 3) := by decide +kernel
theorem dX7_plan_4 : decode cX7_plan 4 = .ok (.iload_n 1, 1) := by decide +kernel
theorem dX7_plan_5 : decode cX7_plan 5 = .ok (.invokevirtual 153, 3) := by decide +kernel
theorem dX7_plan_8 : decode cX7_plan 8 = .ok (.ifCond .eq 14, 3) := by decide +kernel
theorem dX7_plan_11 : decode cX7_plan 11 = .ok (.aload_n 0, 1) := by decide +kernel
theorem dX7_plan_12 : decode cX7_plan 12 = .ok (.iload_n 2, 1) := by decide +kernel
theorem dX7_plan_13 : decode cX7_plan 13 = .ok (.iload_n 3, 1) := by decide +kernel
theorem dX7_plan_14 : decode cX7_plan 14 = .ok (.iload 4, 2) := by decide +kernel
theorem dX7_plan_16 : decode cX7_plan 16 = .ok (.invokevirtual 156, 3) := by decide +kernel
theorem dX7_plan_19 : decode cX7_plan 19 = .ok (.ifCond .ne 6, 3) := by decide +kernel
theorem dX7_plan_22 : decode cX7_plan 22 = .ok (.ldc 87, 2) := by decide +kernel
theorem dX7_plan_24 : decode cX7_plan 24 = .ok (.ireturn, 1) := by decide +kernel
theorem dX7_plan_25 : decode cX7_plan 25 = .ok (.aload_n 0, 1) := by decide +kernel
theorem dX7_plan_26 : decode cX7_plan 26 = .ok (.getfield 26, 3) := by decide +kernel
theorem dX7_plan_29 : decode cX7_plan 29 = .ok (.iload_n 1, 1) := by decide +kernel
theorem dX7_plan_30 : decode cX7_plan 30 = .ok (.invokevirtual 160, 3) := by decide +kernel
theorem dX7_plan_33 : decode cX7_plan 33 = .ok (.ifCond .ne 6, 3) := by decide +kernel
theorem dX7_plan_36 : decode cX7_plan 36 = .ok (.ldc 152, 2) := by decide +kernel
theorem dX7_plan_38 : decode cX7_plan 38 = .ok (.ireturn, 1) := by decide +kernel
theorem dX7_plan_39 : decode cX7_plan 39 = .ok (.aload_n 0, 1) := by decide +kernel
theorem dX7_plan_40 : decode cX7_plan 40 = .ok (.getfield 26, 3) := by decide +kernel
theorem dX7_plan_43 : decode cX7_plan 43 = .ok (.iload_n 1, 1) := by decide +kernel
theorem dX7_plan_44 : decode cX7_plan 44 = .ok (.invokevirtual 163, 3) := by decide +kernel
theorem dX7_plan_47 : decode cX7_plan 47 = .ok (.istore 5, 2) := by decide +kernel
theorem dX7_plan_49 : decode cX7_plan 49 = .ok (.iload_n 2, 1) := by decide +kernel
theorem dX7_plan_50 : decode cX7_plan 50 = .ok (.ifCond .ge 7, 3) := by decide +kernel
theorem dX7_plan_53 : decode cX7_plan 53 = .ok (.iconst 1, 1) := by decide +kernel
theorem dX7_plan_54 : decode cX7_plan 54 = .ok (.goto 4, 3) := by decide +kernel
theorem dX7_plan_57 : decode cX7_plan 57 = .ok (.iconst 0, 1) := by decide +kernel
theorem dX7_plan_58 : decode cX7_plan 58 = .ok (.istore 6, 2) := by decide +kernel
theorem dX7_plan_60 : decode cX7_plan 60 = .ok (.aload_n 0, 1) := by decide +kernel
theorem dX7_plan_61 : decode cX7_plan 61 = .ok (.getfield 42, 3) := by decide +kernel
theorem dX7_plan_64 : decode cX7_plan 64 = .ok (.aload_n 0, 1) := by decide +kernel
theorem dX7_plan_65 : decode cX7_plan 65 = .ok (.getfield 26, 3) := by decide +kernel
theorem dX7_plan_68 : decode cX7_plan 68 = .ok (.invokevirtual 166, 3) := by decide +kernel
theorem dX7_plan_71 : decode cX7_plan 71 = .ok (.aload_n 0, 1) := by decide +kernel
theorem dX7_plan_72 : decode cX7_plan 72 = .ok (.getfield 26, 3) := by decide +kernel
theorem dX7_plan_75 : decode cX7_plan 75 = .ok (.getfield 169, 3) := by decide +kernel
theorem dX7_plan_78 : decode cX7_plan 78 = .ok (.bipush 6, 2) := by decide +kernel
theorem dX7_plan_80 : decode cX7_plan 80 = .ok (.iload_n 1, 1) := by decide +kernel
theorem dX7_plan_81 : decode cX7_plan 81 = .ok (.iadd, 1) := by decide +kernel
theorem dX7_plan_82 : decode cX7_plan 82 = .ok (.iload_n 2, 1) := by decide +kernel
theorem dX7_plan_83 : decode cX7_plan 83 = .ok (.iastore, 1) := by decide +kernel
theorem dX7_plan_84 : decode cX7_plan 84 = .ok (.aload_n 0, 1) := by decide +kernel
theorem dX7_plan_85 : decode cX7_plan 85 = .ok (.getfield 26, 3) := by decide +kernel
theorem dX7_plan_88 : decode cX7_plan 88 = .ok (.getfield 169, 3) := by decide +kernel
theorem dX7_plan_91 : decode cX7_plan 91 = .ok (.bipush 10, 2) := by decide +kernel
theorem dX7_plan_93 : decode cX7_plan 93 = .ok (.iload_n 1, 1) := by decide +kernel
theorem dX7_plan_94 : decode cX7_plan 94 = .ok (.iadd, 1) := by decide +kernel
theorem dX7_plan_95 : decode cX7_plan 95 = .ok (.iload 6, 2) := by decide +kernel
theorem dX7_plan_97 : decode cX7_plan 97 = .ok (.ifCond .eq 7, 3) := by decide +kernel
theorem dX7_plan_100 : decode cX7_plan 100 = .ok (.iconst 0, 1) := by decide +kernel
theorem dX7_plan_101 : decode cX7_plan 101 = .ok (.goto 4, 3) := by decide +kernel
theorem dX7_plan_104 : decode cX7_plan 104 = .ok (.iload_n 3, 1) := by decide +kernel
theorem dX7_plan_105 : decode cX7_plan 105 = .ok (.iastore, 1) := by decide +kernel
theorem dX7_plan_106 : decode cX7_plan 106 = .ok (.aload_n 0, 1) := by decide +kernel
theorem dX7_plan_107 : decode cX7_plan 107 = .ok (.getfield 26, 3) := by decide +kernel
theorem dX7_plan_110 : decode cX7_plan 110 = .ok (.getfield 169, 3) := by decide +kernel
theorem dX7_plan_113 : decode cX7_plan 113 = .ok (.bipush 14, 2) := by decide +kernel
theorem dX7_plan_115 : decode cX7_plan 115 = .ok (.iload_n 1, 1) := by decide +kernel
theorem dX7_plan_116 : decode cX7_plan 116 = .ok (.iadd, 1) := by decide +kernel
theorem dX7_plan_117 : decode cX7_plan 117 = .ok (.iload 6, 2) := by decide +kernel
theorem dX7_plan_119 : decode cX7_plan 119 = .ok (.ifCond .eq 7, 3) := by decide +kernel
theorem dX7_plan_122 : decode cX7_plan 122 = .ok (.iconst 0, 1) := by decide +kernel
theorem dX7_plan_123 : decode cX7_plan 123 = .ok (.goto 5, 3) := by decide +kernel
theorem dX7_plan_126 : decode cX7_plan 126 = .ok (.iload 4, 2) := by decide +kernel
theorem dX7_plan_128 : decode cX7_plan 128 = .ok (.iastore, 1) := by decide +kernel
theorem dX7_plan_129 : decode cX7_plan 129 = .ok (.iload 5, 2) := by decide +kernel
theorem dX7_plan_131 : decode cX7_plan 131 = .ok (.ifCond .eq 7, 3) := by decide +kernel
theorem dX7_plan_134 : decode cX7_plan 134 = .ok (.iconst 1, 1) := by decide +kernel
theorem dX7_plan_135 : decode cX7_plan 135 = .ok (.goto 4, 3) := by decide +kernel
theorem dX7_plan_138 : decode cX7_plan 138 = .ok (.iconst 0, 1) := by decide +kernel
theorem dX7_plan_139 : decode cX7_plan 139 = .ok (.ireturn, 1) := by decide +kernel
theorem dX7_raid_0 : decode cX7_raid 0 = .ok (.aload_n 0, 1) := by decide +kernel
theorem dX7_raid_1 : decode cX7_raid 1 = .ok (.getfield 26, 3) := by decide +kernel
theorem dX7_raid_4 : decode cX7_raid 4 = .ok (.getfield 172, 3) := by decide +kernel
theorem dX7_raid_7 : decode cX7_raid 7 = .ok (.ifCond .eq 13, 3) := by decide +kernel
theorem dX7_raid_10 : decode cX7_raid 10 = .ok (.aload_n 0, 1) := by decide +kernel
theorem dX7_raid_11 : decode cX7_raid 11 = .ok (.getfield 26, 3) := by decide +kernel
theorem dX7_raid_14 : decode cX7_raid 14 = .ok (.invokevirtual 176, 3) := by decide +kernel
theorem dX7_raid_17 : decode cX7_raid 17 = .ok (.ifCond .ne 6, 3) := by decide +kernel
theorem dX7_raid_20 : decode cX7_raid 20 = .ok (.ldc 152, 2) := by decide +kernel
theorem dX7_raid_22 : decode cX7_raid 22 = .ok (.ireturn, 1) := by decide +kernel
theorem dX7_raid_23 : decode cX7_raid 23 = .ok (.aload_n 0, 1) := by decide +kernel
theorem dX7_raid_24 : decode cX7_raid 24 = .ok (.getfield 26, 3) := by decide +kernel
theorem dX7_raid_27 : decode cX7_raid 27 = .ok (.getfield 169, 3) := by decide +kernel
theorem dX7_raid_30 : decode cX7_raid 30 = .ok (.bipush 22, 2) := by decide +kernel
theorem dX7_raid_32 : decode cX7_raid 32 = .ok (.iaload, 1) := by decide +kernel
theorem dX7_raid_33 : decode cX7_raid 33 = .ok (.bipush 99, 2) := by decide +kernel
theorem dX7_raid_35 : decode cX7_raid 35 = .ok (.if_icmp .lt 6, 3) := by decide +kernel
theorem dX7_raid_38 : decode cX7_raid 38 = .ok (.ldc 124, 2) := by decide +kernel
theorem dX7_raid_40 : decode cX7_raid 40 = .ok (.ireturn, 1) := by decide +kernel
theorem dX7_raid_41 : decode cX7_raid 41 = .ok (.aload_n 0, 1) := by decide +kernel
theorem dX7_raid_42 : decode cX7_raid 42 = .ok (.getfield 42, 3) := by decide +kernel
theorem dX7_raid_45 : decode cX7_raid 45 = .ok (.aload_n 0, 1) := by decide +kernel
theorem dX7_raid_46 : decode cX7_raid 46 = .ok (.getfield 26, 3) := by decide +kernel
theorem dX7_raid_49 : decode cX7_raid 49 = .ok (.invokevirtual 166, 3) := by decide +kernel
theorem dX7_raid_52 : decode cX7_raid 52 = .ok (.aload_n 0, 1) := by decide +kernel
theorem dX7_raid_53 : decode cX7_raid 53 = .ok (.bipush 15, 2) := by decide +kernel
theorem dX7_raid_55 : decode cX7_raid 55 = .ok (.invokevirtual 179, 3) := by decide +kernel
theorem dX7_raid_58 : decode cX7_raid 58 = .ok (.aload_n 0, 1) := by decide +kernel
theorem dX7_raid_59 : decode cX7_raid 59 = .ok (.getfield 51, 3) := by decide +kernel
theorem dX7_raid_62 : decode cX7_raid 62 = .ok (.invokevirtual 183, 3) := by decide +kernel
theorem dX7_raid_65 : decode cX7_raid 65 = .ok (.aload_n 0, 1) := by decide +kernel
theorem dX7_raid_66 : decode cX7_raid 66 = .ok (.getfield 51, 3) := by decide +kernel
theorem dX7_raid_69 : decode cX7_raid 69 = .ok (.invokevirtual 186, 3) := by decide +kernel
theorem dX7_raid_72 : decode cX7_raid 72 = .ok (.ireturn, 1) := by decide +kernel
theorem dX7_grow_0 : decode cX7_grow 0 = .ok (.aload_n 0, 1) := by decide +kernel
theorem dX7_grow_1 : decode cX7_grow 1 = .ok (.getfield 26, 3) := by decide +kernel
theorem dX7_grow_4 : decode cX7_grow 4 = .ok (.iload_n 1, 1) := by decide +kernel
theorem dX7_grow_5 : decode cX7_grow 5 = .ok (.invokevirtual 190, 3) := by decide +kernel
theorem dX7_grow_8 : decode cX7_grow 8 = .ok (.ifCond .eq 14, 3) := by decide +kernel
theorem dX7_grow_11 : decode cX7_grow 11 = .ok (.iload_n 2, 1) := by decide +kernel
theorem dX7_grow_12 : decode cX7_grow 12 = .ok (.iconst 1, 1) := by decide +kernel
theorem dX7_grow_13 : decode cX7_grow 13 = .ok (.if_icmp .lt 9, 3) := by decide +kernel
theorem dX7_grow_16 : decode cX7_grow 16 = .ok (.iload_n 2, 1) := by decide +kernel
theorem dX7_grow_17 : decode cX7_grow 17 = .ok (.bipush 30, 2) := by decide +kernel
theorem dX7_grow_19 : decode cX7_grow 19 = .ok (.if_icmp .le 6, 3) := by decide +kernel
theorem dX7_grow_22 : decode cX7_grow 22 = .ok (.ldc 87, 2) := by decide +kernel
theorem dX7_grow_24 : decode cX7_grow 24 = .ok (.ireturn, 1) := by decide +kernel
theorem dX7_grow_25 : decode cX7_grow 25 = .ok (.aload_n 0, 1) := by decide +kernel
theorem dX7_grow_26 : decode cX7_grow 26 = .ok (.getfield 26, 3) := by decide +kernel
theorem dX7_grow_29 : decode cX7_grow 29 = .ok (.getfield 169, 3) := by decide +kernel
theorem dX7_grow_32 : decode cX7_grow 32 = .ok (.iconst 0, 1) := by decide +kernel
theorem dX7_grow_33 : decode cX7_grow 33 = .ok (.iload_n 1, 1) := by decide +kernel
theorem dX7_grow_34 : decode cX7_grow 34 = .ok (.iadd, 1) := by decide +kernel
theorem dX7_grow_35 : decode cX7_grow 35 = .ok (.iaload, 1) := by decide +kernel
theorem dX7_grow_36 : decode cX7_grow 36 = .ok (.iload_n 2, 1) := by decide +kernel
theorem dX7_grow_37 : decode cX7_grow 37 = .ok (.iadd, 1) := by decide +kernel
theorem dX7_grow_38 : decode cX7_grow 38 = .ok (.bipush 60, 2) := by decide +kernel
theorem dX7_grow_40 : decode cX7_grow 40 = .ok (.if_icmp .le 6, 3) := by decide +kernel
theorem dX7_grow_43 : decode cX7_grow 43 = .ok (.ldc 124, 2) := by decide +kernel
theorem dX7_grow_45 : decode cX7_grow 45 = .ok (.ireturn, 1) := by decide +kernel
theorem dX7_grow_46 : decode cX7_grow 46 = .ok (.aload_n 0, 1) := by decide +kernel
theorem dX7_grow_47 : decode cX7_grow 47 = .ok (.getfield 42, 3) := by decide +kernel
theorem dX7_grow_50 : decode cX7_grow 50 = .ok (.aload_n 0, 1) := by decide +kernel
theorem dX7_grow_51 : decode cX7_grow 51 = .ok (.getfield 26, 3) := by decide +kernel
theorem dX7_grow_54 : decode cX7_grow 54 = .ok (.invokevirtual 166, 3) := by decide +kernel
theorem dX7_grow_57 : decode cX7_grow 57 = .ok (.aload_n 0, 1) := by decide +kernel
theorem dX7_grow_58 : decode cX7_grow 58 = .ok (.getfield 26, 3) := by decide +kernel
theorem dX7_grow_61 : decode cX7_grow 61 = .ok (.getfield 169, 3) := by decide +kernel
theorem dX7_grow_64 : decode cX7_grow 64 = .ok (.iconst 0, 1) := by decide +kernel
theorem dX7_grow_65 : decode cX7_grow 65 = .ok (.iload_n 1, 1) := by decide +kernel
theorem dX7_grow_66 : decode cX7_grow 66 = .ok (.iadd, 1) := by decide +kernel
theorem dX7_grow_67 : decode cX7_grow 67 = .ok (.dup2, 1) := by decide +kernel
theorem dX7_grow_68 : decode cX7_grow 68 = .ok (.iaload, 1) := by decide +kernel
theorem dX7_grow_69 : decode cX7_grow 69 = .ok (.iload_n 2, 1) := by decide +kernel
theorem dX7_grow_70 : decode cX7_grow 70 = .ok (.iadd, 1) := by decide +kernel
theorem dX7_grow_71 : decode cX7_grow 71 = .ok (.iastore, 1) := by decide +kernel
theorem dX7_grow_72 : decode cX7_grow 72 = .ok (.aload_n 0, 1) := by decide +kernel
theorem dX7_grow_73 : decode cX7_grow 73 = .ok (.getfield 26, 3) := by decide +kernel
theorem dX7_grow_76 : decode cX7_grow 76 = .ok (.getfield 169, 3) := by decide +kernel
theorem dX7_grow_79 : decode cX7_grow 79 = .ok (.iconst 0, 1) := by decide +kernel
theorem dX7_grow_80 : decode cX7_grow 80 = .ok (.iload_n 1, 1) := by decide +kernel
theorem dX7_grow_81 : decode cX7_grow 81 = .ok (.iadd, 1) := by decide +kernel
theorem dX7_grow_82 : decode cX7_grow 82 = .ok (.iaload, 1) := by decide +kernel
theorem dX7_grow_83 : decode cX7_grow 83 = .ok (.ireturn, 1) := by decide +kernel
theorem dX7_write_0 : decode cX7_write 0 = .ok (.iload_n 1, 1) := by decide +kernel
theorem dX7_write_1 : decode cX7_write 1 = .ok (.invokestatic 193, 3) := by decide +kernel
theorem dX7_write_4 : decode cX7_write 4 = .ok (.ifCond .eq 10, 3) := by decide +kernel
theorem dX7_write_7 : decode cX7_write 7 = .ok (.iload_n 2, 1) := by decide +kernel
theorem dX7_write_8 : decode cX7_write 8 = .ok (.invokestatic 196, 3) := by decide +kernel
theorem dX7_write_11 : decode cX7_write 11 = .ok (.ifCond .ne 6, 3) := by decide +kernel
theorem dX7_write_14 : decode cX7_write 14 = .ok (.ldc 87, 2) := by decide +kernel
theorem dX7_write_16 : decode cX7_write 16 = .ok (.ireturn, 1) := by decide +kernel
theorem dX7_write_17 : decode cX7_write 17 = .ok (.aload_n 0, 1) := by decide +kernel
theorem dX7_write_18 : decode cX7_write 18 = .ok (.getfield 58, 3) := by decide +kernel
theorem dX7_write_21 : decode cX7_write 21 = .ok (.invokevirtual 199, 3) := by decide +kernel
theorem dX7_write_24 : decode cX7_write 24 = .ok (.ifCond .eq 8, 3) := by decide +kernel
theorem dX7_write_27 : decode cX7_write 27 = .ok (.ldc 124, 2) := by decide +kernel
theorem dX7_write_29 : decode cX7_write 29 = .ok (.goto 12, 3) := by decide +kernel
theorem dX7_write_32 : decode cX7_write 32 = .ok (.aload_n 0, 1) := by decide +kernel
theorem dX7_write_33 : decode cX7_write 33 = .ok (.getfield 58, 3) := by decide +kernel
theorem dX7_write_36 : decode cX7_write 36 = .ok (.iload_n 1, 1) := by decide +kernel
theorem dX7_write_37 : decode cX7_write 37 = .ok (.iload_n 2, 1) := by decide +kernel
theorem dX7_write_38 : decode cX7_write 38 = .ok (.invokevirtual 200, 3) := by decide +kernel
theorem dX7_write_41 : decode cX7_write 41 = .ok (.ireturn, 1) := by decide +kernel
theorem dX7_tear_0 : decode cX7_tear 0 = .ok (.aload_n 0, 1) := by decide +kernel
theorem dX7_tear_1 : decode cX7_tear 1 = .ok (.getfield 58, 3) := by decide +kernel
theorem dX7_tear_4 : decode cX7_tear 4 = .ok (.invokevirtual 203, 3) := by decide +kernel
theorem dX7_tear_7 : decode cX7_tear 7 = .ok (.ireturn, 1) := by decide +kernel
theorem dX7_raider_0 : decode cX7_raider 0 = .ok (.aload_n 0, 1) := by decide +kernel
theorem dX7_raider_1 : decode cX7_raider 1 = .ok (.getfield 26, 3) := by decide +kernel
theorem dX7_raider_4 : decode cX7_raider 4 = .ok (.iload_n 1, 1) := by decide +kernel
theorem dX7_raider_5 : decode cX7_raider 5 = .ok (.invokevirtual 153, 3) := by decide +kernel
theorem dX7_raider_8 : decode cX7_raider 8 = .ok (.ifCond .ne 6, 3) := by decide +kernel
theorem dX7_raider_11 : decode cX7_raider 11 = .ok (.ldc 87, 2) := by decide +kernel
theorem dX7_raider_13 : decode cX7_raider 13 = .ok (.ireturn, 1) := by decide +kernel
theorem dX7_raider_14 : decode cX7_raider 14 = .ok (.iload_n 2, 1) := by decide +kernel
theorem dX7_raider_15 : decode cX7_raider 15 = .ok (.tableswitch 95 0 4 #[33, 43, 56, 69, 82], 33) := by decide +kernel
theorem dX7_raider_48 : decode cX7_raider 48 = .ok (.aload_n 0, 1) := by decide +kernel
theorem dX7_raider_49 : decode cX7_raider 49 = .ok (.getfield 26, 3) := by decide +kernel
theorem dX7_raider_52 : decode cX7_raider 52 = .ok (.getfield 206, 3) := by decide +kernel
theorem dX7_raider_55 : decode cX7_raider 55 = .ok (.iload_n 1, 1) := by decide +kernel
theorem dX7_raider_56 : decode cX7_raider 56 = .ok (.iaload, 1) := by decide +kernel
theorem dX7_raider_57 : decode cX7_raider 57 = .ok (.ireturn, 1) := by decide +kernel
theorem dX7_raider_58 : decode cX7_raider 58 = .ok (.aload_n 0, 1) := by decide +kernel
theorem dX7_raider_59 : decode cX7_raider 59 = .ok (.getfield 26, 3) := by decide +kernel
theorem dX7_raider_62 : decode cX7_raider 62 = .ok (.getfield 169, 3) := by decide +kernel
theorem dX7_raider_65 : decode cX7_raider 65 = .ok (.bipush 6, 2) := by decide +kernel
theorem dX7_raider_67 : decode cX7_raider 67 = .ok (.iload_n 1, 1) := by decide +kernel
theorem dX7_raider_68 : decode cX7_raider 68 = .ok (.iadd, 1) := by decide +kernel
theorem dX7_raider_69 : decode cX7_raider 69 = .ok (.iaload, 1) := by decide +kernel
theorem dX7_raider_70 : decode cX7_raider 70 = .ok (.ireturn, 1) := by decide +kernel
theorem dX7_raider_71 : decode cX7_raider 71 = .ok (.aload_n 0, 1) := by decide +kernel
theorem dX7_raider_72 : decode cX7_raider 72 = .ok (.getfield 26, 3) := by decide +kernel
theorem dX7_raider_75 : decode cX7_raider 75 = .ok (.getfield 169, 3) := by decide +kernel
theorem dX7_raider_78 : decode cX7_raider 78 = .ok (.bipush 10, 2) := by decide +kernel
theorem dX7_raider_80 : decode cX7_raider 80 = .ok (.iload_n 1, 1) := by decide +kernel
theorem dX7_raider_81 : decode cX7_raider 81 = .ok (.iadd, 1) := by decide +kernel
theorem dX7_raider_82 : decode cX7_raider 82 = .ok (.iaload, 1) := by decide +kernel
theorem dX7_raider_83 : decode cX7_raider 83 = .ok (.ireturn, 1) := by decide +kernel
theorem dX7_raider_84 : decode cX7_raider 84 = .ok (.aload_n 0, 1) := by decide +kernel
theorem dX7_raider_85 : decode cX7_raider 85 = .ok (.getfield 26, 3) := by decide +kernel
theorem dX7_raider_88 : decode cX7_raider 88 = .ok (.getfield 169, 3) := by decide +kernel
theorem dX7_raider_91 : decode cX7_raider 91 = .ok (.bipush 14, 2) := by decide +kernel
theorem dX7_raider_93 : decode cX7_raider 93 = .ok (.iload_n 1, 1) := by decide +kernel
theorem dX7_raider_94 : decode cX7_raider 94 = .ok (.iadd, 1) := by decide +kernel
theorem dX7_raider_95 : decode cX7_raider 95 = .ok (.iaload, 1) := by decide +kernel
theorem dX7_raider_96 : decode cX7_raider 96 = .ok (.ireturn, 1) := by decide +kernel
theorem dX7_raider_97 : decode cX7_raider 97 = .ok (.aload_n 0, 1) := by decide +kernel
theorem dX7_raider_98 : decode cX7_raider 98 = .ok (.getfield 26, 3) := by decide +kernel
theorem dX7_raider_101 : decode cX7_raider 101 = .ok (.getfield 169, 3) := by decide +kernel
theorem dX7_raider_104 : decode cX7_raider 104 = .ok (.bipush 18, 2) := by decide +kernel
theorem dX7_raider_106 : decode cX7_raider 106 = .ok (.iload_n 1, 1) := by decide +kernel
theorem dX7_raider_107 : decode cX7_raider 107 = .ok (.iadd, 1) := by decide +kernel
theorem dX7_raider_108 : decode cX7_raider 108 = .ok (.iaload, 1) := by decide +kernel
theorem dX7_raider_109 : decode cX7_raider 109 = .ok (.ireturn, 1) := by decide +kernel
theorem dX7_raider_110 : decode cX7_raider 110 = .ok (.ldc 87, 2) := by decide +kernel
theorem dX7_raider_112 : decode cX7_raider 112 = .ok (.ireturn, 1) := by decide +kernel
theorem dX7_tree_0 : decode cX7_tree 0 = .ok (.aload_n 0, 1) := by decide +kernel
theorem dX7_tree_1 : decode cX7_tree 1 = .ok (.getfield 26, 3) := by decide +kernel
theorem dX7_tree_4 : decode cX7_tree 4 = .ok (.iload_n 1, 1) := by decide +kernel
theorem dX7_tree_5 : decode cX7_tree 5 = .ok (.invokevirtual 190, 3) := by decide +kernel
theorem dX7_tree_8 : decode cX7_tree 8 = .ok (.ifCond .ne 6, 3) := by decide +kernel
theorem dX7_tree_11 : decode cX7_tree 11 = .ok (.ldc 87, 2) := by decide +kernel
theorem dX7_tree_13 : decode cX7_tree 13 = .ok (.ireturn, 1) := by decide +kernel
theorem dX7_tree_14 : decode cX7_tree 14 = .ok (.iload_n 2, 1) := by decide +kernel
theorem dX7_tree_15 : decode cX7_tree 15 = .ok (.tableswitch 57 0 2 #[25, 35, 47], 25) := by decide +kernel
theorem dX7_tree_40 : decode cX7_tree 40 = .ok (.aload_n 0, 1) := by decide +kernel
theorem dX7_tree_41 : decode cX7_tree 41 = .ok (.getfield 26, 3) := by decide +kernel
theorem dX7_tree_44 : decode cX7_tree 44 = .ok (.getfield 209, 3) := by decide +kernel
theorem dX7_tree_47 : decode cX7_tree 47 = .ok (.iload_n 1, 1) := by decide +kernel
theorem dX7_tree_48 : decode cX7_tree 48 = .ok (.iaload, 1) := by decide +kernel
theorem dX7_tree_49 : decode cX7_tree 49 = .ok (.ireturn, 1) := by decide +kernel
theorem dX7_tree_50 : decode cX7_tree 50 = .ok (.aload_n 0, 1) := by decide +kernel
theorem dX7_tree_51 : decode cX7_tree 51 = .ok (.getfield 26, 3) := by decide +kernel
theorem dX7_tree_54 : decode cX7_tree 54 = .ok (.getfield 169, 3) := by decide +kernel
theorem dX7_tree_57 : decode cX7_tree 57 = .ok (.iconst 0, 1) := by decide +kernel
theorem dX7_tree_58 : decode cX7_tree 58 = .ok (.iload_n 1, 1) := by decide +kernel
theorem dX7_tree_59 : decode cX7_tree 59 = .ok (.iadd, 1) := by decide +kernel
theorem dX7_tree_60 : decode cX7_tree 60 = .ok (.iaload, 1) := by decide +kernel
theorem dX7_tree_61 : decode cX7_tree 61 = .ok (.ireturn, 1) := by decide +kernel
theorem dX7_tree_62 : decode cX7_tree 62 = .ok (.aload_n 0, 1) := by decide +kernel
theorem dX7_tree_63 : decode cX7_tree 63 = .ok (.getfield 26, 3) := by decide +kernel
theorem dX7_tree_66 : decode cX7_tree 66 = .ok (.getfield 212, 3) := by decide +kernel
theorem dX7_tree_69 : decode cX7_tree 69 = .ok (.iload_n 1, 1) := by decide +kernel
theorem dX7_tree_70 : decode cX7_tree 70 = .ok (.iaload, 1) := by decide +kernel
theorem dX7_tree_71 : decode cX7_tree 71 = .ok (.ireturn, 1) := by decide +kernel
theorem dX7_tree_72 : decode cX7_tree 72 = .ok (.ldc 87, 2) := by decide +kernel
theorem dX7_tree_74 : decode cX7_tree 74 = .ok (.ireturn, 1) := by decide +kernel
theorem dX7_far_0 : decode cX7_far 0 = .ok (.iload_n 1, 1) := by decide +kernel
theorem dX7_far_1 : decode cX7_far 1 = .ok (.invokestatic 215, 3) := by decide +kernel
theorem dX7_far_4 : decode cX7_far 4 = .ok (.ifCond .eq 18, 3) := by decide +kernel
theorem dX7_far_7 : decode cX7_far 7 = .ok (.iload_n 2, 1) := by decide +kernel
theorem dX7_far_8 : decode cX7_far 8 = .ok (.invokestatic 215, 3) := by decide +kernel
theorem dX7_far_11 : decode cX7_far 11 = .ok (.ifCond .eq 11, 3) := by decide +kernel
theorem dX7_far_14 : decode cX7_far 14 = .ok (.iload_n 1, 1) := by decide +kernel
theorem dX7_far_15 : decode cX7_far 15 = .ok (.iload_n 2, 1) := by decide +kernel
theorem dX7_far_16 : decode cX7_far 16 = .ok (.invokestatic 218, 3) := by decide +kernel
theorem dX7_far_19 : decode cX7_far 19 = .ok (.goto 5, 3) := by decide +kernel
theorem dX7_far_22 : decode cX7_far 22 = .ok (.ldc 87, 2) := by decide +kernel
theorem dX7_far_24 : decode cX7_far 24 = .ok (.ireturn, 1) := by decide +kernel
theorem dX7_ahead_0 : decode cX7_ahead 0 = .ok (.aload_n 0, 1) := by decide +kernel
theorem dX7_ahead_1 : decode cX7_ahead 1 = .ok (.getfield 26, 3) := by decide +kernel
theorem dX7_ahead_4 : decode cX7_ahead 4 = .ok (.getfield 172, 3) := by decide +kernel
theorem dX7_ahead_7 : decode cX7_ahead 7 = .ok (.ifCond .ne 6, 3) := by decide +kernel
theorem dX7_ahead_10 : decode cX7_ahead 10 = .ok (.ldc 152, 2) := by decide +kernel
theorem dX7_ahead_12 : decode cX7_ahead 12 = .ok (.ireturn, 1) := by decide +kernel
theorem dX7_ahead_13 : decode cX7_ahead 13 = .ok (.iload_n 1, 1) := by decide +kernel
theorem dX7_ahead_14 : decode cX7_ahead 14 = .ok (.ifCond .lt 8, 3) := by decide +kernel
theorem dX7_ahead_17 : decode cX7_ahead 17 = .ok (.iload_n 1, 1) := by decide +kernel
theorem dX7_ahead_18 : decode cX7_ahead 18 = .ok (.iconst 3, 1) := by decide +kernel
theorem dX7_ahead_19 : decode cX7_ahead 19 = .ok (.if_icmp .le 6, 3) := by decide +kernel
theorem dX7_ahead_22 : decode cX7_ahead 22 = .ok (.ldc 87, 2) := by decide +kernel
theorem dX7_ahead_24 : decode cX7_ahead 24 = .ok (.ireturn, 1) := by decide +kernel
theorem dX7_ahead_25 : decode cX7_ahead 25 = .ok (.aload_n 0, 1) := by decide +kernel
theorem dX7_ahead_26 : decode cX7_ahead 26 = .ok (.bipush 15, 2) := by decide +kernel
theorem dX7_ahead_28 : decode cX7_ahead 28 = .ok (.invokevirtual 179, 3) := by decide +kernel
theorem dX7_ahead_31 : decode cX7_ahead 31 = .ok (.iload_n 1, 1) := by decide +kernel
theorem dX7_ahead_32 : decode cX7_ahead 32 = .ok (.tableswitch 67 0 2 #[28, 36, 44], 28) := by decide +kernel
theorem dX7_ahead_60 : decode cX7_ahead 60 = .ok (.aload_n 0, 1) := by decide +kernel
theorem dX7_ahead_61 : decode cX7_ahead 61 = .ok (.getfield 51, 3) := by decide +kernel
theorem dX7_ahead_64 : decode cX7_ahead 64 = .ok (.invokevirtual 186, 3) := by decide +kernel
theorem dX7_ahead_67 : decode cX7_ahead 67 = .ok (.ireturn, 1) := by decide +kernel
theorem dX7_ahead_68 : decode cX7_ahead 68 = .ok (.aload_n 0, 1) := by decide +kernel
theorem dX7_ahead_69 : decode cX7_ahead 69 = .ok (.getfield 51, 3) := by decide +kernel
theorem dX7_ahead_72 : decode cX7_ahead 72 = .ok (.invokevirtual 221, 3) := by decide +kernel
theorem dX7_ahead_75 : decode cX7_ahead 75 = .ok (.ireturn, 1) := by decide +kernel
theorem dX7_ahead_76 : decode cX7_ahead 76 = .ok (.aload_n 0, 1) := by decide +kernel
theorem dX7_ahead_77 : decode cX7_ahead 77 = .ok (.getfield 51, 3) := by decide +kernel
theorem dX7_ahead_80 : decode cX7_ahead 80 = .ok (.getfield 224, 3) := by decide +kernel
theorem dX7_ahead_83 : decode cX7_ahead 83 = .ok (.ifCond .le 13, 3) := by decide +kernel
theorem dX7_ahead_86 : decode cX7_ahead 86 = .ok (.aload_n 0, 1) := by decide +kernel
theorem dX7_ahead_87 : decode cX7_ahead 87 = .ok (.getfield 51, 3) := by decide +kernel
theorem dX7_ahead_90 : decode cX7_ahead 90 = .ok (.getfield 224, 3) := by decide +kernel
theorem dX7_ahead_93 : decode cX7_ahead 93 = .ok (.goto 5, 3) := by decide +kernel
theorem dX7_ahead_96 : decode cX7_ahead 96 = .ok (.ldc 227, 2) := by decide +kernel
theorem dX7_ahead_98 : decode cX7_ahead 98 = .ok (.ireturn, 1) := by decide +kernel
theorem dX7_ahead_99 : decode cX7_ahead 99 = .ok (.aload_n 0, 1) := by decide +kernel
theorem dX7_ahead_100 : decode cX7_ahead 100 = .ok (.getfield 51, 3) := by decide +kernel
theorem dX7_ahead_103 : decode cX7_ahead 103 = .ok (.getfield 228, 3) := by decide +kernel
theorem dX7_ahead_106 : decode cX7_ahead 106 = .ok (.ireturn, 1) := by decide +kernel
theorem dX7_raiderAhead_0 : decode cX7_raiderAhead 0 = .ok (.aload_n 0, 1) := by decide +kernel
theorem dX7_raiderAhead_1 : decode cX7_raiderAhead 1 = .ok (.getfield 26, 3) := by decide +kernel
theorem dX7_raiderAhead_4 : decode cX7_raiderAhead 4 = .ok (.iload_n 1, 1) := by decide +kernel
theorem dX7_raiderAhead_5 : decode cX7_raiderAhead 5 = .ok (.invokevirtual 153, 3) := by decide +kernel
theorem dX7_raiderAhead_8 : decode cX7_raiderAhead 8 = .ok (.ifCond .eq 10, 3) := by decide +kernel
theorem dX7_raiderAhead_11 : decode cX7_raiderAhead 11 = .ok (.iload_n 2, 1) := by decide +kernel
theorem dX7_raiderAhead_12 : decode cX7_raiderAhead 12 = .ok (.invokestatic 196, 3) := by decide +kernel
theorem dX7_raiderAhead_15 : decode cX7_raiderAhead 15 = .ok (.ifCond .ne 6, 3) := by decide +kernel
theorem dX7_raiderAhead_18 : decode cX7_raiderAhead 18 = .ok (.ldc 87, 2) := by decide +kernel
theorem dX7_raiderAhead_20 : decode cX7_raiderAhead 20 = .ok (.ireturn, 1) := by decide +kernel
theorem dX7_raiderAhead_21 : decode cX7_raiderAhead 21 = .ok (.aload_n 0, 1) := by decide +kernel
theorem dX7_raiderAhead_22 : decode cX7_raiderAhead 22 = .ok (.bipush 15, 2) := by decide +kernel
theorem dX7_raiderAhead_24 : decode cX7_raiderAhead 24 = .ok (.invokevirtual 179, 3) := by decide +kernel
theorem dX7_raiderAhead_27 : decode cX7_raiderAhead 27 = .ok (.iload_n 2, 1) := by decide +kernel
theorem dX7_raiderAhead_28 : decode cX7_raiderAhead 28 = .ok (.iconst 1, 1) := by decide +kernel
theorem dX7_raiderAhead_29 : decode cX7_raiderAhead 29 = .ok (.if_icmp .ne 12, 3) := by decide +kernel
theorem dX7_raiderAhead_32 : decode cX7_raiderAhead 32 = .ok (.aload_n 0, 1) := by decide +kernel
theorem dX7_raiderAhead_33 : decode cX7_raiderAhead 33 = .ok (.getfield 51, 3) := by decide +kernel
theorem dX7_raiderAhead_36 : decode cX7_raiderAhead 36 = .ok (.iload_n 1, 1) := by decide +kernel
theorem dX7_raiderAhead_37 : decode cX7_raiderAhead 37 = .ok (.invokevirtual 231, 3) := by decide +kernel
theorem dX7_raiderAhead_40 : decode cX7_raiderAhead 40 = .ok (.ireturn, 1) := by decide +kernel
theorem dX7_raiderAhead_41 : decode cX7_raiderAhead 41 = .ok (.aload_n 0, 1) := by decide +kernel
theorem dX7_raiderAhead_42 : decode cX7_raiderAhead 42 = .ok (.getfield 51, 3) := by decide +kernel
theorem dX7_raiderAhead_45 : decode cX7_raiderAhead 45 = .ok (.iload_n 1, 1) := by decide +kernel
theorem dX7_raiderAhead_46 : decode cX7_raiderAhead 46 = .ok (.invokevirtual 234, 3) := by decide +kernel
theorem dX7_raiderAhead_49 : decode cX7_raiderAhead 49 = .ok (.ifCond .eq 15, 3) := by decide +kernel
theorem dX7_raiderAhead_52 : decode cX7_raiderAhead 52 = .ok (.aload_n 0, 1) := by decide +kernel
theorem dX7_raiderAhead_53 : decode cX7_raiderAhead 53 = .ok (.getfield 51, 3) := by decide +kernel
theorem dX7_raiderAhead_56 : decode cX7_raiderAhead 56 = .ok (.getfield 237, 3) := by decide +kernel
theorem dX7_raiderAhead_59 : decode cX7_raiderAhead 59 = .ok (.iload_n 1, 1) := by decide +kernel
theorem dX7_raiderAhead_60 : decode cX7_raiderAhead 60 = .ok (.iaload, 1) := by decide +kernel
theorem dX7_raiderAhead_61 : decode cX7_raiderAhead 61 = .ok (.goto 5, 3) := by decide +kernel
theorem dX7_raiderAhead_64 : decode cX7_raiderAhead 64 = .ok (.ldc 227, 2) := by decide +kernel
theorem dX7_raiderAhead_66 : decode cX7_raiderAhead 66 = .ok (.ireturn, 1) := by decide +kernel
theorem dX7_safe_0 : decode cX7_safe 0 = .ok (.aload_n 0, 1) := by decide +kernel
theorem dX7_safe_1 : decode cX7_safe 1 = .ok (.getfield 26, 3) := by decide +kernel
theorem dX7_safe_4 : decode cX7_safe 4 = .ok (.iload_n 1, 1) := by decide +kernel
theorem dX7_safe_5 : decode cX7_safe 5 = .ok (.invokevirtual 153, 3) := by decide +kernel
theorem dX7_safe_8 : decode cX7_safe 8 = .ok (.ifCond .eq 21, 3) := by decide +kernel
theorem dX7_safe_11 : decode cX7_safe 11 = .ok (.aload_n 0, 1) := by decide +kernel
theorem dX7_safe_12 : decode cX7_safe 12 = .ok (.getfield 26, 3) := by decide +kernel
theorem dX7_safe_15 : decode cX7_safe 15 = .ok (.iload_n 2, 1) := by decide +kernel
theorem dX7_safe_16 : decode cX7_safe 16 = .ok (.invokevirtual 190, 3) := by decide +kernel
theorem dX7_safe_19 : decode cX7_safe 19 = .ok (.ifCond .eq 10, 3) := by decide +kernel
theorem dX7_safe_22 : decode cX7_safe 22 = .ok (.iload_n 3, 1) := by decide +kernel
theorem dX7_safe_23 : decode cX7_safe 23 = .ok (.invokestatic 196, 3) := by decide +kernel
theorem dX7_safe_26 : decode cX7_safe 26 = .ok (.ifCond .ne 6, 3) := by decide +kernel
theorem dX7_safe_29 : decode cX7_safe 29 = .ok (.ldc 87, 2) := by decide +kernel
theorem dX7_safe_31 : decode cX7_safe 31 = .ok (.ireturn, 1) := by decide +kernel
theorem dX7_safe_32 : decode cX7_safe 32 = .ok (.aload_n 0, 1) := by decide +kernel
theorem dX7_safe_33 : decode cX7_safe 33 = .ok (.getfield 26, 3) := by decide +kernel
theorem dX7_safe_36 : decode cX7_safe 36 = .ok (.iload_n 1, 1) := by decide +kernel
theorem dX7_safe_37 : decode cX7_safe 37 = .ok (.invokevirtual 160, 3) := by decide +kernel
theorem dX7_safe_40 : decode cX7_safe 40 = .ok (.ifCond .ne 6, 3) := by decide +kernel
theorem dX7_safe_43 : decode cX7_safe 43 = .ok (.ldc 152, 2) := by decide +kernel
theorem dX7_safe_45 : decode cX7_safe 45 = .ok (.ireturn, 1) := by decide +kernel
theorem dX7_safe_46 : decode cX7_safe 46 = .ok (.iconst 0, 1) := by decide +kernel
theorem dX7_safe_47 : decode cX7_safe 47 = .ok (.istore 4, 2) := by decide +kernel
theorem dX7_safe_49 : decode cX7_safe 49 = .ok (.iconst 1, 1) := by decide +kernel
theorem dX7_safe_50 : decode cX7_safe 50 = .ok (.istore 5, 2) := by decide +kernel
theorem dX7_safe_52 : decode cX7_safe 52 = .ok (.iload 5, 2) := by decide +kernel
theorem dX7_safe_54 : decode cX7_safe 54 = .ok (.bipush 20, 2) := by decide +kernel
theorem dX7_safe_56 : decode cX7_safe 56 = .ok (.if_icmp .gt 64, 3) := by decide +kernel
theorem dX7_safe_59 : decode cX7_safe 59 = .ok (.aload_n 0, 1) := by decide +kernel
theorem dX7_safe_60 : decode cX7_safe 60 = .ok (.iload_n 1, 1) := by decide +kernel
theorem dX7_safe_61 : decode cX7_safe 61 = .ok (.iload_n 2, 1) := by decide +kernel
theorem dX7_safe_62 : decode cX7_safe 62 = .ok (.iload 5, 2) := by decide +kernel
theorem dX7_safe_64 : decode cX7_safe 64 = .ok (.iload_n 3, 1) := by decide +kernel
theorem dX7_safe_65 : decode cX7_safe 65 = .ok (.invokevirtual 240, 3) := by decide +kernel
theorem dX7_safe_68 : decode cX7_safe 68 = .ok (.aload_n 0, 1) := by decide +kernel
theorem dX7_safe_69 : decode cX7_safe 69 = .ok (.getfield 51, 3) := by decide +kernel
theorem dX7_safe_72 : decode cX7_safe 72 = .ok (.iload_n 1, 1) := by decide +kernel
theorem dX7_safe_73 : decode cX7_safe 73 = .ok (.invokevirtual 234, 3) := by decide +kernel
theorem dX7_safe_76 : decode cX7_safe 76 = .ok (.istore 6, 2) := by decide +kernel
theorem dX7_safe_78 : decode cX7_safe 78 = .ok (.iload 6, 2) := by decide +kernel
theorem dX7_safe_80 : decode cX7_safe 80 = .ok (.ifCond .eq 7, 3) := by decide +kernel
theorem dX7_safe_83 : decode cX7_safe 83 = .ok (.iload 5, 2) := by decide +kernel
theorem dX7_safe_85 : decode cX7_safe 85 = .ok (.istore 4, 2) := by decide +kernel
theorem dX7_safe_87 : decode cX7_safe 87 = .ok (.aload_n 0, 1) := by decide +kernel
theorem dX7_safe_88 : decode cX7_safe 88 = .ok (.getfield 51, 3) := by decide +kernel
theorem dX7_safe_91 : decode cX7_safe 91 = .ok (.getfield 244, 3) := by decide +kernel
theorem dX7_safe_94 : decode cX7_safe 94 = .ok (.iload_n 1, 1) := by decide +kernel
theorem dX7_safe_95 : decode cX7_safe 95 = .ok (.iaload, 1) := by decide +kernel
theorem dX7_safe_96 : decode cX7_safe 96 = .ok (.iload 5, 2) := by decide +kernel
theorem dX7_safe_98 : decode cX7_safe 98 = .ok (.if_icmp .ge 16, 3) := by decide +kernel
theorem dX7_safe_101 : decode cX7_safe 101 = .ok (.iload 6, 2) := by decide +kernel
theorem dX7_safe_103 : decode cX7_safe 103 = .ok (.ifCond .eq 8, 3) := by decide +kernel
theorem dX7_safe_106 : decode cX7_safe 106 = .ok (.bipush 20, 2) := by decide +kernel
theorem dX7_safe_108 : decode cX7_safe 108 = .ok (.goto 5, 3) := by decide +kernel
theorem dX7_safe_111 : decode cX7_safe 111 = .ok (.iload 4, 2) := by decide +kernel
theorem dX7_safe_113 : decode cX7_safe 113 = .ok (.ireturn, 1) := by decide +kernel
theorem dX7_safe_114 : decode cX7_safe 114 = .ok (.iinc 5 1, 3) := by decide +kernel
theorem dX7_safe_117 : decode cX7_safe 117 = .ok (.goto (-65), 3) := by decide +kernel
theorem dX7_safe_120 : decode cX7_safe 120 = .ok (.iload 4, 2) := by decide +kernel
theorem dX7_safe_122 : decode cX7_safe 122 = .ok (.ireturn, 1) := by decide +kernel
theorem dX7_bestAlone_0 : decode cX7_bestAlone 0 = .ok (.aload_n 0, 1) := by decide +kernel
theorem dX7_bestAlone_1 : decode cX7_bestAlone 1 = .ok (.getfield 26, 3) := by decide +kernel
theorem dX7_bestAlone_4 : decode cX7_bestAlone 4 = .ok (.iload_n 1, 1) := by decide +kernel
theorem dX7_bestAlone_5 : decode cX7_bestAlone 5 = .ok (.invokevirtual 153, 3) := by decide +kernel
theorem dX7_bestAlone_8 : decode cX7_bestAlone 8 = .ok (.ifCond .eq 12, 3) := by decide +kernel
theorem dX7_bestAlone_11 : decode cX7_bestAlone 11 = .ok (.iload_n 2, 1) := by decide +kernel
theorem dX7_bestAlone_12 : decode cX7_bestAlone 12 = .ok (.ifCond .lt 8, 3) := by decide +kernel
theorem dX7_bestAlone_15 : decode cX7_bestAlone 15 = .ok (.iload_n 2, 1) := by decide +kernel
theorem dX7_bestAlone_16 : decode cX7_bestAlone 16 = .ok (.iconst 4, 1) := by decide +kernel
theorem dX7_bestAlone_17 : decode cX7_bestAlone 17 = .ok (.if_icmp .lt 6, 3) := by decide +kernel
theorem dX7_bestAlone_20 : decode cX7_bestAlone 20 = .ok (.ldc 87, 2) := by decide +kernel
theorem dX7_bestAlone_22 : decode cX7_bestAlone 22 = .ok (.ireturn, 1) := by decide +kernel
theorem dX7_bestAlone_23 : decode cX7_bestAlone 23 = .ok (.aload_n 0, 1) := by decide +kernel
theorem dX7_bestAlone_24 : decode cX7_bestAlone 24 = .ok (.getfield 26, 3) := by decide +kernel
theorem dX7_bestAlone_27 : decode cX7_bestAlone 27 = .ok (.iload_n 1, 1) := by decide +kernel
theorem dX7_bestAlone_28 : decode cX7_bestAlone 28 = .ok (.invokevirtual 160, 3) := by decide +kernel
theorem dX7_bestAlone_31 : decode cX7_bestAlone 31 = .ok (.ifCond .ne 6, 3) := by decide +kernel
theorem dX7_bestAlone_34 : decode cX7_bestAlone 34 = .ok (.ldc 152, 2) := by decide +kernel
theorem dX7_bestAlone_36 : decode cX7_bestAlone 36 = .ok (.ireturn, 1) := by decide +kernel
theorem dX7_bestAlone_37 : decode cX7_bestAlone 37 = .ok (.aload_n 0, 1) := by decide +kernel
theorem dX7_bestAlone_38 : decode cX7_bestAlone 38 = .ok (.getfield 69, 3) := by decide +kernel
theorem dX7_bestAlone_41 : decode cX7_bestAlone 41 = .ok (.ldc 227, 2) := by decide +kernel
theorem dX7_bestAlone_43 : decode cX7_bestAlone 43 = .ok (.invokestatic 247, 3) := by decide +kernel
theorem dX7_bestAlone_46 : decode cX7_bestAlone 46 = .ok (.iconst 0, 1) := by decide +kernel
theorem dX7_bestAlone_47 : decode cX7_bestAlone 47 = .ok (.istore_n 3, 1) := by decide +kernel
theorem dX7_bestAlone_48 : decode cX7_bestAlone 48 = .ok (.iload_n 3, 1) := by decide +kernel
theorem dX7_bestAlone_49 : decode cX7_bestAlone 49 = .ok (.aload_n 0, 1) := by decide +kernel
theorem dX7_bestAlone_50 : decode cX7_bestAlone 50 = .ok (.getfield 26, 3) := by decide +kernel
theorem dX7_bestAlone_53 : decode cX7_bestAlone 53 = .ok (.getfield 139, 3) := by decide +kernel
theorem dX7_bestAlone_56 : decode cX7_bestAlone 56 = .ok (.if_icmp .ge 72, 3) := by decide +kernel
theorem dX7_bestAlone_59 : decode cX7_bestAlone 59 = .ok (.iconst 1, 1) := by decide +kernel
theorem dX7_bestAlone_60 : decode cX7_bestAlone 60 = .ok (.istore 4, 2) := by decide +kernel
theorem dX7_bestAlone_62 : decode cX7_bestAlone 62 = .ok (.iconst 1, 1) := by decide +kernel
theorem dX7_bestAlone_63 : decode cX7_bestAlone 63 = .ok (.istore 5, 2) := by decide +kernel
theorem dX7_bestAlone_65 : decode cX7_bestAlone 65 = .ok (.iload 5, 2) := by decide +kernel
theorem dX7_bestAlone_67 : decode cX7_bestAlone 67 = .ok (.bipush 20, 2) := by decide +kernel
theorem dX7_bestAlone_69 : decode cX7_bestAlone 69 = .ok (.if_icmp .gt 53, 3) := by decide +kernel
theorem dX7_bestAlone_72 : decode cX7_bestAlone 72 = .ok (.iload 4, 2) := by decide +kernel
theorem dX7_bestAlone_74 : decode cX7_bestAlone 74 = .ok (.ifCond .eq 48, 3) := by decide +kernel
theorem dX7_bestAlone_77 : decode cX7_bestAlone 77 = .ok (.aload_n 0, 1) := by decide +kernel
theorem dX7_bestAlone_78 : decode cX7_bestAlone 78 = .ok (.iload_n 1, 1) := by decide +kernel
theorem dX7_bestAlone_79 : decode cX7_bestAlone 79 = .ok (.iload_n 3, 1) := by decide +kernel
theorem dX7_bestAlone_80 : decode cX7_bestAlone 80 = .ok (.iload 5, 2) := by decide +kernel
theorem dX7_bestAlone_82 : decode cX7_bestAlone 82 = .ok (.iconst 0, 1) := by decide +kernel
theorem dX7_bestAlone_83 : decode cX7_bestAlone 83 = .ok (.invokevirtual 253, 3) := by decide +kernel
theorem dX7_bestAlone_86 : decode cX7_bestAlone 86 = .ok (.istore 6, 2) := by decide +kernel
theorem dX7_bestAlone_88 : decode cX7_bestAlone 88 = .ok (.aload_n 0, 1) := by decide +kernel
theorem dX7_bestAlone_89 : decode cX7_bestAlone 89 = .ok (.iload_n 1, 1) := by decide +kernel
theorem dX7_bestAlone_90 : decode cX7_bestAlone 90 = .ok (.iload_n 3, 1) := by decide +kernel
theorem dX7_bestAlone_91 : decode cX7_bestAlone 91 = .ok (.iload 5, 2) := by decide +kernel
theorem dX7_bestAlone_93 : decode cX7_bestAlone 93 = .ok (.iconst 1, 1) := by decide +kernel
theorem dX7_bestAlone_94 : decode cX7_bestAlone 94 = .ok (.invokevirtual 253, 3) := by decide +kernel
theorem dX7_bestAlone_97 : decode cX7_bestAlone 97 = .ok (.istore 7, 2) := by decide +kernel
theorem dX7_bestAlone_99 : decode cX7_bestAlone 99 = .ok (.iload 6, 2) := by decide +kernel
theorem dX7_bestAlone_101 : decode cX7_bestAlone 101 = .ok (.ifCond .ne 8, 3) := by decide +kernel
theorem dX7_bestAlone_104 : decode cX7_bestAlone 104 = .ok (.iload 7, 2) := by decide +kernel
theorem dX7_bestAlone_106 : decode cX7_bestAlone 106 = .ok (.ifCond .eq 7, 3) := by decide +kernel
theorem dX7_bestAlone_109 : decode cX7_bestAlone 109 = .ok (.iconst 1, 1) := by decide +kernel
theorem dX7_bestAlone_110 : decode cX7_bestAlone 110 = .ok (.goto 4, 3) := by decide +kernel
theorem dX7_bestAlone_113 : decode cX7_bestAlone 113 = .ok (.iconst 0, 1) := by decide +kernel
theorem dX7_bestAlone_114 : decode cX7_bestAlone 114 = .ok (.istore 4, 2) := by decide +kernel
theorem dX7_bestAlone_116 : decode cX7_bestAlone 116 = .ok (.iinc 5 1, 3) := by decide +kernel
theorem dX7_bestAlone_119 : decode cX7_bestAlone 119 = .ok (.goto (-54), 3) := by decide +kernel
theorem dX7_bestAlone_122 : decode cX7_bestAlone 122 = .ok (.iinc 3 1, 3) := by decide +kernel
theorem dX7_bestAlone_125 : decode cX7_bestAlone 125 = .ok (.goto (-77), 3) := by decide +kernel
theorem dX7_bestAlone_128 : decode cX7_bestAlone 128 = .ok (.aload_n 0, 1) := by decide +kernel
theorem dX7_bestAlone_129 : decode cX7_bestAlone 129 = .ok (.getfield 69, 3) := by decide +kernel
theorem dX7_bestAlone_132 : decode cX7_bestAlone 132 = .ok (.iload_n 2, 1) := by decide +kernel
theorem dX7_bestAlone_133 : decode cX7_bestAlone 133 = .ok (.iaload, 1) := by decide +kernel
theorem dX7_bestAlone_134 : decode cX7_bestAlone 134 = .ok (.ireturn, 1) := by decide +kernel
theorem dX7_watch_0 : decode cX7_watch 0 = .ok (.aload_n 0, 1) := by decide +kernel
theorem dX7_watch_1 : decode cX7_watch 1 = .ok (.getfield 26, 3) := by decide +kernel
theorem dX7_watch_4 : decode cX7_watch 4 = .ok (.iload_n 1, 1) := by decide +kernel
theorem dX7_watch_5 : decode cX7_watch 5 = .ok (.invokevirtual 153, 3) := by decide +kernel
theorem dX7_watch_8 : decode cX7_watch 8 = .ok (.ifCond .ne 6, 3) := by decide +kernel
theorem dX7_watch_11 : decode cX7_watch 11 = .ok (.ldc 87, 2) := by decide +kernel
theorem dX7_watch_13 : decode cX7_watch 13 = .ok (.ireturn, 1) := by decide +kernel
theorem dX7_watch_14 : decode cX7_watch 14 = .ok (.aload_n 0, 1) := by decide +kernel
theorem dX7_watch_15 : decode cX7_watch 15 = .ok (.getfield 26, 3) := by decide +kernel
theorem dX7_watch_18 : decode cX7_watch 18 = .ok (.iload_n 1, 1) := by decide +kernel
theorem dX7_watch_19 : decode cX7_watch 19 = .ok (.invokevirtual 163, 3) := by decide +kernel
theorem dX7_watch_22 : decode cX7_watch 22 = .ok (.ifCond .ne 6, 3) := by decide +kernel
theorem dX7_watch_25 : decode cX7_watch 25 = .ok (.ldc 152, 2) := by decide +kernel
theorem dX7_watch_27 : decode cX7_watch 27 = .ok (.ireturn, 1) := by decide +kernel
theorem dX7_watch_28 : decode cX7_watch 28 = .ok (.aload_n 0, 1) := by decide +kernel
theorem dX7_watch_29 : decode cX7_watch 29 = .ok (.bipush 15, 2) := by decide +kernel
theorem dX7_watch_31 : decode cX7_watch 31 = .ok (.invokevirtual 179, 3) := by decide +kernel
theorem dX7_watch_34 : decode cX7_watch 34 = .ok (.aload_n 0, 1) := by decide +kernel
theorem dX7_watch_35 : decode cX7_watch 35 = .ok (.getfield 51, 3) := by decide +kernel
theorem dX7_watch_38 : decode cX7_watch 38 = .ok (.invokevirtual 186, 3) := by decide +kernel
theorem dX7_watch_41 : decode cX7_watch 41 = .ok (.istore_n 2, 1) := by decide +kernel
theorem dX7_watch_42 : decode cX7_watch 42 = .ok (.aload_n 0, 1) := by decide +kernel
theorem dX7_watch_43 : decode cX7_watch 43 = .ok (.getfield 51, 3) := by decide +kernel
theorem dX7_watch_46 : decode cX7_watch 46 = .ok (.bipush 15, 2) := by decide +kernel
theorem dX7_watch_48 : decode cX7_watch 48 = .ok (.iconst 1, 1) := by decide +kernel
theorem dX7_watch_49 : decode cX7_watch 49 = .ok (.iload_n 1, 1) := by decide +kernel
theorem dX7_watch_50 : decode cX7_watch 50 = .ok (.ishl, 1) := by decide +kernel
theorem dX7_watch_51 : decode cX7_watch 51 = .ok (.iconst (-1), 1) := by decide +kernel
theorem dX7_watch_52 : decode cX7_watch 52 = .ok (.ixor, 1) := by decide +kernel
theorem dX7_watch_53 : decode cX7_watch 53 = .ok (.iand, 1) := by decide +kernel
theorem dX7_watch_54 : decode cX7_watch 54 = .ok (.invokevirtual 257, 3) := by decide +kernel
theorem dX7_watch_57 : decode cX7_watch 57 = .ok (.aload_n 0, 1) := by decide +kernel
theorem dX7_watch_58 : decode cX7_watch 58 = .ok (.getfield 51, 3) := by decide +kernel
theorem dX7_watch_61 : decode cX7_watch 61 = .ok (.iconst 0, 1) := by decide +kernel
theorem dX7_watch_62 : decode cX7_watch 62 = .ok (.putfield 260, 3) := by decide +kernel
theorem dX7_watch_65 : decode cX7_watch 65 = .ok (.aload_n 0, 1) := by decide +kernel
theorem dX7_watch_66 : decode cX7_watch 66 = .ok (.getfield 51, 3) := by decide +kernel
theorem dX7_watch_69 : decode cX7_watch 69 = .ok (.invokevirtual 263, 3) := by decide +kernel
theorem dX7_watch_72 : decode cX7_watch 72 = .ok (.aload_n 0, 1) := by decide +kernel
theorem dX7_watch_73 : decode cX7_watch 73 = .ok (.getfield 51, 3) := by decide +kernel
theorem dX7_watch_76 : decode cX7_watch 76 = .ok (.invokevirtual 186, 3) := by decide +kernel
theorem dX7_watch_79 : decode cX7_watch 79 = .ok (.iload_n 2, 1) := by decide +kernel
theorem dX7_watch_80 : decode cX7_watch 80 = .ok (.isub, 1) := by decide +kernel
theorem dX7_watch_81 : decode cX7_watch 81 = .ok (.ireturn, 1) := by decide +kernel
theorem dX7_days_0 : decode cX7_days 0 = .ok (.aload_n 0, 1) := by decide +kernel
theorem dX7_days_1 : decode cX7_days 1 = .ok (.iload_n 1, 1) := by decide +kernel
theorem dX7_days_2 : decode cX7_days 2 = .ok (.iload_n 2, 1) := by decide +kernel
theorem dX7_days_3 : decode cX7_days 3 = .ok (.iload_n 3, 1) := by decide +kernel
theorem dX7_days_4 : decode cX7_days 4 = .ok (.invokevirtual 266, 3) := by decide +kernel
theorem dX7_days_7 : decode cX7_days 7 = .ok (.istore 4, 2) := by decide +kernel
theorem dX7_days_9 : decode cX7_days 9 = .ok (.iload 4, 2) := by decide +kernel
theorem dX7_days_11 : decode cX7_days 11 = .ok (.ifCond .eq 8, 3) := by decide +kernel
theorem dX7_days_14 : decode cX7_days 14 = .ok (.iload 4, 2) := by decide +kernel
theorem dX7_days_16 : decode cX7_days 16 = .ok (.goto 10, 3) := by decide +kernel
theorem dX7_days_19 : decode cX7_days 19 = .ok (.aload_n 0, 1) := by decide +kernel
theorem dX7_days_20 : decode cX7_days 20 = .ok (.getfield 65, 3) := by decide +kernel
theorem dX7_days_23 : decode cX7_days 23 = .ok (.getfield 269, 3) := by decide +kernel
theorem dX7_days_26 : decode cX7_days 26 = .ok (.ireturn, 1) := by decide +kernel
theorem dX7_daysValue_0 : decode cX7_daysValue 0 = .ok (.iload 4, 2) := by decide +kernel
theorem dX7_daysValue_2 : decode cX7_daysValue 2 = .ok (.iconst (-1), 1) := by decide +kernel
theorem dX7_daysValue_3 : decode cX7_daysValue 3 = .ok (.if_icmp .lt 18, 3) := by decide +kernel
theorem dX7_daysValue_6 : decode cX7_daysValue 6 = .ok (.iload 4, 2) := by decide +kernel
theorem dX7_daysValue_8 : decode cX7_daysValue 8 = .ok (.bipush 6, 2) := by decide +kernel
theorem dX7_daysValue_10 : decode cX7_daysValue 10 = .ok (.if_icmp .ge 11, 3) := by decide +kernel
theorem dX7_daysValue_13 : decode cX7_daysValue 13 = .ok (.iload 5, 2) := by decide +kernel
theorem dX7_daysValue_15 : decode cX7_daysValue 15 = .ok (.invokestatic 196, 3) := by decide +kernel
theorem dX7_daysValue_18 : decode cX7_daysValue 18 = .ok (.ifCond .ne 7, 3) := by decide +kernel
theorem dX7_daysValue_21 : decode cX7_daysValue 21 = .ok (.ldc2_w 272, 3) := by decide +kernel
theorem dX7_daysValue_24 : decode cX7_daysValue 24 = .ok (.lreturn, 1) := by decide +kernel
theorem dX7_daysValue_25 : decode cX7_daysValue 25 = .ok (.aload_n 0, 1) := by decide +kernel
theorem dX7_daysValue_26 : decode cX7_daysValue 26 = .ok (.iload_n 1, 1) := by decide +kernel
theorem dX7_daysValue_27 : decode cX7_daysValue 27 = .ok (.iload_n 2, 1) := by decide +kernel
theorem dX7_daysValue_28 : decode cX7_daysValue 28 = .ok (.iload_n 3, 1) := by decide +kernel
theorem dX7_daysValue_29 : decode cX7_daysValue 29 = .ok (.invokevirtual 266, 3) := by decide +kernel
theorem dX7_daysValue_32 : decode cX7_daysValue 32 = .ok (.istore 6, 2) := by decide +kernel
theorem dX7_daysValue_34 : decode cX7_daysValue 34 = .ok (.iload 6, 2) := by decide +kernel
theorem dX7_daysValue_36 : decode cX7_daysValue 36 = .ok (.ifCond .eq 7, 3) := by decide +kernel
theorem dX7_daysValue_39 : decode cX7_daysValue 39 = .ok (.iload 6, 2) := by decide +kernel
theorem dX7_daysValue_41 : decode cX7_daysValue 41 = .ok (.i2l, 1) := by decide +kernel
theorem dX7_daysValue_42 : decode cX7_daysValue 42 = .ok (.lreturn, 1) := by decide +kernel
theorem dX7_daysValue_43 : decode cX7_daysValue 43 = .ok (.iload 4, 2) := by decide +kernel
theorem dX7_daysValue_45 : decode cX7_daysValue 45 = .ok (.ifCond .ge 26, 3) := by decide +kernel
theorem dX7_daysValue_48 : decode cX7_daysValue 48 = .ok (.iload 5, 2) := by decide +kernel
theorem dX7_daysValue_50 : decode cX7_daysValue 50 = .ok (.ifCond .ne 13, 3) := by decide +kernel
theorem dX7_daysValue_53 : decode cX7_daysValue 53 = .ok (.aload_n 0, 1) := by decide +kernel
theorem dX7_daysValue_54 : decode cX7_daysValue 54 = .ok (.getfield 65, 3) := by decide +kernel
theorem dX7_daysValue_57 : decode cX7_daysValue 57 = .ok (.getfield 274, 3) := by decide +kernel
theorem dX7_daysValue_60 : decode cX7_daysValue 60 = .ok (.goto 10, 3) := by decide +kernel
theorem dX7_daysValue_63 : decode cX7_daysValue 63 = .ok (.aload_n 0, 1) := by decide +kernel
theorem dX7_daysValue_64 : decode cX7_daysValue 64 = .ok (.getfield 65, 3) := by decide +kernel
theorem dX7_daysValue_67 : decode cX7_daysValue 67 = .ok (.getfield 278, 3) := by decide +kernel
theorem dX7_daysValue_70 : decode cX7_daysValue 70 = .ok (.lreturn, 1) := by decide +kernel
theorem dX7_daysValue_71 : decode cX7_daysValue 71 = .ok (.aload_n 0, 1) := by decide +kernel
theorem dX7_daysValue_72 : decode cX7_daysValue 72 = .ok (.getfield 65, 3) := by decide +kernel
theorem dX7_daysValue_75 : decode cX7_daysValue 75 = .ok (.iload 4, 2) := by decide +kernel
theorem dX7_daysValue_77 : decode cX7_daysValue 77 = .ok (.iload 5, 2) := by decide +kernel
theorem dX7_daysValue_79 : decode cX7_daysValue 79 = .ok (.ifCond .ne 7, 3) := by decide +kernel
theorem dX7_daysValue_82 : decode cX7_daysValue 82 = .ok (.iconst 1, 1) := by decide +kernel
theorem dX7_daysValue_83 : decode cX7_daysValue 83 = .ok (.goto 4, 3) := by decide +kernel
theorem dX7_daysValue_86 : decode cX7_daysValue 86 = .ok (.iconst 0, 1) := by decide +kernel
theorem dX7_daysValue_87 : decode cX7_daysValue 87 = .ok (.invokevirtual 281, 3) := by decide +kernel
theorem dX7_daysValue_90 : decode cX7_daysValue 90 = .ok (.lreturn, 1) := by decide +kernel
theorem dX7_shares_0 : decode cX7_shares 0 = .ok (.aload_n 0, 1) := by decide +kernel
theorem dX7_shares_1 : decode cX7_shares 1 = .ok (.iload_n 1, 1) := by decide +kernel
theorem dX7_shares_2 : decode cX7_shares 2 = .ok (.iload_n 2, 1) := by decide +kernel
theorem dX7_shares_3 : decode cX7_shares 3 = .ok (.aload_n 0, 1) := by decide +kernel
theorem dX7_shares_4 : decode cX7_shares 4 = .ok (.getfield 26, 3) := by decide +kernel
theorem dX7_shares_7 : decode cX7_shares 7 = .ok (.getfield 285, 3) := by decide +kernel
theorem dX7_shares_10 : decode cX7_shares 10 = .ok (.iconst 1, 1) := by decide +kernel
theorem dX7_shares_11 : decode cX7_shares 11 = .ok (.invokevirtual 288, 3) := by decide +kernel
theorem dX7_shares_14 : decode cX7_shares 14 = .ok (.istore_n 3, 1) := by decide +kernel
theorem dX7_shares_15 : decode cX7_shares 15 = .ok (.iload_n 3, 1) := by decide +kernel
theorem dX7_shares_16 : decode cX7_shares 16 = .ok (.ifCond .eq 5, 3) := by decide +kernel
theorem dX7_shares_19 : decode cX7_shares 19 = .ok (.iload_n 3, 1) := by decide +kernel
theorem dX7_shares_20 : decode cX7_shares 20 = .ok (.ireturn, 1) := by decide +kernel
theorem dX7_shares_21 : decode cX7_shares 21 = .ok (.aload_n 0, 1) := by decide +kernel
theorem dX7_shares_22 : decode cX7_shares 22 = .ok (.bipush 15, 2) := by decide +kernel
theorem dX7_shares_24 : decode cX7_shares 24 = .ok (.invokevirtual 179, 3) := by decide +kernel
theorem dX7_shares_27 : decode cX7_shares 27 = .ok (.iconst 1, 1) := by decide +kernel
theorem dX7_shares_28 : decode cX7_shares 28 = .ok (.aload_n 0, 1) := by decide +kernel
theorem dX7_shares_29 : decode cX7_shares 29 = .ok (.getfield 26, 3) := by decide +kernel
theorem dX7_shares_32 : decode cX7_shares 32 = .ok (.getfield 285, 3) := by decide +kernel
theorem dX7_shares_35 : decode cX7_shares 35 = .ok (.ishl, 1) := by decide +kernel
theorem dX7_shares_36 : decode cX7_shares 36 = .ok (.iconst 1, 1) := by decide +kernel
theorem dX7_shares_37 : decode cX7_shares 37 = .ok (.isub, 1) := by decide +kernel
theorem dX7_shares_38 : decode cX7_shares 38 = .ok (.istore 4, 2) := by decide +kernel
theorem dX7_shares_40 : decode cX7_shares 40 = .ok (.aload_n 0, 1) := by decide +kernel
theorem dX7_shares_41 : decode cX7_shares 41 = .ok (.getfield 12, 3) := by decide +kernel
theorem dX7_shares_44 : decode cX7_shares 44 = .ok (.iload_n 1, 1) := by decide +kernel
theorem dX7_shares_45 : decode cX7_shares 45 = .ok (.iload_n 2, 1) := by decide +kernel
theorem dX7_shares_46 : decode cX7_shares 46 = .ok (.iload 4, 2) := by decide +kernel
theorem dX7_shares_48 : decode cX7_shares 48 = .ok (.invokevirtual 292, 3) := by decide +kernel
theorem dX7_shares_51 : decode cX7_shares 51 = .ok (.aload_n 0, 1) := by decide +kernel
theorem dX7_shares_52 : decode cX7_shares 52 = .ok (.getfield 51, 3) := by decide +kernel
theorem dX7_shares_55 : decode cX7_shares 55 = .ok (.invokevirtual 186, 3) := by decide +kernel
theorem dX7_shares_58 : decode cX7_shares 58 = .ok (.i2l, 1) := by decide +kernel
theorem dX7_shares_59 : decode cX7_shares 59 = .ok (.lcmp, 1) := by decide +kernel
theorem dX7_shares_60 : decode cX7_shares 60 = .ok (.ifCond .eq 6, 3) := by decide +kernel
theorem dX7_shares_63 : decode cX7_shares 63 = .ok (.ldc 227, 2) := by decide +kernel
theorem dX7_shares_65 : decode cX7_shares 65 = .ok (.ireturn, 1) := by decide +kernel
theorem dX7_shares_66 : decode cX7_shares 66 = .ok (.iconst 1, 1) := by decide +kernel
theorem dX7_shares_67 : decode cX7_shares 67 = .ok (.istore 5, 2) := by decide +kernel
theorem dX7_shares_69 : decode cX7_shares 69 = .ok (.iload 5, 2) := by decide +kernel
theorem dX7_shares_71 : decode cX7_shares 71 = .ok (.iload 4, 2) := by decide +kernel
theorem dX7_shares_73 : decode cX7_shares 73 = .ok (.if_icmp .gt 41, 3) := by decide +kernel
theorem dX7_shares_76 : decode cX7_shares 76 = .ok (.aload_n 0, 1) := by decide +kernel
theorem dX7_shares_77 : decode cX7_shares 77 = .ok (.iload 5, 2) := by decide +kernel
theorem dX7_shares_79 : decode cX7_shares 79 = .ok (.invokevirtual 179, 3) := by decide +kernel
theorem dX7_shares_82 : decode cX7_shares 82 = .ok (.aload_n 0, 1) := by decide +kernel
theorem dX7_shares_83 : decode cX7_shares 83 = .ok (.getfield 51, 3) := by decide +kernel
theorem dX7_shares_86 : decode cX7_shares 86 = .ok (.invokevirtual 186, 3) := by decide +kernel
theorem dX7_shares_89 : decode cX7_shares 89 = .ok (.i2l, 1) := by decide +kernel
theorem dX7_shares_90 : decode cX7_shares 90 = .ok (.aload_n 0, 1) := by decide +kernel
theorem dX7_shares_91 : decode cX7_shares 91 = .ok (.getfield 12, 3) := by decide +kernel
theorem dX7_shares_94 : decode cX7_shares 94 = .ok (.iload_n 1, 1) := by decide +kernel
theorem dX7_shares_95 : decode cX7_shares 95 = .ok (.iload_n 2, 1) := by decide +kernel
theorem dX7_shares_96 : decode cX7_shares 96 = .ok (.iload 5, 2) := by decide +kernel
theorem dX7_shares_98 : decode cX7_shares 98 = .ok (.invokevirtual 292, 3) := by decide +kernel
theorem dX7_shares_101 : decode cX7_shares 101 = .ok (.lcmp, 1) := by decide +kernel
theorem dX7_shares_102 : decode cX7_shares 102 = .ok (.ifCond .le 6, 3) := by decide +kernel
theorem dX7_shares_105 : decode cX7_shares 105 = .ok (.iload 5, 2) := by decide +kernel
theorem dX7_shares_107 : decode cX7_shares 107 = .ok (.ireturn, 1) := by decide +kernel
theorem dX7_shares_108 : decode cX7_shares 108 = .ok (.iinc 5 1, 3) := by decide +kernel
theorem dX7_shares_111 : decode cX7_shares 111 = .ok (.goto (-42), 3) := by decide +kernel
theorem dX7_shares_114 : decode cX7_shares 114 = .ok (.iconst 0, 1) := by decide +kernel
theorem dX7_shares_115 : decode cX7_shares 115 = .ok (.ireturn, 1) := by decide +kernel
theorem dX7_bare_0 : decode cX7_bare 0 = .ok (.aload_n 0, 1) := by decide +kernel
theorem dX7_bare_1 : decode cX7_bare 1 = .ok (.getfield 26, 3) := by decide +kernel
theorem dX7_bare_4 : decode cX7_bare 4 = .ok (.getfield 172, 3) := by decide +kernel
theorem dX7_bare_7 : decode cX7_bare 7 = .ok (.ifCond .ne 6, 3) := by decide +kernel
theorem dX7_bare_10 : decode cX7_bare 10 = .ok (.ldc 152, 2) := by decide +kernel
theorem dX7_bare_12 : decode cX7_bare 12 = .ok (.ireturn, 1) := by decide +kernel
theorem dX7_bare_13 : decode cX7_bare 13 = .ok (.iload_n 1, 1) := by decide +kernel
theorem dX7_bare_14 : decode cX7_bare 14 = .ok (.invokestatic 196, 3) := by decide +kernel
theorem dX7_bare_17 : decode cX7_bare 17 = .ok (.ifCond .ne 6, 3) := by decide +kernel
theorem dX7_bare_20 : decode cX7_bare 20 = .ok (.ldc 87, 2) := by decide +kernel
theorem dX7_bare_22 : decode cX7_bare 22 = .ok (.ireturn, 1) := by decide +kernel
theorem dX7_bare_23 : decode cX7_bare 23 = .ok (.aload_n 0, 1) := by decide +kernel
theorem dX7_bare_24 : decode cX7_bare 24 = .ok (.getfield 51, 3) := by decide +kernel
theorem dX7_bare_27 : decode cX7_bare 27 = .ok (.bipush 15, 2) := by decide +kernel
theorem dX7_bare_29 : decode cX7_bare 29 = .ok (.invokevirtual 257, 3) := by decide +kernel
theorem dX7_bare_32 : decode cX7_bare 32 = .ok (.iconst 0, 1) := by decide +kernel
theorem dX7_bare_33 : decode cX7_bare 33 = .ok (.istore_n 2, 1) := by decide +kernel
theorem dX7_bare_34 : decode cX7_bare 34 = .ok (.iconst 0, 1) := by decide +kernel
theorem dX7_bare_35 : decode cX7_bare 35 = .ok (.istore_n 3, 1) := by decide +kernel
theorem dX7_bare_36 : decode cX7_bare 36 = .ok (.iload_n 3, 1) := by decide +kernel
theorem dX7_bare_37 : decode cX7_bare 37 = .ok (.bipush 40, 2) := by decide +kernel
theorem dX7_bare_39 : decode cX7_bare 39 = .ok (.if_icmp .gt 46, 3) := by decide +kernel
theorem dX7_bare_42 : decode cX7_bare 42 = .ok (.aload_n 0, 1) := by decide +kernel
theorem dX7_bare_43 : decode cX7_bare 43 = .ok (.getfield 51, 3) := by decide +kernel
theorem dX7_bare_46 : decode cX7_bare 46 = .ok (.invokevirtual 263, 3) := by decide +kernel
theorem dX7_bare_49 : decode cX7_bare 49 = .ok (.aload_n 0, 1) := by decide +kernel
theorem dX7_bare_50 : decode cX7_bare 50 = .ok (.getfield 51, 3) := by decide +kernel
theorem dX7_bare_53 : decode cX7_bare 53 = .ok (.invokevirtual 186, 3) := by decide +kernel
theorem dX7_bare_56 : decode cX7_bare 56 = .ok (.ifCond .ne 13, 3) := by decide +kernel
theorem dX7_bare_59 : decode cX7_bare 59 = .ok (.iload_n 1, 1) := by decide +kernel
theorem dX7_bare_60 : decode cX7_bare 60 = .ok (.ifCond .ne 7, 3) := by decide +kernel
theorem dX7_bare_63 : decode cX7_bare 63 = .ok (.iload_n 3, 1) := by decide +kernel
theorem dX7_bare_64 : decode cX7_bare 64 = .ok (.goto 4, 3) := by decide +kernel
theorem dX7_bare_67 : decode cX7_bare 67 = .ok (.iload_n 2, 1) := by decide +kernel
theorem dX7_bare_68 : decode cX7_bare 68 = .ok (.ireturn, 1) := by decide +kernel
theorem dX7_bare_69 : decode cX7_bare 69 = .ok (.iload_n 2, 1) := by decide +kernel
theorem dX7_bare_70 : decode cX7_bare 70 = .ok (.aload_n 0, 1) := by decide +kernel
theorem dX7_bare_71 : decode cX7_bare 71 = .ok (.getfield 51, 3) := by decide +kernel
theorem dX7_bare_74 : decode cX7_bare 74 = .ok (.invokevirtual 186, 3) := by decide +kernel
theorem dX7_bare_77 : decode cX7_bare 77 = .ok (.iadd, 1) := by decide +kernel
theorem dX7_bare_78 : decode cX7_bare 78 = .ok (.istore_n 2, 1) := by decide +kernel
theorem dX7_bare_79 : decode cX7_bare 79 = .ok (.iinc 3 1, 3) := by decide +kernel
theorem dX7_bare_82 : decode cX7_bare 82 = .ok (.goto (-46), 3) := by decide +kernel
theorem dX7_bare_85 : decode cX7_bare 85 = .ok (.ldc 227, 2) := by decide +kernel
theorem dX7_bare_87 : decode cX7_bare 87 = .ok (.ireturn, 1) := by decide +kernel
theorem dX7_who_0 : decode cX7_who 0 = .ok (.aload_n 0, 1) := by decide +kernel
theorem dX7_who_1 : decode cX7_who 1 = .ok (.iload_n 1, 1) := by decide +kernel
theorem dX7_who_2 : decode cX7_who 2 = .ok (.iload_n 2, 1) := by decide +kernel
theorem dX7_who_3 : decode cX7_who 3 = .ok (.aload_n 0, 1) := by decide +kernel
theorem dX7_who_4 : decode cX7_who 4 = .ok (.getfield 26, 3) := by decide +kernel
theorem dX7_who_7 : decode cX7_who 7 = .ok (.getfield 139, 3) := by decide +kernel
theorem dX7_who_10 : decode cX7_who 10 = .ok (.iload_n 3, 1) := by decide +kernel
theorem dX7_who_11 : decode cX7_who 11 = .ok (.invokestatic 196, 3) := by decide +kernel
theorem dX7_who_14 : decode cX7_who 14 = .ok (.invokevirtual 288, 3) := by decide +kernel
theorem dX7_who_17 : decode cX7_who 17 = .ok (.istore 4, 2) := by decide +kernel
theorem dX7_who_19 : decode cX7_who 19 = .ok (.iload 4, 2) := by decide +kernel
theorem dX7_who_21 : decode cX7_who 21 = .ok (.ifCond .eq 6, 3) := by decide +kernel
theorem dX7_who_24 : decode cX7_who 24 = .ok (.iload 4, 2) := by decide +kernel
theorem dX7_who_26 : decode cX7_who 26 = .ok (.ireturn, 1) := by decide +kernel
theorem dX7_who_27 : decode cX7_who 27 = .ok (.iconst 0, 1) := by decide +kernel
theorem dX7_who_28 : decode cX7_who 28 = .ok (.istore 5, 2) := by decide +kernel
theorem dX7_who_30 : decode cX7_who 30 = .ok (.ldc 227, 2) := by decide +kernel
theorem dX7_who_32 : decode cX7_who 32 = .ok (.istore 6, 2) := by decide +kernel
theorem dX7_who_34 : decode cX7_who 34 = .ok (.iconst 1, 1) := by decide +kernel
theorem dX7_who_35 : decode cX7_who 35 = .ok (.aload_n 0, 1) := by decide +kernel
theorem dX7_who_36 : decode cX7_who 36 = .ok (.getfield 26, 3) := by decide +kernel
theorem dX7_who_39 : decode cX7_who 39 = .ok (.getfield 285, 3) := by decide +kernel
theorem dX7_who_42 : decode cX7_who 42 = .ok (.ishl, 1) := by decide +kernel
theorem dX7_who_43 : decode cX7_who 43 = .ok (.iconst 1, 1) := by decide +kernel
theorem dX7_who_44 : decode cX7_who 44 = .ok (.isub, 1) := by decide +kernel
theorem dX7_who_45 : decode cX7_who 45 = .ok (.istore 7, 2) := by decide +kernel
theorem dX7_who_47 : decode cX7_who 47 = .ok (.iload 7, 2) := by decide +kernel
theorem dX7_who_49 : decode cX7_who 49 = .ok (.iconst 1, 1) := by decide +kernel
theorem dX7_who_50 : decode cX7_who 50 = .ok (.if_icmp .lt 46, 3) := by decide +kernel
theorem dX7_who_53 : decode cX7_who 53 = .ok (.aload_n 0, 1) := by decide +kernel
theorem dX7_who_54 : decode cX7_who 54 = .ok (.getfield 26, 3) := by decide +kernel
theorem dX7_who_57 : decode cX7_who 57 = .ok (.iload 7, 2) := by decide +kernel
theorem dX7_who_59 : decode cX7_who 59 = .ok (.invokevirtual 296, 3) := by decide +kernel
theorem dX7_who_62 : decode cX7_who 62 = .ok (.ifCond .ne 6, 3) := by decide +kernel
theorem dX7_who_65 : decode cX7_who 65 = .ok (.goto 25, 3) := by decide +kernel
theorem dX7_who_68 : decode cX7_who 68 = .ok (.aload_n 0, 1) := by decide +kernel
theorem dX7_who_69 : decode cX7_who 69 = .ok (.iload 7, 2) := by decide +kernel
theorem dX7_who_71 : decode cX7_who 71 = .ok (.invokevirtual 179, 3) := by decide +kernel
theorem dX7_who_74 : decode cX7_who 74 = .ok (.aload_n 0, 1) := by decide +kernel
theorem dX7_who_75 : decode cX7_who 75 = .ok (.iload_n 1, 1) := by decide +kernel
theorem dX7_who_76 : decode cX7_who 76 = .ok (.iload_n 2, 1) := by decide +kernel
theorem dX7_who_77 : decode cX7_who 77 = .ok (.invokevirtual 299, 3) := by decide +kernel
theorem dX7_who_80 : decode cX7_who 80 = .ok (.ifCond .eq 10, 3) := by decide +kernel
theorem dX7_who_83 : decode cX7_who 83 = .ok (.iinc 5 1, 3) := by decide +kernel
theorem dX7_who_86 : decode cX7_who 86 = .ok (.iload 7, 2) := by decide +kernel
theorem dX7_who_88 : decode cX7_who 88 = .ok (.istore 6, 2) := by decide +kernel
theorem dX7_who_90 : decode cX7_who 90 = .ok (.iinc 7 (-1), 3) := by decide +kernel
theorem dX7_who_93 : decode cX7_who 93 = .ok (.goto (-46), 3) := by decide +kernel
theorem dX7_who_96 : decode cX7_who 96 = .ok (.iload_n 3, 1) := by decide +kernel
theorem dX7_who_97 : decode cX7_who 97 = .ok (.ifCond .ne 8, 3) := by decide +kernel
theorem dX7_who_100 : decode cX7_who 100 = .ok (.iload 5, 2) := by decide +kernel
theorem dX7_who_102 : decode cX7_who 102 = .ok (.goto 5, 3) := by decide +kernel
theorem dX7_who_105 : decode cX7_who 105 = .ok (.iload 6, 2) := by decide +kernel
theorem dX7_who_107 : decode cX7_who 107 = .ok (.ireturn, 1) := by decide +kernel
theorem dX7_sleep_0 : decode cX7_sleep 0 = .ok (.iload_n 1, 1) := by decide +kernel
theorem dX7_sleep_1 : decode cX7_sleep 1 = .ok (.invokestatic 193, 3) := by decide +kernel
theorem dX7_sleep_4 : decode cX7_sleep 4 = .ok (.ifCond .eq 10, 3) := by decide +kernel
theorem dX7_sleep_7 : decode cX7_sleep 7 = .ok (.iload_n 2, 1) := by decide +kernel
theorem dX7_sleep_8 : decode cX7_sleep 8 = .ok (.invokestatic 196, 3) := by decide +kernel
theorem dX7_sleep_11 : decode cX7_sleep 11 = .ok (.ifCond .ne 6, 3) := by decide +kernel
theorem dX7_sleep_14 : decode cX7_sleep 14 = .ok (.ldc 87, 2) := by decide +kernel
theorem dX7_sleep_16 : decode cX7_sleep 16 = .ok (.ireturn, 1) := by decide +kernel
theorem dX7_sleep_17 : decode cX7_sleep 17 = .ok (.aload_n 0, 1) := by decide +kernel
theorem dX7_sleep_18 : decode cX7_sleep 18 = .ok (.getfield 58, 3) := by decide +kernel
theorem dX7_sleep_21 : decode cX7_sleep 21 = .ok (.iload_n 1, 1) := by decide +kernel
theorem dX7_sleep_22 : decode cX7_sleep 22 = .ok (.invokevirtual 303, 3) := by decide +kernel
theorem dX7_sleep_25 : decode cX7_sleep 25 = .ok (.istore_n 3, 1) := by decide +kernel
theorem dX7_sleep_26 : decode cX7_sleep 26 = .ok (.iload_n 3, 1) := by decide +kernel
theorem dX7_sleep_27 : decode cX7_sleep 27 = .ok (.ifCond .ne 6, 3) := by decide +kernel
theorem dX7_sleep_30 : decode cX7_sleep 30 = .ok (.ldc 227, 2) := by decide +kernel
theorem dX7_sleep_32 : decode cX7_sleep 32 = .ok (.ireturn, 1) := by decide +kernel
theorem dX7_sleep_33 : decode cX7_sleep 33 = .ok (.aload_n 0, 1) := by decide +kernel
theorem dX7_sleep_34 : decode cX7_sleep 34 = .ok (.getfield 58, 3) := by decide +kernel
theorem dX7_sleep_37 : decode cX7_sleep 37 = .ok (.iload_n 1, 1) := by decide +kernel
theorem dX7_sleep_38 : decode cX7_sleep 38 = .ok (.invokevirtual 306, 3) := by decide +kernel
theorem dX7_sleep_41 : decode cX7_sleep 41 = .ok (.istore 4, 2) := by decide +kernel
theorem dX7_sleep_43 : decode cX7_sleep 43 = .ok (.iload_n 2, 1) := by decide +kernel
theorem dX7_sleep_44 : decode cX7_sleep 44 = .ok (.ifCond .ne 8, 3) := by decide +kernel
theorem dX7_sleep_47 : decode cX7_sleep 47 = .ok (.iload 4, 2) := by decide +kernel
theorem dX7_sleep_49 : decode cX7_sleep 49 = .ok (.goto 4, 3) := by decide +kernel
theorem dX7_sleep_52 : decode cX7_sleep 52 = .ok (.iload_n 3, 1) := by decide +kernel
theorem dX7_sleep_53 : decode cX7_sleep 53 = .ok (.iload 4, 2) := by decide +kernel
theorem dX7_sleep_55 : decode cX7_sleep 55 = .ok (.i2l, 1) := by decide +kernel
theorem dX7_sleep_56 : decode cX7_sleep 56 = .ok (.iload_n 3, 1) := by decide +kernel
theorem dX7_sleep_57 : decode cX7_sleep 57 = .ok (.i2l, 1) := by decide +kernel
theorem dX7_sleep_58 : decode cX7_sleep 58 = .ok (.invokestatic 309, 3) := by decide +kernel
theorem dX7_sleep_61 : decode cX7_sleep 61 = .ok (.l2i, 1) := by decide +kernel
theorem dX7_sleep_62 : decode cX7_sleep 62 = .ok (.idiv, 1) := by decide +kernel
theorem dX7_sleep_63 : decode cX7_sleep 63 = .ok (.ireturn, 1) := by decide +kernel
theorem dX7_quietest_0 : decode cX7_quietest 0 = .ok (.aload_n 0, 1) := by decide +kernel
theorem dX7_quietest_1 : decode cX7_quietest 1 = .ok (.getfield 58, 3) := by decide +kernel
theorem dX7_quietest_4 : decode cX7_quietest 4 = .ok (.invokevirtual 313, 3) := by decide +kernel
theorem dX7_quietest_7 : decode cX7_quietest 7 = .ok (.ireturn, 1) := by decide +kernel
theorem dX7_image_0 : decode cX7_image 0 = .ok (.iload_n 1, 1) := by decide +kernel
theorem dX7_image_1 : decode cX7_image 1 = .ok (.ifCond .lt 8, 3) := by decide +kernel
theorem dX7_image_4 : decode cX7_image 4 = .ok (.iload_n 1, 1) := by decide +kernel
theorem dX7_image_5 : decode cX7_image 5 = .ok (.iconst 2, 1) := by decide +kernel
theorem dX7_image_6 : decode cX7_image 6 = .ok (.if_icmp .lt 6, 3) := by decide +kernel
theorem dX7_image_9 : decode cX7_image 9 = .ok (.ldc 87, 2) := by decide +kernel
theorem dX7_image_11 : decode cX7_image 11 = .ok (.ireturn, 1) := by decide +kernel
theorem dX7_image_12 : decode cX7_image 12 = .ok (.aload_n 0, 1) := by decide +kernel
theorem dX7_image_13 : decode cX7_image 13 = .ok (.getfield 26, 3) := by decide +kernel
theorem dX7_image_16 : decode cX7_image 16 = .ok (.getfield 172, 3) := by decide +kernel
theorem dX7_image_19 : decode cX7_image 19 = .ok (.ifCond .ne 6, 3) := by decide +kernel
theorem dX7_image_22 : decode cX7_image 22 = .ok (.ldc 152, 2) := by decide +kernel
theorem dX7_image_24 : decode cX7_image 24 = .ok (.ireturn, 1) := by decide +kernel
theorem dX7_image_25 : decode cX7_image 25 = .ok (.aload_n 0, 1) := by decide +kernel
theorem dX7_image_26 : decode cX7_image 26 = .ok (.iload_n 1, 1) := by decide +kernel
theorem dX7_image_27 : decode cX7_image 27 = .ok (.invokevirtual 316, 3) := by decide +kernel
theorem dX7_image_30 : decode cX7_image 30 = .ok (.aload_n 0, 1) := by decide +kernel
theorem dX7_image_31 : decode cX7_image 31 = .ok (.getfield 26, 3) := by decide +kernel
theorem dX7_image_34 : decode cX7_image 34 = .ok (.invokevirtual 133, 3) := by decide +kernel
theorem dX7_image_37 : decode cX7_image 37 = .ok (.iconst 1, 1) := by decide +kernel
theorem dX7_image_38 : decode cX7_image 38 = .ok (.ireturn, 1) := by decide +kernel
theorem dX7_restore_0 : decode cX7_restore 0 = .ok (.iload_n 1, 1) := by decide +kernel
theorem dX7_restore_1 : decode cX7_restore 1 = .ok (.ifCond .lt 8, 3) := by decide +kernel
theorem dX7_restore_4 : decode cX7_restore 4 = .ok (.iload_n 1, 1) := by decide +kernel
theorem dX7_restore_5 : decode cX7_restore 5 = .ok (.iconst 2, 1) := by decide +kernel
theorem dX7_restore_6 : decode cX7_restore 6 = .ok (.if_icmp .lt 6, 3) := by decide +kernel
theorem dX7_restore_9 : decode cX7_restore 9 = .ok (.ldc 87, 2) := by decide +kernel
theorem dX7_restore_11 : decode cX7_restore 11 = .ok (.ireturn, 1) := by decide +kernel
theorem dX7_restore_12 : decode cX7_restore 12 = .ok (.aload_n 0, 1) := by decide +kernel
theorem dX7_restore_13 : decode cX7_restore 13 = .ok (.iload_n 1, 1) := by decide +kernel
theorem dX7_restore_14 : decode cX7_restore 14 = .ok (.invokevirtual 316, 3) := by decide +kernel
theorem dX7_restore_17 : decode cX7_restore 17 = .ok (.getfield 172, 3) := by decide +kernel
theorem dX7_restore_20 : decode cX7_restore 20 = .ok (.ifCond .ne 6, 3) := by decide +kernel
theorem dX7_restore_23 : decode cX7_restore 23 = .ok (.ldc 152, 2) := by decide +kernel
theorem dX7_restore_25 : decode cX7_restore 25 = .ok (.ireturn, 1) := by decide +kernel
theorem dX7_restore_26 : decode cX7_restore 26 = .ok (.aload_n 0, 1) := by decide +kernel
theorem dX7_restore_27 : decode cX7_restore 27 = .ok (.getfield 26, 3) := by decide +kernel
theorem dX7_restore_30 : decode cX7_restore 30 = .ok (.aload_n 0, 1) := by decide +kernel
theorem dX7_restore_31 : decode cX7_restore 31 = .ok (.iload_n 1, 1) := by decide +kernel
theorem dX7_restore_32 : decode cX7_restore 32 = .ok (.invokevirtual 316, 3) := by decide +kernel
theorem dX7_restore_35 : decode cX7_restore 35 = .ok (.invokevirtual 133, 3) := by decide +kernel
theorem dX7_restore_38 : decode cX7_restore 38 = .ok (.aload_n 0, 1) := by decide +kernel
theorem dX7_restore_39 : decode cX7_restore 39 = .ok (.getfield 42, 3) := by decide +kernel
theorem dX7_restore_42 : decode cX7_restore 42 = .ok (.invokevirtual 136, 3) := by decide +kernel
theorem dX7_restore_45 : decode cX7_restore 45 = .ok (.iconst 1, 1) := by decide +kernel
theorem dX7_restore_46 : decode cX7_restore 46 = .ok (.ireturn, 1) := by decide +kernel
theorem dX7_kind_0 : decode cX7_kind 0 = .ok (.aload_n 0, 1) := by decide +kernel
theorem dX7_kind_1 : decode cX7_kind 1 = .ok (.getfield 26, 3) := by decide +kernel
theorem dX7_kind_4 : decode cX7_kind 4 = .ok (.iload_n 1, 1) := by decide +kernel
theorem dX7_kind_5 : decode cX7_kind 5 = .ok (.invokevirtual 153, 3) := by decide +kernel
theorem dX7_kind_8 : decode cX7_kind 8 = .ok (.ifCond .eq 15, 3) := by decide +kernel
theorem dX7_kind_11 : decode cX7_kind 11 = .ok (.aload_n 0, 1) := by decide +kernel
theorem dX7_kind_12 : decode cX7_kind 12 = .ok (.getfield 26, 3) := by decide +kernel
theorem dX7_kind_15 : decode cX7_kind 15 = .ok (.getfield 320, 3) := by decide +kernel
theorem dX7_kind_18 : decode cX7_kind 18 = .ok (.iload_n 1, 1) := by decide +kernel
theorem dX7_kind_19 : decode cX7_kind 19 = .ok (.iaload, 1) := by decide +kernel
theorem dX7_kind_20 : decode cX7_kind 20 = .ok (.goto 5, 3) := by decide +kernel
theorem dX7_kind_23 : decode cX7_kind 23 = .ok (.ldc 87, 2) := by decide +kernel
theorem dX7_kind_25 : decode cX7_kind 25 = .ok (.ireturn, 1) := by decide +kernel
theorem dX7_as_0 : decode cX7_as 0 = .ok (.aload_n 0, 1) := by decide +kernel
theorem dX7_as_1 : decode cX7_as 1 = .ok (.getfield 26, 3) := by decide +kernel
theorem dX7_as_4 : decode cX7_as 4 = .ok (.iload_n 1, 1) := by decide +kernel
theorem dX7_as_5 : decode cX7_as 5 = .ok (.invokevirtual 153, 3) := by decide +kernel
theorem dX7_as_8 : decode cX7_as 8 = .ok (.ifCond .eq 13, 3) := by decide +kernel
theorem dX7_as_11 : decode cX7_as 11 = .ok (.iload_n 2, 1) := by decide +kernel
theorem dX7_as_12 : decode cX7_as 12 = .ok (.ifCond .lt 9, 3) := by decide +kernel
theorem dX7_as_15 : decode cX7_as 15 = .ok (.iload_n 2, 1) := by decide +kernel
theorem dX7_as_16 : decode cX7_as 16 = .ok (.bipush 6, 2) := by decide +kernel
theorem dX7_as_18 : decode cX7_as 18 = .ok (.if_icmp .lt 6, 3) := by decide +kernel
theorem dX7_as_21 : decode cX7_as 21 = .ok (.ldc 87, 2) := by decide +kernel
theorem dX7_as_23 : decode cX7_as 23 = .ok (.ireturn, 1) := by decide +kernel
theorem dX7_as_24 : decode cX7_as 24 = .ok (.aload_n 0, 1) := by decide +kernel
theorem dX7_as_25 : decode cX7_as 25 = .ok (.getfield 26, 3) := by decide +kernel
theorem dX7_as_28 : decode cX7_as 28 = .ok (.getfield 320, 3) := by decide +kernel
theorem dX7_as_31 : decode cX7_as 31 = .ok (.iload_n 1, 1) := by decide +kernel
theorem dX7_as_32 : decode cX7_as 32 = .ok (.iaload, 1) := by decide +kernel
theorem dX7_as_33 : decode cX7_as 33 = .ok (.iload_n 2, 1) := by decide +kernel
theorem dX7_as_34 : decode cX7_as 34 = .ok (.invokestatic 323, 3) := by decide +kernel
theorem dX7_as_37 : decode cX7_as 37 = .ok (.ifCond .eq 11, 3) := by decide +kernel
theorem dX7_as_40 : decode cX7_as 40 = .ok (.aload_n 0, 1) := by decide +kernel
theorem dX7_as_41 : decode cX7_as 41 = .ok (.iload_n 1, 1) := by decide +kernel
theorem dX7_as_42 : decode cX7_as 42 = .ok (.invokevirtual 96, 3) := by decide +kernel
theorem dX7_as_45 : decode cX7_as 45 = .ok (.goto 8, 3) := by decide +kernel
theorem dX7_as_48 : decode cX7_as 48 = .ok (.aload_n 0, 1) := by decide +kernel
theorem dX7_as_49 : decode cX7_as 49 = .ok (.iconst 3, 1) := by decide +kernel
theorem dX7_as_50 : decode cX7_as 50 = .ok (.invokevirtual 88, 3) := by decide +kernel
theorem dX7_as_53 : decode cX7_as 53 = .ok (.ireturn, 1) := by decide +kernel
theorem dX7_ask_0 : decode cX7_ask 0 = .ok (.aload_n 0, 1) := by decide +kernel
theorem dX7_ask_1 : decode cX7_ask 1 = .ok (.getfield 26, 3) := by decide +kernel
theorem dX7_ask_4 : decode cX7_ask 4 = .ok (.iload_n 1, 1) := by decide +kernel
theorem dX7_ask_5 : decode cX7_ask 5 = .ok (.invokevirtual 153, 3) := by decide +kernel
theorem dX7_ask_8 : decode cX7_ask 8 = .ok (.ifCond .eq 10, 3) := by decide +kernel
theorem dX7_ask_11 : decode cX7_ask 11 = .ok (.iload_n 2, 1) := by decide +kernel
theorem dX7_ask_12 : decode cX7_ask 12 = .ok (.invokestatic 196, 3) := by decide +kernel
theorem dX7_ask_15 : decode cX7_ask 15 = .ok (.ifCond .ne 6, 3) := by decide +kernel
theorem dX7_ask_18 : decode cX7_ask 18 = .ok (.ldc 87, 2) := by decide +kernel
theorem dX7_ask_20 : decode cX7_ask 20 = .ok (.ireturn, 1) := by decide +kernel
theorem dX7_ask_21 : decode cX7_ask 21 = .ok (.aload_n 0, 1) := by decide +kernel
theorem dX7_ask_22 : decode cX7_ask 22 = .ok (.iconst 0, 1) := by decide +kernel
theorem dX7_ask_23 : decode cX7_ask 23 = .ok (.putfield 76, 3) := by decide +kernel
theorem dX7_ask_26 : decode cX7_ask 26 = .ok (.aload_n 0, 1) := by decide +kernel
theorem dX7_ask_27 : decode cX7_ask 27 = .ok (.aload_n 0, 1) := by decide +kernel
theorem dX7_ask_28 : decode cX7_ask 28 = .ok (.iload_n 1, 1) := by decide +kernel
theorem dX7_ask_29 : decode cX7_ask 29 = .ok (.iload_n 2, 1) := by decide +kernel
theorem dX7_ask_30 : decode cX7_ask 30 = .ok (.invokevirtual 326, 3) := by decide +kernel
theorem dX7_ask_33 : decode cX7_ask 33 = .ok (.iload_n 1, 1) := by decide +kernel
theorem dX7_ask_34 : decode cX7_ask 34 = .ok (.iconst 0, 1) := by decide +kernel
theorem dX7_ask_35 : decode cX7_ask 35 = .ok (.invokevirtual 329, 3) := by decide +kernel
theorem dX7_ask_38 : decode cX7_ask 38 = .ok (.ireturn, 1) := by decide +kernel
theorem dX7_trace_0 : decode cX7_trace 0 = .ok (.iload_n 1, 1) := by decide +kernel
theorem dX7_trace_1 : decode cX7_trace 1 = .ok (.ifCond .lt 20, 3) := by decide +kernel
theorem dX7_trace_4 : decode cX7_trace 4 = .ok (.iload_n 1, 1) := by decide +kernel
theorem dX7_trace_5 : decode cX7_trace 5 = .ok (.aload_n 0, 1) := by decide +kernel
theorem dX7_trace_6 : decode cX7_trace 6 = .ok (.getfield 76, 3) := by decide +kernel
theorem dX7_trace_9 : decode cX7_trace 9 = .ok (.if_icmp .ge 12, 3) := by decide +kernel
theorem dX7_trace_12 : decode cX7_trace 12 = .ok (.aload_n 0, 1) := by decide +kernel
theorem dX7_trace_13 : decode cX7_trace 13 = .ok (.getfield 73, 3) := by decide +kernel
theorem dX7_trace_16 : decode cX7_trace 16 = .ok (.iload_n 1, 1) := by decide +kernel
theorem dX7_trace_17 : decode cX7_trace 17 = .ok (.iaload, 1) := by decide +kernel
theorem dX7_trace_18 : decode cX7_trace 18 = .ok (.goto 5, 3) := by decide +kernel
theorem dX7_trace_21 : decode cX7_trace 21 = .ok (.ldc 227, 2) := by decide +kernel
theorem dX7_trace_23 : decode cX7_trace 23 = .ok (.ireturn, 1) := by decide +kernel
theorem dX7_count_0 : decode cX7_count 0 = .ok (.iload_n 1, 1) := by decide +kernel
theorem dX7_count_1 : decode cX7_count 1 = .ok (.tableswitch 129 0 8 #[51, 59, 67, 75, 83, 94, 105, 113, 121], 51) := by decide +kernel
theorem dX7_count_52 : decode cX7_count 52 = .ok (.aload_n 0, 1) := by decide +kernel
theorem dX7_count_53 : decode cX7_count 53 = .ok (.getfield 12, 3) := by decide +kernel
theorem dX7_count_56 : decode cX7_count 56 = .ok (.invokevirtual 332, 3) := by decide +kernel
theorem dX7_count_59 : decode cX7_count 59 = .ok (.ireturn, 1) := by decide +kernel
theorem dX7_count_60 : decode cX7_count 60 = .ok (.aload_n 0, 1) := by decide +kernel
theorem dX7_count_61 : decode cX7_count 61 = .ok (.getfield 26, 3) := by decide +kernel
theorem dX7_count_64 : decode cX7_count 64 = .ok (.getfield 139, 3) := by decide +kernel
theorem dX7_count_67 : decode cX7_count 67 = .ok (.ireturn, 1) := by decide +kernel
theorem dX7_count_68 : decode cX7_count 68 = .ok (.aload_n 0, 1) := by decide +kernel
theorem dX7_count_69 : decode cX7_count 69 = .ok (.getfield 26, 3) := by decide +kernel
theorem dX7_count_72 : decode cX7_count 72 = .ok (.getfield 285, 3) := by decide +kernel
theorem dX7_count_75 : decode cX7_count 75 = .ok (.ireturn, 1) := by decide +kernel
theorem dX7_count_76 : decode cX7_count 76 = .ok (.aload_n 0, 1) := by decide +kernel
theorem dX7_count_77 : decode cX7_count 77 = .ok (.getfield 26, 3) := by decide +kernel
theorem dX7_count_80 : decode cX7_count 80 = .ok (.getfield 335, 3) := by decide +kernel
theorem dX7_count_83 : decode cX7_count 83 = .ok (.ireturn, 1) := by decide +kernel
theorem dX7_count_84 : decode cX7_count 84 = .ok (.aload_n 0, 1) := by decide +kernel
theorem dX7_count_85 : decode cX7_count 85 = .ok (.getfield 26, 3) := by decide +kernel
theorem dX7_count_88 : decode cX7_count 88 = .ok (.getfield 169, 3) := by decide +kernel
theorem dX7_count_91 : decode cX7_count 91 = .ok (.bipush 22, 2) := by decide +kernel
theorem dX7_count_93 : decode cX7_count 93 = .ok (.iaload, 1) := by decide +kernel
theorem dX7_count_94 : decode cX7_count 94 = .ok (.ireturn, 1) := by decide +kernel
theorem dX7_count_95 : decode cX7_count 95 = .ok (.aload_n 0, 1) := by decide +kernel
theorem dX7_count_96 : decode cX7_count 96 = .ok (.getfield 26, 3) := by decide +kernel
theorem dX7_count_99 : decode cX7_count 99 = .ok (.getfield 169, 3) := by decide +kernel
theorem dX7_count_102 : decode cX7_count 102 = .ok (.bipush 23, 2) := by decide +kernel
theorem dX7_count_104 : decode cX7_count 104 = .ok (.iaload, 1) := by decide +kernel
theorem dX7_count_105 : decode cX7_count 105 = .ok (.ireturn, 1) := by decide +kernel
theorem dX7_count_106 : decode cX7_count 106 = .ok (.aload_n 0, 1) := by decide +kernel
theorem dX7_count_107 : decode cX7_count 107 = .ok (.getfield 58, 3) := by decide +kernel
theorem dX7_count_110 : decode cX7_count 110 = .ok (.getfield 338, 3) := by decide +kernel
theorem dX7_count_113 : decode cX7_count 113 = .ok (.ireturn, 1) := by decide +kernel
theorem dX7_count_114 : decode cX7_count 114 = .ok (.aload_n 0, 1) := by decide +kernel
theorem dX7_count_115 : decode cX7_count 115 = .ok (.getfield 42, 3) := by decide +kernel
theorem dX7_count_118 : decode cX7_count 118 = .ok (.getfield 149, 3) := by decide +kernel
theorem dX7_count_121 : decode cX7_count 121 = .ok (.ireturn, 1) := by decide +kernel
theorem dX7_count_122 : decode cX7_count 122 = .ok (.aload_n 0, 1) := by decide +kernel
theorem dX7_count_123 : decode cX7_count 123 = .ok (.getfield 19, 3) := by decide +kernel
theorem dX7_count_126 : decode cX7_count 126 = .ok (.getfield 341, 3) := by decide +kernel
theorem dX7_count_129 : decode cX7_count 129 = .ok (.ireturn, 1) := by decide +kernel
theorem dX7_count_130 : decode cX7_count 130 = .ok (.ldc 87, 2) := by decide +kernel
theorem dX7_count_132 : decode cX7_count 132 = .ok (.ireturn, 1) := by decide +kernel
theorem dX7_status_0 : decode cX7_status 0 = .ok (.aload_n 0, 1) := by decide +kernel
theorem dX7_status_1 : decode cX7_status 1 = .ok (.getfield 80, 3) := by decide +kernel
theorem dX7_status_4 : decode cX7_status 4 = .ok (.ireturn, 1) := by decide +kernel
theorem dX7_found_0 : decode cX7_found 0 = .ok (.aload_n 0, 1) := by decide +kernel
theorem dX7_found_1 : decode cX7_found 1 = .ok (.iload_n 1, 1) := by decide +kernel
theorem dX7_found_2 : decode cX7_found 2 = .ok (.putfield 80, 3) := by decide +kernel
theorem dX7_found_5 : decode cX7_found 5 = .ok (.ldc_w 344, 3) := by decide +kernel
theorem dX7_found_8 : decode cX7_found 8 = .ok (.iload_n 1, 1) := by decide +kernel
theorem dX7_found_9 : decode cX7_found 9 = .ok (.isub, 1) := by decide +kernel
theorem dX7_found_10 : decode cX7_found 10 = .ok (.ireturn, 1) := by decide +kernel
theorem dX7_well_0 : decode cX7_well 0 = .ok (.aload_n 0, 1) := by decide +kernel
theorem dX7_well_1 : decode cX7_well 1 = .ok (.iconst 0, 1) := by decide +kernel
theorem dX7_well_2 : decode cX7_well 2 = .ok (.putfield 80, 3) := by decide +kernel
theorem dX7_well_5 : decode cX7_well 5 = .ok (.iload_n 1, 1) := by decide +kernel
theorem dX7_well_6 : decode cX7_well 6 = .ok (.ireturn, 1) := by decide +kernel
theorem dX7_isBit_0 : decode cX7_isBit 0 = .ok (.iload_n 0, 1) := by decide +kernel
theorem dX7_isBit_1 : decode cX7_isBit 1 = .ok (.ifCond .eq 8, 3) := by decide +kernel
theorem dX7_isBit_4 : decode cX7_isBit 4 = .ok (.iload_n 0, 1) := by decide +kernel
theorem dX7_isBit_5 : decode cX7_isBit 5 = .ok (.iconst 1, 1) := by decide +kernel
theorem dX7_isBit_6 : decode cX7_isBit 6 = .ok (.if_icmp .ne 7, 3) := by decide +kernel
theorem dX7_isBit_9 : decode cX7_isBit 9 = .ok (.iconst 1, 1) := by decide +kernel
theorem dX7_isBit_10 : decode cX7_isBit 10 = .ok (.goto 4, 3) := by decide +kernel
theorem dX7_isBit_13 : decode cX7_isBit 13 = .ok (.iconst 0, 1) := by decide +kernel
theorem dX7_isBit_14 : decode cX7_isBit 14 = .ok (.ireturn, 1) := by decide +kernel
theorem dX7_isHour_0 : decode cX7_isHour 0 = .ok (.iload_n 0, 1) := by decide +kernel
theorem dX7_isHour_1 : decode cX7_isHour 1 = .ok (.ifCond .lt 13, 3) := by decide +kernel
theorem dX7_isHour_4 : decode cX7_isHour 4 = .ok (.iload_n 0, 1) := by decide +kernel
theorem dX7_isHour_5 : decode cX7_isHour 5 = .ok (.bipush 24, 2) := by decide +kernel
theorem dX7_isHour_7 : decode cX7_isHour 7 = .ok (.if_icmp .ge 7, 3) := by decide +kernel
theorem dX7_isHour_10 : decode cX7_isHour 10 = .ok (.iconst 1, 1) := by decide +kernel
theorem dX7_isHour_11 : decode cX7_isHour 11 = .ok (.goto 4, 3) := by decide +kernel
theorem dX7_isHour_14 : decode cX7_isHour 14 = .ok (.iconst 0, 1) := by decide +kernel
theorem dX7_isHour_15 : decode cX7_isHour 15 = .ok (.ireturn, 1) := by decide +kernel
theorem dX7_isCell_0 : decode cX7_isCell 0 = .ok (.iload_n 0, 1) := by decide +kernel
theorem dX7_isCell_1 : decode cX7_isCell 1 = .ok (.ifCond .lt 13, 3) := by decide +kernel
theorem dX7_isCell_4 : decode cX7_isCell 4 = .ok (.iload_n 0, 1) := by decide +kernel
theorem dX7_isCell_5 : decode cX7_isCell 5 = .ok (.bipush 24, 2) := by decide +kernel
theorem dX7_isCell_7 : decode cX7_isCell 7 = .ok (.if_icmp .ge 7, 3) := by decide +kernel
theorem dX7_isCell_10 : decode cX7_isCell 10 = .ok (.iconst 1, 1) := by decide +kernel
theorem dX7_isCell_11 : decode cX7_isCell 11 = .ok (.goto 4, 3) := by decide +kernel
theorem dX7_isCell_14 : decode cX7_isCell 14 = .ok (.iconst 0, 1) := by decide +kernel
theorem dX7_isCell_15 : decode cX7_isCell 15 = .ok (.ireturn, 1) := by decide +kernel
theorem dX7_distance_0 : decode cX7_distance 0 = .ok (.iload_n 0, 1) := by decide +kernel
theorem dX7_distance_1 : decode cX7_distance 1 = .ok (.bipush 6, 2) := by decide +kernel
theorem dX7_distance_3 : decode cX7_distance 3 = .ok (.irem, 1) := by decide +kernel
theorem dX7_distance_4 : decode cX7_distance 4 = .ok (.iload_n 1, 1) := by decide +kernel
theorem dX7_distance_5 : decode cX7_distance 5 = .ok (.bipush 6, 2) := by decide +kernel
theorem dX7_distance_7 : decode cX7_distance 7 = .ok (.irem, 1) := by decide +kernel
theorem dX7_distance_8 : decode cX7_distance 8 = .ok (.isub, 1) := by decide +kernel
theorem dX7_distance_9 : decode cX7_distance 9 = .ok (.invokestatic 345, 3) := by decide +kernel
theorem dX7_distance_12 : decode cX7_distance 12 = .ok (.iload_n 0, 1) := by decide +kernel
theorem dX7_distance_13 : decode cX7_distance 13 = .ok (.bipush 6, 2) := by decide +kernel
theorem dX7_distance_15 : decode cX7_distance 15 = .ok (.idiv, 1) := by decide +kernel
theorem dX7_distance_16 : decode cX7_distance 16 = .ok (.iload_n 1, 1) := by decide +kernel
theorem dX7_distance_17 : decode cX7_distance 17 = .ok (.bipush 6, 2) := by decide +kernel
theorem dX7_distance_19 : decode cX7_distance 19 = .ok (.idiv, 1) := by decide +kernel
theorem dX7_distance_20 : decode cX7_distance 20 = .ok (.isub, 1) := by decide +kernel
theorem dX7_distance_21 : decode cX7_distance 21 = .ok (.invokestatic 345, 3) := by decide +kernel
theorem dX7_distance_24 : decode cX7_distance 24 = .ok (.iadd, 1) := by decide +kernel
theorem dX7_distance_25 : decode cX7_distance 25 = .ok (.ireturn, 1) := by decide +kernel
theorem dX7_commonPart_0 : decode cX7_commonPart 0 = .ok (.lload_n 0, 1) := by decide +kernel
theorem dX7_commonPart_1 : decode cX7_commonPart 1 = .ok (.invokestatic 350, 3) := by decide +kernel
theorem dX7_commonPart_4 : decode cX7_commonPart 4 = .ok (.lstore 4, 2) := by decide +kernel
theorem dX7_commonPart_6 : decode cX7_commonPart 6 = .ok (.lload_n 2, 1) := by decide +kernel
theorem dX7_commonPart_7 : decode cX7_commonPart 7 = .ok (.invokestatic 350, 3) := by decide +kernel
theorem dX7_commonPart_10 : decode cX7_commonPart 10 = .ok (.lstore 6, 2) := by decide +kernel
theorem dX7_commonPart_12 : decode cX7_commonPart 12 = .ok (.iconst 0, 1) := by decide +kernel
theorem dX7_commonPart_13 : decode cX7_commonPart 13 = .ok (.istore 8, 2) := by decide +kernel
theorem dX7_commonPart_15 : decode cX7_commonPart 15 = .ok (.iload 8, 2) := by decide +kernel
theorem dX7_commonPart_17 : decode cX7_commonPart 17 = .ok (.bipush 100, 2) := by decide +kernel
theorem dX7_commonPart_19 : decode cX7_commonPart 19 = .ok (.if_icmp .ge 31, 3) := by decide +kernel
theorem dX7_commonPart_22 : decode cX7_commonPart 22 = .ok (.lload 6, 2) := by decide +kernel
theorem dX7_commonPart_24 : decode cX7_commonPart 24 = .ok (.lconst 0, 1) := by decide +kernel
theorem dX7_commonPart_25 : decode cX7_commonPart 25 = .ok (.lcmp, 1) := by decide +kernel
theorem dX7_commonPart_26 : decode cX7_commonPart 26 = .ok (.ifCond .eq 24, 3) := by decide +kernel
theorem dX7_commonPart_29 : decode cX7_commonPart 29 = .ok (.lload 4, 2) := by decide +kernel
theorem dX7_commonPart_31 : decode cX7_commonPart 31 = .ok (.lload 6, 2) := by decide +kernel
theorem dX7_commonPart_33 : decode cX7_commonPart 33 = .ok (.lrem, 1) := by decide +kernel
theorem dX7_commonPart_34 : decode cX7_commonPart 34 = .ok (.lstore 9, 2) := by decide +kernel
theorem dX7_commonPart_36 : decode cX7_commonPart 36 = .ok (.lload 6, 2) := by decide +kernel
theorem dX7_commonPart_38 : decode cX7_commonPart 38 = .ok (.lstore 4, 2) := by decide +kernel
theorem dX7_commonPart_40 : decode cX7_commonPart 40 = .ok (.lload 9, 2) := by decide +kernel
theorem dX7_commonPart_42 : decode cX7_commonPart 42 = .ok (.lstore 6, 2) := by decide +kernel
theorem dX7_commonPart_44 : decode cX7_commonPart 44 = .ok (.iinc 8 1, 3) := by decide +kernel
theorem dX7_commonPart_47 : decode cX7_commonPart 47 = .ok (.goto (-32), 3) := by decide +kernel
theorem dX7_commonPart_50 : decode cX7_commonPart 50 = .ok (.lload 4, 2) := by decide +kernel
theorem dX7_commonPart_52 : decode cX7_commonPart 52 = .ok (.lconst 0, 1) := by decide +kernel
theorem dX7_commonPart_53 : decode cX7_commonPart 53 = .ok (.lcmp, 1) := by decide +kernel
theorem dX7_commonPart_54 : decode cX7_commonPart 54 = .ok (.ifCond .le 8, 3) := by decide +kernel
theorem dX7_commonPart_57 : decode cX7_commonPart 57 = .ok (.lload 4, 2) := by decide +kernel
theorem dX7_commonPart_59 : decode cX7_commonPart 59 = .ok (.goto 4, 3) := by decide +kernel
theorem dX7_commonPart_62 : decode cX7_commonPart 62 = .ok (.lconst 1, 1) := by decide +kernel
theorem dX7_commonPart_63 : decode cX7_commonPart 63 = .ok (.lreturn, 1) := by decide +kernel
theorem dX7_isPlan_0 : decode cX7_isPlan 0 = .ok (.iload_n 1, 1) := by decide +kernel
theorem dX7_isPlan_1 : decode cX7_isPlan 1 = .ok (.iconst (-1), 1) := by decide +kernel
theorem dX7_isPlan_2 : decode cX7_isPlan 2 = .ok (.if_icmp .ne 5, 3) := by decide +kernel
theorem dX7_isPlan_5 : decode cX7_isPlan 5 = .ok (.iconst 1, 1) := by decide +kernel
theorem dX7_isPlan_6 : decode cX7_isPlan 6 = .ok (.ireturn, 1) := by decide +kernel
theorem dX7_isPlan_7 : decode cX7_isPlan 7 = .ok (.aload_n 0, 1) := by decide +kernel
theorem dX7_isPlan_8 : decode cX7_isPlan 8 = .ok (.getfield 26, 3) := by decide +kernel
theorem dX7_isPlan_11 : decode cX7_isPlan 11 = .ok (.iload_n 1, 1) := by decide +kernel
theorem dX7_isPlan_12 : decode cX7_isPlan 12 = .ok (.invokevirtual 190, 3) := by decide +kernel
theorem dX7_isPlan_15 : decode cX7_isPlan 15 = .ok (.ifCond .eq 25, 3) := by decide +kernel
theorem dX7_isPlan_18 : decode cX7_isPlan 18 = .ok (.iload_n 2, 1) := by decide +kernel
theorem dX7_isPlan_19 : decode cX7_isPlan 19 = .ok (.iconst 1, 1) := by decide +kernel
theorem dX7_isPlan_20 : decode cX7_isPlan 20 = .ok (.if_icmp .lt 20, 3) := by decide +kernel
theorem dX7_isPlan_23 : decode cX7_isPlan 23 = .ok (.iload_n 2, 1) := by decide +kernel
theorem dX7_isPlan_24 : decode cX7_isPlan 24 = .ok (.bipush 20, 2) := by decide +kernel
theorem dX7_isPlan_26 : decode cX7_isPlan 26 = .ok (.if_icmp .gt 14, 3) := by decide +kernel
theorem dX7_isPlan_29 : decode cX7_isPlan 29 = .ok (.iload_n 3, 1) := by decide +kernel
theorem dX7_isPlan_30 : decode cX7_isPlan 30 = .ok (.invokestatic 196, 3) := by decide +kernel
theorem dX7_isPlan_33 : decode cX7_isPlan 33 = .ok (.ifCond .eq 7, 3) := by decide +kernel
theorem dX7_isPlan_36 : decode cX7_isPlan 36 = .ok (.iconst 1, 1) := by decide +kernel
theorem dX7_isPlan_37 : decode cX7_isPlan 37 = .ok (.goto 4, 3) := by decide +kernel
theorem dX7_isPlan_40 : decode cX7_isPlan 40 = .ok (.iconst 0, 1) := by decide +kernel
theorem dX7_isPlan_41 : decode cX7_isPlan 41 = .ok (.ireturn, 1) := by decide +kernel
theorem dX7_raidOf_0 : decode cX7_raidOf 0 = .ok (.aload_n 0, 1) := by decide +kernel
theorem dX7_raidOf_1 : decode cX7_raidOf 1 = .ok (.getfield 51, 3) := by decide +kernel
theorem dX7_raidOf_4 : decode cX7_raidOf 4 = .ok (.iload_n 1, 1) := by decide +kernel
theorem dX7_raidOf_5 : decode cX7_raidOf 5 = .ok (.invokevirtual 257, 3) := by decide +kernel
theorem dX7_raidOf_8 : decode cX7_raidOf 8 = .ok (.aload_n 0, 1) := by decide +kernel
theorem dX7_raidOf_9 : decode cX7_raidOf 9 = .ok (.getfield 51, 3) := by decide +kernel
theorem dX7_raidOf_12 : decode cX7_raidOf 12 = .ok (.invokevirtual 263, 3) := by decide +kernel
theorem dX7_raidOf_15 : decode cX7_raidOf 15 = .ok (.return_, 1) := by decide +kernel
theorem dX7_raidAlone_0 : decode cX7_raidAlone 0 = .ok (.aload_n 0, 1) := by decide +kernel
theorem dX7_raidAlone_1 : decode cX7_raidAlone 1 = .ok (.getfield 51, 3) := by decide +kernel
theorem dX7_raidAlone_4 : decode cX7_raidAlone 4 = .ok (.iconst 0, 1) := by decide +kernel
theorem dX7_raidAlone_5 : decode cX7_raidAlone 5 = .ok (.invokevirtual 257, 3) := by decide +kernel
theorem dX7_raidAlone_8 : decode cX7_raidAlone 8 = .ok (.aload_n 0, 1) := by decide +kernel
theorem dX7_raidAlone_9 : decode cX7_raidAlone 9 = .ok (.getfield 51, 3) := by decide +kernel
theorem dX7_raidAlone_12 : decode cX7_raidAlone 12 = .ok (.iload_n 1, 1) := by decide +kernel
theorem dX7_raidAlone_13 : decode cX7_raidAlone 13 = .ok (.iload_n 2, 1) := by decide +kernel
theorem dX7_raidAlone_14 : decode cX7_raidAlone 14 = .ok (.iload_n 3, 1) := by decide +kernel
theorem dX7_raidAlone_15 : decode cX7_raidAlone 15 = .ok (.iload 4, 2) := by decide +kernel
theorem dX7_raidAlone_17 : decode cX7_raidAlone 17 = .ok (.invokevirtual 353, 3) := by decide +kernel
theorem dX7_raidAlone_20 : decode cX7_raidAlone 20 = .ok (.aload_n 0, 1) := by decide +kernel
theorem dX7_raidAlone_21 : decode cX7_raidAlone 21 = .ok (.getfield 51, 3) := by decide +kernel
theorem dX7_raidAlone_24 : decode cX7_raidAlone 24 = .ok (.invokevirtual 263, 3) := by decide +kernel
theorem dX7_raidAlone_27 : decode cX7_raidAlone 27 = .ok (.return_, 1) := by decide +kernel
theorem dX7_compareAlone_0 : decode cX7_compareAlone 0 = .ok (.aload_n 0, 1) := by decide +kernel
theorem dX7_compareAlone_1 : decode cX7_compareAlone 1 = .ok (.iload_n 1, 1) := by decide +kernel
theorem dX7_compareAlone_2 : decode cX7_compareAlone 2 = .ok (.iload_n 2, 1) := by decide +kernel
theorem dX7_compareAlone_3 : decode cX7_compareAlone 3 = .ok (.iload_n 3, 1) := by decide +kernel
theorem dX7_compareAlone_4 : decode cX7_compareAlone 4 = .ok (.iload 4, 2) := by decide +kernel
theorem dX7_compareAlone_6 : decode cX7_compareAlone 6 = .ok (.invokevirtual 240, 3) := by decide +kernel
theorem dX7_compareAlone_9 : decode cX7_compareAlone 9 = .ok (.aload_n 0, 1) := by decide +kernel
theorem dX7_compareAlone_10 : decode cX7_compareAlone 10 = .ok (.getfield 51, 3) := by decide +kernel
theorem dX7_compareAlone_13 : decode cX7_compareAlone 13 = .ok (.iload_n 1, 1) := by decide +kernel
theorem dX7_compareAlone_14 : decode cX7_compareAlone 14 = .ok (.invokevirtual 234, 3) := by decide +kernel
theorem dX7_compareAlone_17 : decode cX7_compareAlone 17 = .ok (.ifCond .eq 54, 3) := by decide +kernel
theorem dX7_compareAlone_20 : decode cX7_compareAlone 20 = .ok (.aload_n 0, 1) := by decide +kernel
theorem dX7_compareAlone_21 : decode cX7_compareAlone 21 = .ok (.getfield 51, 3) := by decide +kernel
theorem dX7_compareAlone_24 : decode cX7_compareAlone 24 = .ok (.invokevirtual 186, 3) := by decide +kernel
theorem dX7_compareAlone_27 : decode cX7_compareAlone 27 = .ok (.aload_n 0, 1) := by decide +kernel
theorem dX7_compareAlone_28 : decode cX7_compareAlone 28 = .ok (.getfield 69, 3) := by decide +kernel
theorem dX7_compareAlone_31 : decode cX7_compareAlone 31 = .ok (.iconst 3, 1) := by decide +kernel
theorem dX7_compareAlone_32 : decode cX7_compareAlone 32 = .ok (.iaload, 1) := by decide +kernel
theorem dX7_compareAlone_33 : decode cX7_compareAlone 33 = .ok (.if_icmp .le 38, 3) := by decide +kernel
theorem dX7_compareAlone_36 : decode cX7_compareAlone 36 = .ok (.aload_n 0, 1) := by decide +kernel
theorem dX7_compareAlone_37 : decode cX7_compareAlone 37 = .ok (.getfield 69, 3) := by decide +kernel
theorem dX7_compareAlone_40 : decode cX7_compareAlone 40 = .ok (.iconst 0, 1) := by decide +kernel
theorem dX7_compareAlone_41 : decode cX7_compareAlone 41 = .ok (.iload_n 2, 1) := by decide +kernel
theorem dX7_compareAlone_42 : decode cX7_compareAlone 42 = .ok (.iastore, 1) := by decide +kernel
theorem dX7_compareAlone_43 : decode cX7_compareAlone 43 = .ok (.aload_n 0, 1) := by decide +kernel
theorem dX7_compareAlone_44 : decode cX7_compareAlone 44 = .ok (.getfield 69, 3) := by decide +kernel
theorem dX7_compareAlone_47 : decode cX7_compareAlone 47 = .ok (.iconst 1, 1) := by decide +kernel
theorem dX7_compareAlone_48 : decode cX7_compareAlone 48 = .ok (.iload_n 3, 1) := by decide +kernel
theorem dX7_compareAlone_49 : decode cX7_compareAlone 49 = .ok (.iastore, 1) := by decide +kernel
theorem dX7_compareAlone_50 : decode cX7_compareAlone 50 = .ok (.aload_n 0, 1) := by decide +kernel
theorem dX7_compareAlone_51 : decode cX7_compareAlone 51 = .ok (.getfield 69, 3) := by decide +kernel
theorem dX7_compareAlone_54 : decode cX7_compareAlone 54 = .ok (.iconst 2, 1) := by decide +kernel
theorem dX7_compareAlone_55 : decode cX7_compareAlone 55 = .ok (.iload 4, 2) := by decide +kernel
theorem dX7_compareAlone_57 : decode cX7_compareAlone 57 = .ok (.iastore, 1) := by decide +kernel
theorem dX7_compareAlone_58 : decode cX7_compareAlone 58 = .ok (.aload_n 0, 1) := by decide +kernel
theorem dX7_compareAlone_59 : decode cX7_compareAlone 59 = .ok (.getfield 69, 3) := by decide +kernel
theorem dX7_compareAlone_62 : decode cX7_compareAlone 62 = .ok (.iconst 3, 1) := by decide +kernel
theorem dX7_compareAlone_63 : decode cX7_compareAlone 63 = .ok (.aload_n 0, 1) := by decide +kernel
theorem dX7_compareAlone_64 : decode cX7_compareAlone 64 = .ok (.getfield 51, 3) := by decide +kernel
theorem dX7_compareAlone_67 : decode cX7_compareAlone 67 = .ok (.invokevirtual 186, 3) := by decide +kernel
theorem dX7_compareAlone_70 : decode cX7_compareAlone 70 = .ok (.iastore, 1) := by decide +kernel
theorem dX7_compareAlone_71 : decode cX7_compareAlone 71 = .ok (.aload_n 0, 1) := by decide +kernel
theorem dX7_compareAlone_72 : decode cX7_compareAlone 72 = .ok (.getfield 51, 3) := by decide +kernel
theorem dX7_compareAlone_75 : decode cX7_compareAlone 75 = .ok (.getfield 244, 3) := by decide +kernel
theorem dX7_compareAlone_78 : decode cX7_compareAlone 78 = .ok (.iload_n 1, 1) := by decide +kernel
theorem dX7_compareAlone_79 : decode cX7_compareAlone 79 = .ok (.iaload, 1) := by decide +kernel
theorem dX7_compareAlone_80 : decode cX7_compareAlone 80 = .ok (.iload_n 3, 1) := by decide +kernel
theorem dX7_compareAlone_81 : decode cX7_compareAlone 81 = .ok (.if_icmp .lt 7, 3) := by decide +kernel
theorem dX7_compareAlone_84 : decode cX7_compareAlone 84 = .ok (.iconst 1, 1) := by decide +kernel
theorem dX7_compareAlone_85 : decode cX7_compareAlone 85 = .ok (.goto 4, 3) := by decide +kernel
theorem dX7_compareAlone_88 : decode cX7_compareAlone 88 = .ok (.iconst 0, 1) := by decide +kernel
theorem dX7_compareAlone_89 : decode cX7_compareAlone 89 = .ok (.ireturn, 1) := by decide +kernel
theorem dX7_refusalOfDays_0 : decode cX7_refusalOfDays 0 = .ok (.iload_n 1, 1) := by decide +kernel
theorem dX7_refusalOfDays_1 : decode cX7_refusalOfDays 1 = .ok (.invokestatic 83, 3) := by decide +kernel
theorem dX7_refusalOfDays_4 : decode cX7_refusalOfDays 4 = .ok (.ifCond .eq 14, 3) := by decide +kernel
theorem dX7_refusalOfDays_7 : decode cX7_refusalOfDays 7 = .ok (.iload_n 3, 1) := by decide +kernel
theorem dX7_refusalOfDays_8 : decode cX7_refusalOfDays 8 = .ok (.iconst 1, 1) := by decide +kernel
theorem dX7_refusalOfDays_9 : decode cX7_refusalOfDays 9 = .ok (.if_icmp .lt 9, 3) := by decide +kernel
theorem dX7_refusalOfDays_12 : decode cX7_refusalOfDays 12 = .ok (.iload_n 3, 1) := by decide +kernel
theorem dX7_refusalOfDays_13 : decode cX7_refusalOfDays 13 = .ok (.bipush 20, 2) := by decide +kernel
theorem dX7_refusalOfDays_15 : decode cX7_refusalOfDays 15 = .ok (.if_icmp .le 6, 3) := by decide +kernel
theorem dX7_refusalOfDays_18 : decode cX7_refusalOfDays 18 = .ok (.ldc 87, 2) := by decide +kernel
theorem dX7_refusalOfDays_20 : decode cX7_refusalOfDays 20 = .ok (.ireturn, 1) := by decide +kernel
theorem dX7_refusalOfDays_21 : decode cX7_refusalOfDays 21 = .ok (.aload_n 0, 1) := by decide +kernel
theorem dX7_refusalOfDays_22 : decode cX7_refusalOfDays 22 = .ok (.getfield 12, 3) := by decide +kernel
theorem dX7_refusalOfDays_25 : decode cX7_refusalOfDays 25 = .ok (.iload_n 1, 1) := by decide +kernel
theorem dX7_refusalOfDays_26 : decode cX7_refusalOfDays 26 = .ok (.iload_n 2, 1) := by decide +kernel
theorem dX7_refusalOfDays_27 : decode cX7_refusalOfDays 27 = .ok (.bipush 6, 2) := by decide +kernel
theorem dX7_refusalOfDays_29 : decode cX7_refusalOfDays 29 = .ok (.invokevirtual 99, 3) := by decide +kernel
theorem dX7_refusalOfDays_32 : decode cX7_refusalOfDays 32 = .ok (.istore 4, 2) := by decide +kernel
theorem dX7_refusalOfDays_34 : decode cX7_refusalOfDays 34 = .ok (.iload 4, 2) := by decide +kernel
theorem dX7_refusalOfDays_36 : decode cX7_refusalOfDays 36 = .ok (.ifCond .eq 10, 3) := by decide +kernel
theorem dX7_refusalOfDays_39 : decode cX7_refusalOfDays 39 = .ok (.aload_n 0, 1) := by decide +kernel
theorem dX7_refusalOfDays_40 : decode cX7_refusalOfDays 40 = .ok (.iload 4, 2) := by decide +kernel
theorem dX7_refusalOfDays_42 : decode cX7_refusalOfDays 42 = .ok (.invokevirtual 88, 3) := by decide +kernel
theorem dX7_refusalOfDays_45 : decode cX7_refusalOfDays 45 = .ok (.ireturn, 1) := by decide +kernel
theorem dX7_refusalOfDays_46 : decode cX7_refusalOfDays 46 = .ok (.iconst 0, 1) := by decide +kernel
theorem dX7_refusalOfDays_47 : decode cX7_refusalOfDays 47 = .ok (.istore 5, 2) := by decide +kernel
theorem dX7_refusalOfDays_49 : decode cX7_refusalOfDays 49 = .ok (.iload 5, 2) := by decide +kernel
theorem dX7_refusalOfDays_51 : decode cX7_refusalOfDays 51 = .ok (.bipush 6, 2) := by decide +kernel
theorem dX7_refusalOfDays_53 : decode cX7_refusalOfDays 53 = .ok (.if_icmp .ge 52, 3) := by decide +kernel
theorem dX7_refusalOfDays_56 : decode cX7_refusalOfDays 56 = .ok (.aload_n 0, 1) := by decide +kernel
theorem dX7_refusalOfDays_57 : decode cX7_refusalOfDays 57 = .ok (.getfield 12, 3) := by decide +kernel
theorem dX7_refusalOfDays_60 : decode cX7_refusalOfDays 60 = .ok (.iload_n 1, 1) := by decide +kernel
theorem dX7_refusalOfDays_61 : decode cX7_refusalOfDays 61 = .ok (.iload_n 2, 1) := by decide +kernel
theorem dX7_refusalOfDays_62 : decode cX7_refusalOfDays 62 = .ok (.iload 5, 2) := by decide +kernel
theorem dX7_refusalOfDays_64 : decode cX7_refusalOfDays 64 = .ok (.iadd, 1) := by decide +kernel
theorem dX7_refusalOfDays_65 : decode cX7_refusalOfDays 65 = .ok (.invokevirtual 356, 3) := by decide +kernel
theorem dX7_refusalOfDays_68 : decode cX7_refusalOfDays 68 = .ok (.istore 6, 2) := by decide +kernel
theorem dX7_refusalOfDays_70 : decode cX7_refusalOfDays 70 = .ok (.iload 6, 2) := by decide +kernel
theorem dX7_refusalOfDays_72 : decode cX7_refusalOfDays 72 = .ok (.ifCond .lt 10, 3) := by decide +kernel
theorem dX7_refusalOfDays_75 : decode cX7_refusalOfDays 75 = .ok (.iload 6, 2) := by decide +kernel
theorem dX7_refusalOfDays_77 : decode cX7_refusalOfDays 77 = .ok (.bipush 20, 2) := by decide +kernel
theorem dX7_refusalOfDays_79 : decode cX7_refusalOfDays 79 = .ok (.if_icmp .le 6, 3) := by decide +kernel
theorem dX7_refusalOfDays_82 : decode cX7_refusalOfDays 82 = .ok (.ldc 87, 2) := by decide +kernel
theorem dX7_refusalOfDays_84 : decode cX7_refusalOfDays 84 = .ok (.ireturn, 1) := by decide +kernel
theorem dX7_refusalOfDays_85 : decode cX7_refusalOfDays 85 = .ok (.aload_n 0, 1) := by decide +kernel
theorem dX7_refusalOfDays_86 : decode cX7_refusalOfDays 86 = .ok (.getfield 65, 3) := by decide +kernel
theorem dX7_refusalOfDays_89 : decode cX7_refusalOfDays 89 = .ok (.getfield 359, 3) := by decide +kernel
theorem dX7_refusalOfDays_92 : decode cX7_refusalOfDays 92 = .ok (.iload 5, 2) := by decide +kernel
theorem dX7_refusalOfDays_94 : decode cX7_refusalOfDays 94 = .ok (.iload 6, 2) := by decide +kernel
theorem dX7_refusalOfDays_96 : decode cX7_refusalOfDays 96 = .ok (.iload_n 3, 1) := by decide +kernel
theorem dX7_refusalOfDays_97 : decode cX7_refusalOfDays 97 = .ok (.iadd, 1) := by decide +kernel
theorem dX7_refusalOfDays_98 : decode cX7_refusalOfDays 98 = .ok (.iastore, 1) := by decide +kernel
theorem dX7_refusalOfDays_99 : decode cX7_refusalOfDays 99 = .ok (.iinc 5 1, 3) := by decide +kernel
theorem dX7_refusalOfDays_102 : decode cX7_refusalOfDays 102 = .ok (.goto (-53), 3) := by decide +kernel
theorem dX7_refusalOfDays_105 : decode cX7_refusalOfDays 105 = .ok (.aload_n 0, 1) := by decide +kernel
theorem dX7_refusalOfDays_106 : decode cX7_refusalOfDays 106 = .ok (.getfield 65, 3) := by decide +kernel
theorem dX7_refusalOfDays_109 : decode cX7_refusalOfDays 109 = .ok (.iload_n 3, 1) := by decide +kernel
theorem dX7_refusalOfDays_110 : decode cX7_refusalOfDays 110 = .ok (.invokevirtual 362, 3) := by decide +kernel
theorem dX7_refusalOfDays_113 : decode cX7_refusalOfDays 113 = .ok (.aload_n 0, 1) := by decide +kernel
theorem dX7_refusalOfDays_114 : decode cX7_refusalOfDays 114 = .ok (.iconst 0, 1) := by decide +kernel
theorem dX7_refusalOfDays_115 : decode cX7_refusalOfDays 115 = .ok (.invokevirtual 96, 3) := by decide +kernel
theorem dX7_refusalOfDays_118 : decode cX7_refusalOfDays 118 = .ok (.ireturn, 1) := by decide +kernel
theorem dX7_refusalOfTold_0 : decode cX7_refusalOfTold 0 = .ok (.aload_n 0, 1) := by decide +kernel
theorem dX7_refusalOfTold_1 : decode cX7_refusalOfTold 1 = .ok (.getfield 26, 3) := by decide +kernel
theorem dX7_refusalOfTold_4 : decode cX7_refusalOfTold 4 = .ok (.getfield 172, 3) := by decide +kernel
theorem dX7_refusalOfTold_7 : decode cX7_refusalOfTold 7 = .ok (.ifCond .ne 6, 3) := by decide +kernel
theorem dX7_refusalOfTold_10 : decode cX7_refusalOfTold 10 = .ok (.ldc 152, 2) := by decide +kernel
theorem dX7_refusalOfTold_12 : decode cX7_refusalOfTold 12 = .ok (.ireturn, 1) := by decide +kernel
theorem dX7_refusalOfTold_13 : decode cX7_refusalOfTold 13 = .ok (.iload_n 1, 1) := by decide +kernel
theorem dX7_refusalOfTold_14 : decode cX7_refusalOfTold 14 = .ok (.invokestatic 83, 3) := by decide +kernel
theorem dX7_refusalOfTold_17 : decode cX7_refusalOfTold 17 = .ok (.ifCond .eq 8, 3) := by decide +kernel
theorem dX7_refusalOfTold_20 : decode cX7_refusalOfTold 20 = .ok (.iload 4, 2) := by decide +kernel
theorem dX7_refusalOfTold_22 : decode cX7_refusalOfTold 22 = .ok (.ifCond .ne 6, 3) := by decide +kernel
theorem dX7_refusalOfTold_25 : decode cX7_refusalOfTold 25 = .ok (.ldc 87, 2) := by decide +kernel
theorem dX7_refusalOfTold_27 : decode cX7_refusalOfTold 27 = .ok (.ireturn, 1) := by decide +kernel
theorem dX7_refusalOfTold_28 : decode cX7_refusalOfTold 28 = .ok (.aload_n 0, 1) := by decide +kernel
theorem dX7_refusalOfTold_29 : decode cX7_refusalOfTold 29 = .ok (.getfield 12, 3) := by decide +kernel
theorem dX7_refusalOfTold_32 : decode cX7_refusalOfTold 32 = .ok (.iload_n 1, 1) := by decide +kernel
theorem dX7_refusalOfTold_33 : decode cX7_refusalOfTold 33 = .ok (.iload_n 2, 1) := by decide +kernel
theorem dX7_refusalOfTold_34 : decode cX7_refusalOfTold 34 = .ok (.iload_n 3, 1) := by decide +kernel
theorem dX7_refusalOfTold_35 : decode cX7_refusalOfTold 35 = .ok (.invokevirtual 99, 3) := by decide +kernel
theorem dX7_refusalOfTold_38 : decode cX7_refusalOfTold 38 = .ok (.istore 5, 2) := by decide +kernel
theorem dX7_refusalOfTold_40 : decode cX7_refusalOfTold 40 = .ok (.iload 5, 2) := by decide +kernel
theorem dX7_refusalOfTold_42 : decode cX7_refusalOfTold 42 = .ok (.ifCond .eq 12, 3) := by decide +kernel
theorem dX7_refusalOfTold_45 : decode cX7_refusalOfTold 45 = .ok (.aload_n 0, 1) := by decide +kernel
theorem dX7_refusalOfTold_46 : decode cX7_refusalOfTold 46 = .ok (.iload 5, 2) := by decide +kernel
theorem dX7_refusalOfTold_48 : decode cX7_refusalOfTold 48 = .ok (.invokevirtual 88, 3) := by decide +kernel
theorem dX7_refusalOfTold_51 : decode cX7_refusalOfTold 51 = .ok (.goto 8, 3) := by decide +kernel
theorem dX7_refusalOfTold_54 : decode cX7_refusalOfTold 54 = .ok (.aload_n 0, 1) := by decide +kernel
theorem dX7_refusalOfTold_55 : decode cX7_refusalOfTold 55 = .ok (.iconst 0, 1) := by decide +kernel
theorem dX7_refusalOfTold_56 : decode cX7_refusalOfTold 56 = .ok (.invokevirtual 96, 3) := by decide +kernel
theorem dX7_refusalOfTold_59 : decode cX7_refusalOfTold 59 = .ok (.ireturn, 1) := by decide +kernel
theorem dX7_isMissingJustSo_0 : decode cX7_isMissingJustSo 0 = .ok (.iconst 0, 1) := by decide +kernel
theorem dX7_isMissingJustSo_1 : decode cX7_isMissingJustSo 1 = .ok (.istore_n 3, 1) := by decide +kernel
theorem dX7_isMissingJustSo_2 : decode cX7_isMissingJustSo 2 = .ok (.iload_n 3, 1) := by decide +kernel
theorem dX7_isMissingJustSo_3 : decode cX7_isMissingJustSo 3 = .ok (.aload_n 0, 1) := by decide +kernel
theorem dX7_isMissingJustSo_4 : decode cX7_isMissingJustSo 4 = .ok (.getfield 26, 3) := by decide +kernel
theorem dX7_isMissingJustSo_7 : decode cX7_isMissingJustSo 7 = .ok (.getfield 139, 3) := by decide +kernel
theorem dX7_isMissingJustSo_10 : decode cX7_isMissingJustSo 10 = .ok (.if_icmp .ge 46, 3) := by decide +kernel
theorem dX7_isMissingJustSo_13 : decode cX7_isMissingJustSo 13 = .ok (.aload_n 0, 1) := by decide +kernel
theorem dX7_isMissingJustSo_14 : decode cX7_isMissingJustSo 14 = .ok (.getfield 26, 3) := by decide +kernel
theorem dX7_isMissingJustSo_17 : decode cX7_isMissingJustSo 17 = .ok (.getfield 169, 3) := by decide +kernel
theorem dX7_isMissingJustSo_20 : decode cX7_isMissingJustSo 20 = .ok (.iconst 0, 1) := by decide +kernel
theorem dX7_isMissingJustSo_21 : decode cX7_isMissingJustSo 21 = .ok (.iload_n 3, 1) := by decide +kernel
theorem dX7_isMissingJustSo_22 : decode cX7_isMissingJustSo 22 = .ok (.iadd, 1) := by decide +kernel
theorem dX7_isMissingJustSo_23 : decode cX7_isMissingJustSo 23 = .ok (.iaload, 1) := by decide +kernel
theorem dX7_isMissingJustSo_24 : decode cX7_isMissingJustSo 24 = .ok (.aload_n 0, 1) := by decide +kernel
theorem dX7_isMissingJustSo_25 : decode cX7_isMissingJustSo 25 = .ok (.getfield 51, 3) := by decide +kernel
theorem dX7_isMissingJustSo_28 : decode cX7_isMissingJustSo 28 = .ok (.getfield 365, 3) := by decide +kernel
theorem dX7_isMissingJustSo_31 : decode cX7_isMissingJustSo 31 = .ok (.iload_n 3, 1) := by decide +kernel
theorem dX7_isMissingJustSo_32 : decode cX7_isMissingJustSo 32 = .ok (.iaload, 1) := by decide +kernel
theorem dX7_isMissingJustSo_33 : decode cX7_isMissingJustSo 33 = .ok (.isub, 1) := by decide +kernel
theorem dX7_isMissingJustSo_34 : decode cX7_isMissingJustSo 34 = .ok (.aload_n 0, 1) := by decide +kernel
theorem dX7_isMissingJustSo_35 : decode cX7_isMissingJustSo 35 = .ok (.getfield 12, 3) := by decide +kernel
theorem dX7_isMissingJustSo_38 : decode cX7_isMissingJustSo 38 = .ok (.iload_n 1, 1) := by decide +kernel
theorem dX7_isMissingJustSo_39 : decode cX7_isMissingJustSo 39 = .ok (.iload_n 2, 1) := by decide +kernel
theorem dX7_isMissingJustSo_40 : decode cX7_isMissingJustSo 40 = .ok (.iload_n 3, 1) := by decide +kernel
theorem dX7_isMissingJustSo_41 : decode cX7_isMissingJustSo 41 = .ok (.iadd, 1) := by decide +kernel
theorem dX7_isMissingJustSo_42 : decode cX7_isMissingJustSo 42 = .ok (.invokevirtual 356, 3) := by decide +kernel
theorem dX7_isMissingJustSo_45 : decode cX7_isMissingJustSo 45 = .ok (.if_icmp .eq 5, 3) := by decide +kernel
theorem dX7_isMissingJustSo_48 : decode cX7_isMissingJustSo 48 = .ok (.iconst 0, 1) := by decide +kernel
theorem dX7_isMissingJustSo_49 : decode cX7_isMissingJustSo 49 = .ok (.ireturn, 1) := by decide +kernel
theorem dX7_isMissingJustSo_50 : decode cX7_isMissingJustSo 50 = .ok (.iinc 3 1, 3) := by decide +kernel
theorem dX7_isMissingJustSo_53 : decode cX7_isMissingJustSo 53 = .ok (.goto (-51), 3) := by decide +kernel
theorem dX7_isMissingJustSo_56 : decode cX7_isMissingJustSo 56 = .ok (.iconst 1, 1) := by decide +kernel
theorem dX7_isMissingJustSo_57 : decode cX7_isMissingJustSo 57 = .ok (.ireturn, 1) := by decide +kernel
theorem dX7_imageAt_0 : decode cX7_imageAt 0 = .ok (.iload_n 1, 1) := by decide +kernel
theorem dX7_imageAt_1 : decode cX7_imageAt 1 = .ok (.ifCond .ne 10, 3) := by decide +kernel
theorem dX7_imageAt_4 : decode cX7_imageAt 4 = .ok (.aload_n 0, 1) := by decide +kernel
theorem dX7_imageAt_5 : decode cX7_imageAt 5 = .ok (.getfield 33, 3) := by decide +kernel
theorem dX7_imageAt_8 : decode cX7_imageAt 8 = .ok (.goto 7, 3) := by decide +kernel
theorem dX7_imageAt_11 : decode cX7_imageAt 11 = .ok (.aload_n 0, 1) := by decide +kernel
theorem dX7_imageAt_12 : decode cX7_imageAt 12 = .ok (.getfield 36, 3) := by decide +kernel
theorem dX7_imageAt_15 : decode cX7_imageAt 15 = .ok (.areturn, 1) := by decide +kernel
theorem dX7_isOfKind_0 : decode cX7_isOfKind 0 = .ok (.iload_n 0, 1) := by decide +kernel
theorem dX7_isOfKind_1 : decode cX7_isOfKind 1 = .ok (.istore_n 2, 1) := by decide +kernel
theorem dX7_isOfKind_2 : decode cX7_isOfKind 2 = .ok (.iconst 0, 1) := by decide +kernel
theorem dX7_isOfKind_3 : decode cX7_isOfKind 3 = .ok (.istore_n 3, 1) := by decide +kernel
theorem dX7_isOfKind_4 : decode cX7_isOfKind 4 = .ok (.iload_n 3, 1) := by decide +kernel
theorem dX7_isOfKind_5 : decode cX7_isOfKind 5 = .ok (.bipush 6, 2) := by decide +kernel
theorem dX7_isOfKind_7 : decode cX7_isOfKind 7 = .ok (.if_icmp .ge 32, 3) := by decide +kernel
theorem dX7_isOfKind_10 : decode cX7_isOfKind 10 = .ok (.iload_n 2, 1) := by decide +kernel
theorem dX7_isOfKind_11 : decode cX7_isOfKind 11 = .ok (.ifCond .lt 28, 3) := by decide +kernel
theorem dX7_isOfKind_14 : decode cX7_isOfKind 14 = .ok (.iload_n 2, 1) := by decide +kernel
theorem dX7_isOfKind_15 : decode cX7_isOfKind 15 = .ok (.bipush 6, 2) := by decide +kernel
theorem dX7_isOfKind_17 : decode cX7_isOfKind 17 = .ok (.if_icmp .ge 22, 3) := by decide +kernel
theorem dX7_isOfKind_20 : decode cX7_isOfKind 20 = .ok (.iload_n 2, 1) := by decide +kernel
theorem dX7_isOfKind_21 : decode cX7_isOfKind 21 = .ok (.iload_n 1, 1) := by decide +kernel
theorem dX7_isOfKind_22 : decode cX7_isOfKind 22 = .ok (.if_icmp .ne 5, 3) := by decide +kernel
theorem dX7_isOfKind_25 : decode cX7_isOfKind 25 = .ok (.iconst 1, 1) := by decide +kernel
theorem dX7_isOfKind_26 : decode cX7_isOfKind 26 = .ok (.ireturn, 1) := by decide +kernel
theorem dX7_isOfKind_27 : decode cX7_isOfKind 27 = .ok (.getstatic 368, 3) := by decide +kernel
theorem dX7_isOfKind_30 : decode cX7_isOfKind 30 = .ok (.iload_n 2, 1) := by decide +kernel
theorem dX7_isOfKind_31 : decode cX7_isOfKind 31 = .ok (.iaload, 1) := by decide +kernel
theorem dX7_isOfKind_32 : decode cX7_isOfKind 32 = .ok (.istore_n 2, 1) := by decide +kernel
theorem dX7_isOfKind_33 : decode cX7_isOfKind 33 = .ok (.iinc 3 1, 3) := by decide +kernel
theorem dX7_isOfKind_36 : decode cX7_isOfKind 36 = .ok (.goto (-32), 3) := by decide +kernel
theorem dX7_isOfKind_39 : decode cX7_isOfKind 39 = .ok (.iconst 0, 1) := by decide +kernel
theorem dX7_isOfKind_40 : decode cX7_isOfKind 40 = .ok (.ireturn, 1) := by decide +kernel
end
section
theorem dX7_firstBody_0 : decode cX7_firstBody 0 = .ok (.aload_n 0, 1) := by decide +kernel
theorem dX7_firstBody_1 : decode cX7_firstBody 1 = .ok (.getfield 26, 3) := by decide +kernel
theorem dX7_firstBody_4 : decode cX7_firstBody 4 = .ok (.getfield 320, 3) := by decide +kernel
theorem dX7_firstBody_7 : decode cX7_firstBody 7 = .ok (.iload_n 1, 1) := by decide +kernel
theorem dX7_firstBody_8 : decode cX7_firstBody 8 = .ok (.iaload, 1) := by decide +kernel
theorem dX7_firstBody_9 : decode cX7_firstBody 9 = .ok (.istore_n 3, 1) := by decide +kernel
theorem dX7_firstBody_10 : decode cX7_firstBody 10 = .ok (.iload_n 2, 1) := by decide +kernel
theorem dX7_firstBody_11 : decode cX7_firstBody 11 = .ok (.ifCond .ne 11, 3) := by decide +kernel
theorem dX7_firstBody_14 : decode cX7_firstBody 14 = .ok (.getstatic 371, 3) := by decide +kernel
theorem dX7_firstBody_17 : decode cX7_firstBody 17 = .ok (.iload_n 3, 1) := by decide +kernel
theorem dX7_firstBody_18 : decode cX7_firstBody 18 = .ok (.iaload, 1) := by decide +kernel
theorem dX7_firstBody_19 : decode cX7_firstBody 19 = .ok (.goto 8, 3) := by decide +kernel
theorem dX7_firstBody_22 : decode cX7_firstBody 22 = .ok (.getstatic 374, 3) := by decide +kernel
theorem dX7_firstBody_25 : decode cX7_firstBody 25 = .ok (.iload_n 3, 1) := by decide +kernel
theorem dX7_firstBody_26 : decode cX7_firstBody 26 = .ok (.iaload, 1) := by decide +kernel
theorem dX7_firstBody_27 : decode cX7_firstBody 27 = .ok (.ireturn, 1) := by decide +kernel
theorem dX7_body_0 : decode cX7_body 0 = .ok (.iload_n 3, 1) := by decide +kernel
theorem dX7_body_1 : decode cX7_body 1 = .ok (.bipush 8, 2) := by decide +kernel
theorem dX7_body_3 : decode cX7_body 3 = .ok (.if_icmp .le 5, 3) := by decide +kernel
theorem dX7_body_6 : decode cX7_body 6 = .ok (.iconst 0, 1) := by decide +kernel
theorem dX7_body_7 : decode cX7_body 7 = .ok (.ireturn, 1) := by decide +kernel
theorem dX7_body_8 : decode cX7_body 8 = .ok (.aload_n 0, 1) := by decide +kernel
theorem dX7_body_9 : decode cX7_body 9 = .ok (.getfield 76, 3) := by decide +kernel
theorem dX7_body_12 : decode cX7_body 12 = .ok (.bipush 16, 2) := by decide +kernel
theorem dX7_body_14 : decode cX7_body 14 = .ok (.if_icmp .ge 23, 3) := by decide +kernel
theorem dX7_body_17 : decode cX7_body 17 = .ok (.aload_n 0, 1) := by decide +kernel
theorem dX7_body_18 : decode cX7_body 18 = .ok (.getfield 73, 3) := by decide +kernel
theorem dX7_body_21 : decode cX7_body 21 = .ok (.aload_n 0, 1) := by decide +kernel
theorem dX7_body_22 : decode cX7_body 22 = .ok (.getfield 76, 3) := by decide +kernel
theorem dX7_body_25 : decode cX7_body 25 = .ok (.iload_n 1, 1) := by decide +kernel
theorem dX7_body_26 : decode cX7_body 26 = .ok (.iastore, 1) := by decide +kernel
theorem dX7_body_27 : decode cX7_body 27 = .ok (.aload_n 0, 1) := by decide +kernel
theorem dX7_body_28 : decode cX7_body 28 = .ok (.dup, 1) := by decide +kernel
theorem dX7_body_29 : decode cX7_body 29 = .ok (.getfield 76, 3) := by decide +kernel
theorem dX7_body_32 : decode cX7_body 32 = .ok (.iconst 1, 1) := by decide +kernel
theorem dX7_body_33 : decode cX7_body 33 = .ok (.iadd, 1) := by decide +kernel
theorem dX7_body_34 : decode cX7_body 34 = .ok (.putfield 76, 3) := by decide +kernel
theorem dX7_body_37 : decode cX7_body 37 = .ok (.iload_n 3, 1) := by decide +kernel
theorem dX7_body_38 : decode cX7_body 38 = .ok (.iconst 1, 1) := by decide +kernel
theorem dX7_body_39 : decode cX7_body 39 = .ok (.iadd, 1) := by decide +kernel
theorem dX7_body_40 : decode cX7_body 40 = .ok (.istore 4, 2) := by decide +kernel
theorem dX7_body_42 : decode cX7_body 42 = .ok (.iload_n 1, 1) := by decide +kernel
theorem dX7_body_43 : decode cX7_body 43 = .ok (.tableswitch 218 10 24 #[73, 83, 107, 118, 131, 218, 218, 218, 218, 218, 143, 145, 168, 182, 206], 73) := by decide +kernel
theorem dX7_body_116 : decode cX7_body 116 = .ok (.aload_n 0, 1) := by decide +kernel
theorem dX7_body_117 : decode cX7_body 117 = .ok (.getfield 26, 3) := by decide +kernel
theorem dX7_body_120 : decode cX7_body 120 = .ok (.getfield 206, 3) := by decide +kernel
theorem dX7_body_123 : decode cX7_body 123 = .ok (.iload_n 2, 1) := by decide +kernel
theorem dX7_body_124 : decode cX7_body 124 = .ok (.iaload, 1) := by decide +kernel
theorem dX7_body_125 : decode cX7_body 125 = .ok (.ireturn, 1) := by decide +kernel
theorem dX7_body_126 : decode cX7_body 126 = .ok (.aload_n 0, 1) := by decide +kernel
theorem dX7_body_127 : decode cX7_body 127 = .ok (.bipush 10, 2) := by decide +kernel
theorem dX7_body_129 : decode cX7_body 129 = .ok (.iload_n 2, 1) := by decide +kernel
theorem dX7_body_130 : decode cX7_body 130 = .ok (.iload 4, 2) := by decide +kernel
theorem dX7_body_132 : decode cX7_body 132 = .ok (.invokevirtual 329, 3) := by decide +kernel
theorem dX7_body_135 : decode cX7_body 135 = .ok (.aload_n 0, 1) := by decide +kernel
theorem dX7_body_136 : decode cX7_body 136 = .ok (.aload_n 0, 1) := by decide +kernel
theorem dX7_body_137 : decode cX7_body 137 = .ok (.iload_n 2, 1) := by decide +kernel
theorem dX7_body_138 : decode cX7_body 138 = .ok (.iconst 1, 1) := by decide +kernel
theorem dX7_body_139 : decode cX7_body 139 = .ok (.invokevirtual 326, 3) := by decide +kernel
theorem dX7_body_142 : decode cX7_body 142 = .ok (.iload_n 2, 1) := by decide +kernel
theorem dX7_body_143 : decode cX7_body 143 = .ok (.iload 4, 2) := by decide +kernel
theorem dX7_body_145 : decode cX7_body 145 = .ok (.invokevirtual 329, 3) := by decide +kernel
theorem dX7_body_148 : decode cX7_body 148 = .ok (.iadd, 1) := by decide +kernel
theorem dX7_body_149 : decode cX7_body 149 = .ok (.ireturn, 1) := by decide +kernel
theorem dX7_body_150 : decode cX7_body 150 = .ok (.aload_n 0, 1) := by decide +kernel
theorem dX7_body_151 : decode cX7_body 151 = .ok (.bipush 11, 2) := by decide +kernel
theorem dX7_body_153 : decode cX7_body 153 = .ok (.iload_n 2, 1) := by decide +kernel
theorem dX7_body_154 : decode cX7_body 154 = .ok (.iload 4, 2) := by decide +kernel
theorem dX7_body_156 : decode cX7_body 156 = .ok (.invokevirtual 329, 3) := by decide +kernel
theorem dX7_body_159 : decode cX7_body 159 = .ok (.ineg, 1) := by decide +kernel
theorem dX7_body_160 : decode cX7_body 160 = .ok (.ireturn, 1) := by decide +kernel
theorem dX7_body_161 : decode cX7_body 161 = .ok (.aload_n 0, 1) := by decide +kernel
theorem dX7_body_162 : decode cX7_body 162 = .ok (.bipush 10, 2) := by decide +kernel
theorem dX7_body_164 : decode cX7_body 164 = .ok (.iload_n 2, 1) := by decide +kernel
theorem dX7_body_165 : decode cX7_body 165 = .ok (.iload 4, 2) := by decide +kernel
theorem dX7_body_167 : decode cX7_body 167 = .ok (.invokevirtual 329, 3) := by decide +kernel
theorem dX7_body_170 : decode cX7_body 170 = .ok (.bipush 100, 2) := by decide +kernel
theorem dX7_body_172 : decode cX7_body 172 = .ok (.isub, 1) := by decide +kernel
theorem dX7_body_173 : decode cX7_body 173 = .ok (.ireturn, 1) := by decide +kernel
theorem dX7_body_174 : decode cX7_body 174 = .ok (.iconst 2, 1) := by decide +kernel
theorem dX7_body_175 : decode cX7_body 175 = .ok (.aload_n 0, 1) := by decide +kernel
theorem dX7_body_176 : decode cX7_body 176 = .ok (.bipush 13, 2) := by decide +kernel
theorem dX7_body_178 : decode cX7_body 178 = .ok (.iload_n 2, 1) := by decide +kernel
theorem dX7_body_179 : decode cX7_body 179 = .ok (.iload 4, 2) := by decide +kernel
theorem dX7_body_181 : decode cX7_body 181 = .ok (.invokevirtual 329, 3) := by decide +kernel
theorem dX7_body_184 : decode cX7_body 184 = .ok (.imul, 1) := by decide +kernel
theorem dX7_body_185 : decode cX7_body 185 = .ok (.ireturn, 1) := by decide +kernel
theorem dX7_body_186 : decode cX7_body 186 = .ok (.iload_n 2, 1) := by decide +kernel
theorem dX7_body_187 : decode cX7_body 187 = .ok (.ireturn, 1) := by decide +kernel
theorem dX7_body_188 : decode cX7_body 188 = .ok (.aload_n 0, 1) := by decide +kernel
theorem dX7_body_189 : decode cX7_body 189 = .ok (.bipush 20, 2) := by decide +kernel
theorem dX7_body_191 : decode cX7_body 191 = .ok (.iload_n 2, 1) := by decide +kernel
theorem dX7_body_192 : decode cX7_body 192 = .ok (.iload 4, 2) := by decide +kernel
theorem dX7_body_194 : decode cX7_body 194 = .ok (.invokevirtual 329, 3) := by decide +kernel
theorem dX7_body_197 : decode cX7_body 197 = .ok (.aload_n 0, 1) := by decide +kernel
theorem dX7_body_198 : decode cX7_body 198 = .ok (.getfield 26, 3) := by decide +kernel
theorem dX7_body_201 : decode cX7_body 201 = .ok (.getfield 169, 3) := by decide +kernel
theorem dX7_body_204 : decode cX7_body 204 = .ok (.bipush 10, 2) := by decide +kernel
theorem dX7_body_206 : decode cX7_body 206 = .ok (.iload_n 2, 1) := by decide +kernel
theorem dX7_body_207 : decode cX7_body 207 = .ok (.iadd, 1) := by decide +kernel
theorem dX7_body_208 : decode cX7_body 208 = .ok (.iaload, 1) := by decide +kernel
theorem dX7_body_209 : decode cX7_body 209 = .ok (.iadd, 1) := by decide +kernel
theorem dX7_body_210 : decode cX7_body 210 = .ok (.ireturn, 1) := by decide +kernel
theorem dX7_body_211 : decode cX7_body 211 = .ok (.aload_n 0, 1) := by decide +kernel
theorem dX7_body_212 : decode cX7_body 212 = .ok (.bipush 21, 2) := by decide +kernel
theorem dX7_body_214 : decode cX7_body 214 = .ok (.iload_n 2, 1) := by decide +kernel
theorem dX7_body_215 : decode cX7_body 215 = .ok (.iload 4, 2) := by decide +kernel
theorem dX7_body_217 : decode cX7_body 217 = .ok (.invokevirtual 329, 3) := by decide +kernel
theorem dX7_body_220 : decode cX7_body 220 = .ok (.sipush 1000, 3) := by decide +kernel
theorem dX7_body_223 : decode cX7_body 223 = .ok (.isub, 1) := by decide +kernel
theorem dX7_body_224 : decode cX7_body 224 = .ok (.ireturn, 1) := by decide +kernel
theorem dX7_body_225 : decode cX7_body 225 = .ok (.aload_n 0, 1) := by decide +kernel
theorem dX7_body_226 : decode cX7_body 226 = .ok (.bipush 20, 2) := by decide +kernel
theorem dX7_body_228 : decode cX7_body 228 = .ok (.iload_n 2, 1) := by decide +kernel
theorem dX7_body_229 : decode cX7_body 229 = .ok (.iload 4, 2) := by decide +kernel
theorem dX7_body_231 : decode cX7_body 231 = .ok (.invokevirtual 329, 3) := by decide +kernel
theorem dX7_body_234 : decode cX7_body 234 = .ok (.aload_n 0, 1) := by decide +kernel
theorem dX7_body_235 : decode cX7_body 235 = .ok (.aload_n 0, 1) := by decide +kernel
theorem dX7_body_236 : decode cX7_body 236 = .ok (.iload_n 2, 1) := by decide +kernel
theorem dX7_body_237 : decode cX7_body 237 = .ok (.iconst 0, 1) := by decide +kernel
theorem dX7_body_238 : decode cX7_body 238 = .ok (.invokevirtual 326, 3) := by decide +kernel
theorem dX7_body_241 : decode cX7_body 241 = .ok (.iload_n 2, 1) := by decide +kernel
theorem dX7_body_242 : decode cX7_body 242 = .ok (.iload 4, 2) := by decide +kernel
theorem dX7_body_244 : decode cX7_body 244 = .ok (.invokevirtual 329, 3) := by decide +kernel
theorem dX7_body_247 : decode cX7_body 247 = .ok (.isub, 1) := by decide +kernel
theorem dX7_body_248 : decode cX7_body 248 = .ok (.ireturn, 1) := by decide +kernel
theorem dX7_body_249 : decode cX7_body 249 = .ok (.iconst 2, 1) := by decide +kernel
theorem dX7_body_250 : decode cX7_body 250 = .ok (.aload_n 0, 1) := by decide +kernel
theorem dX7_body_251 : decode cX7_body 251 = .ok (.bipush 21, 2) := by decide +kernel
theorem dX7_body_253 : decode cX7_body 253 = .ok (.iload_n 2, 1) := by decide +kernel
theorem dX7_body_254 : decode cX7_body 254 = .ok (.iload 4, 2) := by decide +kernel
theorem dX7_body_256 : decode cX7_body 256 = .ok (.invokevirtual 329, 3) := by decide +kernel
theorem dX7_body_259 : decode cX7_body 259 = .ok (.imul, 1) := by decide +kernel
theorem dX7_body_260 : decode cX7_body 260 = .ok (.ireturn, 1) := by decide +kernel
theorem dX7_body_261 : decode cX7_body 261 = .ok (.iconst 0, 1) := by decide +kernel
theorem dX7_body_262 : decode cX7_body 262 = .ok (.ireturn, 1) := by decide +kernel
theorem dX8_init_0 : decode cX8_init 0 = .ok (.aload_n 0, 1) := by decide +kernel
theorem dX8_init_1 : decode cX8_init 1 = .ok (.invokespecial 1, 3) := by decide +kernel
theorem dX8_init_4 : decode cX8_init 4 = .ok (.aload_n 0, 1) := by decide +kernel
theorem dX8_init_5 : decode cX8_init 5 = .ok (.bipush 8, 2) := by decide +kernel
theorem dX8_init_7 : decode cX8_init 7 = .ok (.newarray .int, 2) := by decide +kernel
theorem dX8_init_9 : decode cX8_init 9 = .ok (.dup, 1) := by decide +kernel
theorem dX8_init_10 : decode cX8_init 10 = .ok (.iconst 0, 1) := by decide +kernel
theorem dX8_init_11 : decode cX8_init 11 = .ok (.iconst (-1), 1) := by decide +kernel
theorem dX8_init_12 : decode cX8_init 12 = .ok (.iastore, 1) := by decide +kernel
theorem dX8_init_13 : decode cX8_init 13 = .ok (.dup, 1) := by decide +kernel
theorem dX8_init_14 : decode cX8_init 14 = .ok (.iconst 1, 1) := by decide +kernel
theorem dX8_init_15 : decode cX8_init 15 = .ok (.iconst (-1), 1) := by decide +kernel
theorem dX8_init_16 : decode cX8_init 16 = .ok (.iastore, 1) := by decide +kernel
theorem dX8_init_17 : decode cX8_init 17 = .ok (.dup, 1) := by decide +kernel
theorem dX8_init_18 : decode cX8_init 18 = .ok (.iconst 2, 1) := by decide +kernel
theorem dX8_init_19 : decode cX8_init 19 = .ok (.iconst (-1), 1) := by decide +kernel
theorem dX8_init_20 : decode cX8_init 20 = .ok (.iastore, 1) := by decide +kernel
theorem dX8_init_21 : decode cX8_init 21 = .ok (.dup, 1) := by decide +kernel
theorem dX8_init_22 : decode cX8_init 22 = .ok (.iconst 3, 1) := by decide +kernel
theorem dX8_init_23 : decode cX8_init 23 = .ok (.iconst (-1), 1) := by decide +kernel
theorem dX8_init_24 : decode cX8_init 24 = .ok (.iastore, 1) := by decide +kernel
theorem dX8_init_25 : decode cX8_init 25 = .ok (.dup, 1) := by decide +kernel
theorem dX8_init_26 : decode cX8_init 26 = .ok (.iconst 4, 1) := by decide +kernel
theorem dX8_init_27 : decode cX8_init 27 = .ok (.iconst (-1), 1) := by decide +kernel
theorem dX8_init_28 : decode cX8_init 28 = .ok (.iastore, 1) := by decide +kernel
theorem dX8_init_29 : decode cX8_init 29 = .ok (.dup, 1) := by decide +kernel
theorem dX8_init_30 : decode cX8_init 30 = .ok (.iconst 5, 1) := by decide +kernel
theorem dX8_init_31 : decode cX8_init 31 = .ok (.iconst (-1), 1) := by decide +kernel
theorem dX8_init_32 : decode cX8_init 32 = .ok (.iastore, 1) := by decide +kernel
theorem dX8_init_33 : decode cX8_init 33 = .ok (.dup, 1) := by decide +kernel
theorem dX8_init_34 : decode cX8_init 34 = .ok (.bipush 6, 2) := by decide +kernel
theorem dX8_init_36 : decode cX8_init 36 = .ok (.iconst (-1), 1) := by decide +kernel
theorem dX8_init_37 : decode cX8_init 37 = .ok (.iastore, 1) := by decide +kernel
theorem dX8_init_38 : decode cX8_init 38 = .ok (.dup, 1) := by decide +kernel
theorem dX8_init_39 : decode cX8_init 39 = .ok (.bipush 7, 2) := by decide +kernel
theorem dX8_init_41 : decode cX8_init 41 = .ok (.iconst (-1), 1) := by decide +kernel
theorem dX8_init_42 : decode cX8_init 42 = .ok (.iastore, 1) := by decide +kernel
theorem dX8_init_43 : decode cX8_init 43 = .ok (.putfield 7, 3) := by decide +kernel
theorem dX8_init_46 : decode cX8_init 46 = .ok (.aload_n 0, 1) := by decide +kernel
theorem dX8_init_47 : decode cX8_init 47 = .ok (.bipush 8, 2) := by decide +kernel
theorem dX8_init_49 : decode cX8_init 49 = .ok (.newarray .int, 2) := by decide +kernel
theorem dX8_init_51 : decode cX8_init 51 = .ok (.putfield 13, 3) := by decide +kernel
theorem dX8_init_54 : decode cX8_init 54 = .ok (.aload_n 0, 1) := by decide +kernel
theorem dX8_init_55 : decode cX8_init 55 = .ok (.sipush 320, 3) := by decide +kernel
theorem dX8_init_58 : decode cX8_init 58 = .ok (.newarray .int, 2) := by decide +kernel
theorem dX8_init_60 : decode cX8_init 60 = .ok (.putfield 16, 3) := by decide +kernel
theorem dX8_init_63 : decode cX8_init 63 = .ok (.aload_n 0, 1) := by decide +kernel
theorem dX8_init_64 : decode cX8_init 64 = .ok (.bipush 59, 2) := by decide +kernel
theorem dX8_init_66 : decode cX8_init 66 = .ok (.newarray .int, 2) := by decide +kernel
theorem dX8_init_68 : decode cX8_init 68 = .ok (.putfield 19, 3) := by decide +kernel
theorem dX8_init_71 : decode cX8_init 71 = .ok (.aload_n 0, 1) := by decide +kernel
theorem dX8_init_72 : decode cX8_init 72 = .ok (.bipush 59, 2) := by decide +kernel
theorem dX8_init_74 : decode cX8_init 74 = .ok (.newarray .int, 2) := by decide +kernel
theorem dX8_init_76 : decode cX8_init 76 = .ok (.putfield 22, 3) := by decide +kernel
theorem dX8_init_79 : decode cX8_init 79 = .ok (.aload_n 0, 1) := by decide +kernel
theorem dX8_init_80 : decode cX8_init 80 = .ok (.sipush 1416, 3) := by decide +kernel
theorem dX8_init_83 : decode cX8_init 83 = .ok (.newarray .int, 2) := by decide +kernel
theorem dX8_init_85 : decode cX8_init 85 = .ok (.putfield 25, 3) := by decide +kernel
theorem dX8_init_88 : decode cX8_init 88 = .ok (.aload_n 0, 1) := by decide +kernel
theorem dX8_init_89 : decode cX8_init 89 = .ok (.bipush 120, 2) := by decide +kernel
theorem dX8_init_91 : decode cX8_init 91 = .ok (.newarray .int, 2) := by decide +kernel
theorem dX8_init_93 : decode cX8_init 93 = .ok (.putfield 28, 3) := by decide +kernel
theorem dX8_init_96 : decode cX8_init 96 = .ok (.aload_n 0, 1) := by decide +kernel
theorem dX8_init_97 : decode cX8_init 97 = .ok (.iconst 4, 1) := by decide +kernel
theorem dX8_init_98 : decode cX8_init 98 = .ok (.newarray .int, 2) := by decide +kernel
theorem dX8_init_100 : decode cX8_init 100 = .ok (.putfield 31, 3) := by decide +kernel
theorem dX8_init_103 : decode cX8_init 103 = .ok (.aload_n 0, 1) := by decide +kernel
theorem dX8_init_104 : decode cX8_init 104 = .ok (.iconst 4, 1) := by decide +kernel
theorem dX8_init_105 : decode cX8_init 105 = .ok (.newarray .int, 2) := by decide +kernel
theorem dX8_init_107 : decode cX8_init 107 = .ok (.putfield 34, 3) := by decide +kernel
theorem dX8_init_110 : decode cX8_init 110 = .ok (.aload_n 0, 1) := by decide +kernel
theorem dX8_init_111 : decode cX8_init 111 = .ok (.iconst 4, 1) := by decide +kernel
theorem dX8_init_112 : decode cX8_init 112 = .ok (.newarray .int, 2) := by decide +kernel
theorem dX8_init_114 : decode cX8_init 114 = .ok (.putfield 37, 3) := by decide +kernel
theorem dX8_init_117 : decode cX8_init 117 = .ok (.aload_n 0, 1) := by decide +kernel
theorem dX8_init_118 : decode cX8_init 118 = .ok (.bipush 6, 2) := by decide +kernel
theorem dX8_init_120 : decode cX8_init 120 = .ok (.newarray .int, 2) := by decide +kernel
theorem dX8_init_122 : decode cX8_init 122 = .ok (.putfield 40, 3) := by decide +kernel
theorem dX8_init_125 : decode cX8_init 125 = .ok (.aload_n 0, 1) := by decide +kernel
theorem dX8_init_126 : decode cX8_init 126 = .ok (.iconst 4, 1) := by decide +kernel
theorem dX8_init_127 : decode cX8_init 127 = .ok (.newarray .int, 2) := by decide +kernel
theorem dX8_init_129 : decode cX8_init 129 = .ok (.putfield 43, 3) := by decide +kernel
theorem dX8_init_132 : decode cX8_init 132 = .ok (.aload_n 0, 1) := by decide +kernel
theorem dX8_init_133 : decode cX8_init 133 = .ok (.iconst 4, 1) := by decide +kernel
theorem dX8_init_134 : decode cX8_init 134 = .ok (.newarray .int, 2) := by decide +kernel
theorem dX8_init_136 : decode cX8_init 136 = .ok (.putfield 46, 3) := by decide +kernel
theorem dX8_init_139 : decode cX8_init 139 = .ok (.aload_n 0, 1) := by decide +kernel
theorem dX8_init_140 : decode cX8_init 140 = .ok (.iconst 4, 1) := by decide +kernel
theorem dX8_init_141 : decode cX8_init 141 = .ok (.newarray .int, 2) := by decide +kernel
theorem dX8_init_143 : decode cX8_init 143 = .ok (.putfield 49, 3) := by decide +kernel
theorem dX8_init_146 : decode cX8_init 146 = .ok (.aload_n 0, 1) := by decide +kernel
theorem dX8_init_147 : decode cX8_init 147 = .ok (.iconst 4, 1) := by decide +kernel
theorem dX8_init_148 : decode cX8_init 148 = .ok (.newarray .int, 2) := by decide +kernel
theorem dX8_init_150 : decode cX8_init 150 = .ok (.putfield 52, 3) := by decide +kernel
theorem dX8_init_153 : decode cX8_init 153 = .ok (.aload_n 0, 1) := by decide +kernel
theorem dX8_init_154 : decode cX8_init 154 = .ok (.iconst 4, 1) := by decide +kernel
theorem dX8_init_155 : decode cX8_init 155 = .ok (.newarray .int, 2) := by decide +kernel
theorem dX8_init_157 : decode cX8_init 157 = .ok (.putfield 55, 3) := by decide +kernel
theorem dX8_init_160 : decode cX8_init 160 = .ok (.aload_n 0, 1) := by decide +kernel
theorem dX8_init_161 : decode cX8_init 161 = .ok (.iconst 4, 1) := by decide +kernel
theorem dX8_init_162 : decode cX8_init 162 = .ok (.newarray .int, 2) := by decide +kernel
theorem dX8_init_164 : decode cX8_init 164 = .ok (.putfield 58, 3) := by decide +kernel
theorem dX8_init_167 : decode cX8_init 167 = .ok (.aload_n 0, 1) := by decide +kernel
theorem dX8_init_168 : decode cX8_init 168 = .ok (.ldc 61, 2) := by decide +kernel
theorem dX8_init_170 : decode cX8_init 170 = .ok (.putfield 62, 3) := by decide +kernel
theorem dX8_init_173 : decode cX8_init 173 = .ok (.aload_n 0, 1) := by decide +kernel
theorem dX8_init_174 : decode cX8_init 174 = .ok (.bipush 32, 2) := by decide +kernel
theorem dX8_init_176 : decode cX8_init 176 = .ok (.newarray .int, 2) := by decide +kernel
theorem dX8_init_178 : decode cX8_init 178 = .ok (.putfield 66, 3) := by decide +kernel
theorem dX8_init_181 : decode cX8_init 181 = .ok (.aload_n 0, 1) := by decide +kernel
theorem dX8_init_182 : decode cX8_init 182 = .ok (.iconst 2, 1) := by decide +kernel
theorem dX8_init_183 : decode cX8_init 183 = .ok (.newarray .boolean, 2) := by decide +kernel
theorem dX8_init_185 : decode cX8_init 185 = .ok (.putfield 69, 3) := by decide +kernel
theorem dX8_init_188 : decode cX8_init 188 = .ok (.aload_n 0, 1) := by decide +kernel
theorem dX8_init_189 : decode cX8_init 189 = .ok (.bipush 118, 2) := by decide +kernel
theorem dX8_init_191 : decode cX8_init 191 = .ok (.newarray .int, 2) := by decide +kernel
theorem dX8_init_193 : decode cX8_init 193 = .ok (.putfield 73, 3) := by decide +kernel
theorem dX8_init_196 : decode cX8_init 196 = .ok (.aload_n 0, 1) := by decide +kernel
theorem dX8_init_197 : decode cX8_init 197 = .ok (.bipush 16, 2) := by decide +kernel
theorem dX8_init_199 : decode cX8_init 199 = .ok (.newarray .int, 2) := by decide +kernel
theorem dX8_init_201 : decode cX8_init 201 = .ok (.putfield 76, 3) := by decide +kernel
theorem dX8_init_204 : decode cX8_init 204 = .ok (.return_, 1) := by decide +kernel
theorem dX8_in_0 : decode cX8_in 0 = .ok (.lload_n 0, 1) := by decide +kernel
theorem dX8_in_1 : decode cX8_in 1 = .ok (.lload_n 2, 1) := by decide +kernel
theorem dX8_in_2 : decode cX8_in 2 = .ok (.lcmp, 1) := by decide +kernel
theorem dX8_in_3 : decode cX8_in 3 = .ok (.ifCond .lt 14, 3) := by decide +kernel
theorem dX8_in_6 : decode cX8_in 6 = .ok (.lload_n 0, 1) := by decide +kernel
theorem dX8_in_7 : decode cX8_in 7 = .ok (.lload 4, 2) := by decide +kernel
theorem dX8_in_9 : decode cX8_in 9 = .ok (.lcmp, 1) := by decide +kernel
theorem dX8_in_10 : decode cX8_in 10 = .ok (.ifCond .gt 7, 3) := by decide +kernel
theorem dX8_in_13 : decode cX8_in 13 = .ok (.iconst 1, 1) := by decide +kernel
theorem dX8_in_14 : decode cX8_in 14 = .ok (.goto 4, 3) := by decide +kernel
theorem dX8_in_17 : decode cX8_in 17 = .ok (.iconst 0, 1) := by decide +kernel
theorem dX8_in_18 : decode cX8_in 18 = .ok (.ireturn, 1) := by decide +kernel
theorem dX8_finding_0 : decode cX8_finding 0 = .ok (.aload_n 0, 1) := by decide +kernel
theorem dX8_finding_1 : decode cX8_finding 1 = .ok (.iload_n 1, 1) := by decide +kernel
theorem dX8_finding_2 : decode cX8_finding 2 = .ok (.putfield 82, 3) := by decide +kernel
theorem dX8_finding_5 : decode cX8_finding 5 = .ok (.ldc 85, 2) := by decide +kernel
theorem dX8_finding_7 : decode cX8_finding 7 = .ok (.iload_n 1, 1) := by decide +kernel
theorem dX8_finding_8 : decode cX8_finding 8 = .ok (.isub, 1) := by decide +kernel
theorem dX8_finding_9 : decode cX8_finding 9 = .ok (.ireturn, 1) := by decide +kernel
theorem dX8_isRow_0 : decode cX8_isRow 0 = .ok (.iload_n 0, 1) := by decide +kernel
theorem dX8_isRow_1 : decode cX8_isRow 1 = .ok (.i2l, 1) := by decide +kernel
theorem dX8_isRow_2 : decode cX8_isRow 2 = .ok (.lconst 0, 1) := by decide +kernel
theorem dX8_isRow_3 : decode cX8_isRow 3 = .ok (.ldc2_w 86, 3) := by decide +kernel
theorem dX8_isRow_6 : decode cX8_isRow 6 = .ok (.invokestatic 88, 3) := by decide +kernel
theorem dX8_isRow_9 : decode cX8_isRow 9 = .ok (.ireturn, 1) := by decide +kernel
theorem dX8_row_0 : decode cX8_row 0 = .ok (.aload_n 0, 1) := by decide +kernel
theorem dX8_row_1 : decode cX8_row 1 = .ok (.iconst 0, 1) := by decide +kernel
theorem dX8_row_2 : decode cX8_row 2 = .ok (.putfield 79, 3) := by decide +kernel
theorem dX8_row_5 : decode cX8_row 5 = .ok (.iload_n 1, 1) := by decide +kernel
theorem dX8_row_6 : decode cX8_row 6 = .ok (.invokestatic 92, 3) := by decide +kernel
theorem dX8_row_9 : decode cX8_row 9 = .ok (.ifCond .eq 21, 3) := by decide +kernel
theorem dX8_row_12 : decode cX8_row 12 = .ok (.iload_n 2, 1) := by decide +kernel
theorem dX8_row_13 : decode cX8_row 13 = .ok (.i2l, 1) := by decide +kernel
theorem dX8_row_14 : decode cX8_row 14 = .ok (.lconst 0, 1) := by decide +kernel
theorem dX8_row_15 : decode cX8_row 15 = .ok (.ldc2_w 96, 3) := by decide +kernel
theorem dX8_row_18 : decode cX8_row 18 = .ok (.invokestatic 88, 3) := by decide +kernel
theorem dX8_row_21 : decode cX8_row 21 = .ok (.ifCond .eq 9, 3) := by decide +kernel
theorem dX8_row_24 : decode cX8_row 24 = .ok (.iload_n 3, 1) := by decide +kernel
theorem dX8_row_25 : decode cX8_row 25 = .ok (.bipush 40, 2) := by decide +kernel
theorem dX8_row_27 : decode cX8_row 27 = .ok (.if_icmp .le 6, 3) := by decide +kernel
theorem dX8_row_30 : decode cX8_row 30 = .ok (.ldc 98, 2) := by decide +kernel
theorem dX8_row_32 : decode cX8_row 32 = .ok (.ireturn, 1) := by decide +kernel
theorem dX8_row_33 : decode cX8_row 33 = .ok (.aload_n 0, 1) := by decide +kernel
theorem dX8_row_34 : decode cX8_row 34 = .ok (.iconst 0, 1) := by decide +kernel
theorem dX8_row_35 : decode cX8_row 35 = .ok (.putfield 82, 3) := by decide +kernel
theorem dX8_row_38 : decode cX8_row 38 = .ok (.iload_n 3, 1) := by decide +kernel
theorem dX8_row_39 : decode cX8_row 39 = .ok (.ifCond .ge 9, 3) := by decide +kernel
theorem dX8_row_42 : decode cX8_row 42 = .ok (.aload_n 0, 1) := by decide +kernel
theorem dX8_row_43 : decode cX8_row 43 = .ok (.iconst 4, 1) := by decide +kernel
theorem dX8_row_44 : decode cX8_row 44 = .ok (.invokevirtual 99, 3) := by decide +kernel
theorem dX8_row_47 : decode cX8_row 47 = .ok (.ireturn, 1) := by decide +kernel
theorem dX8_row_48 : decode cX8_row 48 = .ok (.aload_n 0, 1) := by decide +kernel
theorem dX8_row_49 : decode cX8_row 49 = .ok (.getfield 7, 3) := by decide +kernel
theorem dX8_row_52 : decode cX8_row 52 = .ok (.iload_n 1, 1) := by decide +kernel
theorem dX8_row_53 : decode cX8_row 53 = .ok (.iload_n 2, 1) := by decide +kernel
theorem dX8_row_54 : decode cX8_row 54 = .ok (.iastore, 1) := by decide +kernel
theorem dX8_row_55 : decode cX8_row 55 = .ok (.aload_n 0, 1) := by decide +kernel
theorem dX8_row_56 : decode cX8_row 56 = .ok (.getfield 13, 3) := by decide +kernel
theorem dX8_row_59 : decode cX8_row 59 = .ok (.iload_n 1, 1) := by decide +kernel
theorem dX8_row_60 : decode cX8_row 60 = .ok (.iload_n 3, 1) := by decide +kernel
theorem dX8_row_61 : decode cX8_row 61 = .ok (.iastore, 1) := by decide +kernel
theorem dX8_row_62 : decode cX8_row 62 = .ok (.iconst 0, 1) := by decide +kernel
theorem dX8_row_63 : decode cX8_row 63 = .ok (.istore 4, 2) := by decide +kernel
theorem dX8_row_65 : decode cX8_row 65 = .ok (.iload 4, 2) := by decide +kernel
theorem dX8_row_67 : decode cX8_row 67 = .ok (.bipush 40, 2) := by decide +kernel
theorem dX8_row_69 : decode cX8_row 69 = .ok (.if_icmp .ge 22, 3) := by decide +kernel
theorem dX8_row_72 : decode cX8_row 72 = .ok (.aload_n 0, 1) := by decide +kernel
theorem dX8_row_73 : decode cX8_row 73 = .ok (.getfield 16, 3) := by decide +kernel
theorem dX8_row_76 : decode cX8_row 76 = .ok (.bipush 40, 2) := by decide +kernel
theorem dX8_row_78 : decode cX8_row 78 = .ok (.iload_n 1, 1) := by decide +kernel
theorem dX8_row_79 : decode cX8_row 79 = .ok (.imul, 1) := by decide +kernel
theorem dX8_row_80 : decode cX8_row 80 = .ok (.iload 4, 2) := by decide +kernel
theorem dX8_row_82 : decode cX8_row 82 = .ok (.iadd, 1) := by decide +kernel
theorem dX8_row_83 : decode cX8_row 83 = .ok (.iconst 0, 1) := by decide +kernel
theorem dX8_row_84 : decode cX8_row 84 = .ok (.iastore, 1) := by decide +kernel
theorem dX8_row_85 : decode cX8_row 85 = .ok (.iinc 4 1, 3) := by decide +kernel
theorem dX8_row_88 : decode cX8_row 88 = .ok (.goto (-23), 3) := by decide +kernel
theorem dX8_row_91 : decode cX8_row 91 = .ok (.iload_n 3, 1) := by decide +kernel
theorem dX8_row_92 : decode cX8_row 92 = .ok (.ireturn, 1) := by decide +kernel
theorem dX8_set_0 : decode cX8_set 0 = .ok (.aload_n 0, 1) := by decide +kernel
theorem dX8_set_1 : decode cX8_set 1 = .ok (.iconst 0, 1) := by decide +kernel
theorem dX8_set_2 : decode cX8_set 2 = .ok (.putfield 79, 3) := by decide +kernel
theorem dX8_set_5 : decode cX8_set 5 = .ok (.iload_n 1, 1) := by decide +kernel
theorem dX8_set_6 : decode cX8_set 6 = .ok (.invokestatic 92, 3) := by decide +kernel
theorem dX8_set_9 : decode cX8_set 9 = .ok (.ifCond .ne 6, 3) := by decide +kernel
theorem dX8_set_12 : decode cX8_set 12 = .ok (.ldc 98, 2) := by decide +kernel
theorem dX8_set_14 : decode cX8_set 14 = .ok (.ireturn, 1) := by decide +kernel
theorem dX8_set_15 : decode cX8_set 15 = .ok (.aload_n 0, 1) := by decide +kernel
theorem dX8_set_16 : decode cX8_set 16 = .ok (.iconst 0, 1) := by decide +kernel
theorem dX8_set_17 : decode cX8_set 17 = .ok (.putfield 82, 3) := by decide +kernel
theorem dX8_set_20 : decode cX8_set 20 = .ok (.aload_n 0, 1) := by decide +kernel
theorem dX8_set_21 : decode cX8_set 21 = .ok (.getfield 7, 3) := by decide +kernel
theorem dX8_set_24 : decode cX8_set 24 = .ok (.iload_n 1, 1) := by decide +kernel
theorem dX8_set_25 : decode cX8_set 25 = .ok (.iaload, 1) := by decide +kernel
theorem dX8_set_26 : decode cX8_set 26 = .ok (.ifCond .ge 9, 3) := by decide +kernel
theorem dX8_set_29 : decode cX8_set 29 = .ok (.aload_n 0, 1) := by decide +kernel
theorem dX8_set_30 : decode cX8_set 30 = .ok (.iconst 1, 1) := by decide +kernel
theorem dX8_set_31 : decode cX8_set 31 = .ok (.invokevirtual 99, 3) := by decide +kernel
theorem dX8_set_34 : decode cX8_set 34 = .ok (.ireturn, 1) := by decide +kernel
theorem dX8_set_35 : decode cX8_set 35 = .ok (.iload_n 2, 1) := by decide +kernel
theorem dX8_set_36 : decode cX8_set 36 = .ok (.i2l, 1) := by decide +kernel
theorem dX8_set_37 : decode cX8_set 37 = .ok (.lconst 0, 1) := by decide +kernel
theorem dX8_set_38 : decode cX8_set 38 = .ok (.aload_n 0, 1) := by decide +kernel
theorem dX8_set_39 : decode cX8_set 39 = .ok (.getfield 13, 3) := by decide +kernel
theorem dX8_set_42 : decode cX8_set 42 = .ok (.iload_n 1, 1) := by decide +kernel
theorem dX8_set_43 : decode cX8_set 43 = .ok (.iaload, 1) := by decide +kernel
theorem dX8_set_44 : decode cX8_set 44 = .ok (.iconst 1, 1) := by decide +kernel
theorem dX8_set_45 : decode cX8_set 45 = .ok (.isub, 1) := by decide +kernel
theorem dX8_set_46 : decode cX8_set 46 = .ok (.i2l, 1) := by decide +kernel
theorem dX8_set_47 : decode cX8_set 47 = .ok (.invokestatic 88, 3) := by decide +kernel
theorem dX8_set_50 : decode cX8_set 50 = .ok (.ifCond .ne 9, 3) := by decide +kernel
theorem dX8_set_53 : decode cX8_set 53 = .ok (.aload_n 0, 1) := by decide +kernel
theorem dX8_set_54 : decode cX8_set 54 = .ok (.iconst 2, 1) := by decide +kernel
theorem dX8_set_55 : decode cX8_set 55 = .ok (.invokevirtual 99, 3) := by decide +kernel
theorem dX8_set_58 : decode cX8_set 58 = .ok (.ireturn, 1) := by decide +kernel
theorem dX8_set_59 : decode cX8_set 59 = .ok (.aload_n 0, 1) := by decide +kernel
theorem dX8_set_60 : decode cX8_set 60 = .ok (.getfield 16, 3) := by decide +kernel
theorem dX8_set_63 : decode cX8_set 63 = .ok (.bipush 40, 2) := by decide +kernel
theorem dX8_set_65 : decode cX8_set 65 = .ok (.iload_n 1, 1) := by decide +kernel
theorem dX8_set_66 : decode cX8_set 66 = .ok (.imul, 1) := by decide +kernel
theorem dX8_set_67 : decode cX8_set 67 = .ok (.iload_n 2, 1) := by decide +kernel
theorem dX8_set_68 : decode cX8_set 68 = .ok (.iadd, 1) := by decide +kernel
theorem dX8_set_69 : decode cX8_set 69 = .ok (.aload_n 0, 1) := by decide +kernel
theorem dX8_set_70 : decode cX8_set 70 = .ok (.getfield 7, 3) := by decide +kernel
theorem dX8_set_73 : decode cX8_set 73 = .ok (.iload_n 1, 1) := by decide +kernel
theorem dX8_set_74 : decode cX8_set 74 = .ok (.iaload, 1) := by decide +kernel
theorem dX8_set_75 : decode cX8_set 75 = .ok (.ifCond .ne 8, 3) := by decide +kernel
theorem dX8_set_78 : decode cX8_set 78 = .ok (.iload_n 3, 1) := by decide +kernel
theorem dX8_set_79 : decode cX8_set 79 = .ok (.i2b, 1) := by decide +kernel
theorem dX8_set_80 : decode cX8_set 80 = .ok (.goto 19, 3) := by decide +kernel
theorem dX8_set_83 : decode cX8_set 83 = .ok (.aload_n 0, 1) := by decide +kernel
theorem dX8_set_84 : decode cX8_set 84 = .ok (.getfield 7, 3) := by decide +kernel
theorem dX8_set_87 : decode cX8_set 87 = .ok (.iload_n 1, 1) := by decide +kernel
theorem dX8_set_88 : decode cX8_set 88 = .ok (.iaload, 1) := by decide +kernel
theorem dX8_set_89 : decode cX8_set 89 = .ok (.iconst 1, 1) := by decide +kernel
theorem dX8_set_90 : decode cX8_set 90 = .ok (.if_icmp .ne 8, 3) := by decide +kernel
theorem dX8_set_93 : decode cX8_set 93 = .ok (.iload_n 3, 1) := by decide +kernel
theorem dX8_set_94 : decode cX8_set 94 = .ok (.i2s, 1) := by decide +kernel
theorem dX8_set_95 : decode cX8_set 95 = .ok (.goto 4, 3) := by decide +kernel
theorem dX8_set_98 : decode cX8_set 98 = .ok (.iload_n 3, 1) := by decide +kernel
theorem dX8_set_99 : decode cX8_set 99 = .ok (.iastore, 1) := by decide +kernel
theorem dX8_set_100 : decode cX8_set 100 = .ok (.aload_n 0, 1) := by decide +kernel
theorem dX8_set_101 : decode cX8_set 101 = .ok (.getfield 16, 3) := by decide +kernel
theorem dX8_set_104 : decode cX8_set 104 = .ok (.bipush 40, 2) := by decide +kernel
theorem dX8_set_106 : decode cX8_set 106 = .ok (.iload_n 1, 1) := by decide +kernel
theorem dX8_set_107 : decode cX8_set 107 = .ok (.imul, 1) := by decide +kernel
theorem dX8_set_108 : decode cX8_set 108 = .ok (.iload_n 2, 1) := by decide +kernel
theorem dX8_set_109 : decode cX8_set 109 = .ok (.iadd, 1) := by decide +kernel
theorem dX8_set_110 : decode cX8_set 110 = .ok (.iaload, 1) := by decide +kernel
theorem dX8_set_111 : decode cX8_set 111 = .ok (.ireturn, 1) := by decide +kernel
theorem dX8_copy_0 : decode cX8_copy 0 = .ok (.aload_n 0, 1) := by decide +kernel
theorem dX8_copy_1 : decode cX8_copy 1 = .ok (.iconst 0, 1) := by decide +kernel
theorem dX8_copy_2 : decode cX8_copy 2 = .ok (.putfield 79, 3) := by decide +kernel
theorem dX8_copy_5 : decode cX8_copy 5 = .ok (.iload_n 1, 1) := by decide +kernel
theorem dX8_copy_6 : decode cX8_copy 6 = .ok (.invokestatic 92, 3) := by decide +kernel
theorem dX8_copy_9 : decode cX8_copy 9 = .ok (.ifCond .eq 10, 3) := by decide +kernel
theorem dX8_copy_12 : decode cX8_copy 12 = .ok (.iload_n 3, 1) := by decide +kernel
theorem dX8_copy_13 : decode cX8_copy 13 = .ok (.invokestatic 92, 3) := by decide +kernel
theorem dX8_copy_16 : decode cX8_copy 16 = .ok (.ifCond .ne 6, 3) := by decide +kernel
theorem dX8_copy_19 : decode cX8_copy 19 = .ok (.ldc 98, 2) := by decide +kernel
theorem dX8_copy_21 : decode cX8_copy 21 = .ok (.ireturn, 1) := by decide +kernel
theorem dX8_copy_22 : decode cX8_copy 22 = .ok (.aload_n 0, 1) := by decide +kernel
theorem dX8_copy_23 : decode cX8_copy 23 = .ok (.iconst 0, 1) := by decide +kernel
theorem dX8_copy_24 : decode cX8_copy 24 = .ok (.putfield 82, 3) := by decide +kernel
theorem dX8_copy_27 : decode cX8_copy 27 = .ok (.aload_n 0, 1) := by decide +kernel
theorem dX8_copy_28 : decode cX8_copy 28 = .ok (.getfield 7, 3) := by decide +kernel
theorem dX8_copy_31 : decode cX8_copy 31 = .ok (.iload_n 1, 1) := by decide +kernel
theorem dX8_copy_32 : decode cX8_copy 32 = .ok (.iaload, 1) := by decide +kernel
theorem dX8_copy_33 : decode cX8_copy 33 = .ok (.ifCond .lt 12, 3) := by decide +kernel
theorem dX8_copy_36 : decode cX8_copy 36 = .ok (.aload_n 0, 1) := by decide +kernel
theorem dX8_copy_37 : decode cX8_copy 37 = .ok (.getfield 7, 3) := by decide +kernel
theorem dX8_copy_40 : decode cX8_copy 40 = .ok (.iload_n 3, 1) := by decide +kernel
theorem dX8_copy_41 : decode cX8_copy 41 = .ok (.iaload, 1) := by decide +kernel
theorem dX8_copy_42 : decode cX8_copy 42 = .ok (.ifCond .ge 9, 3) := by decide +kernel
theorem dX8_copy_45 : decode cX8_copy 45 = .ok (.aload_n 0, 1) := by decide +kernel
theorem dX8_copy_46 : decode cX8_copy 46 = .ok (.iconst 1, 1) := by decide +kernel
theorem dX8_copy_47 : decode cX8_copy 47 = .ok (.invokevirtual 99, 3) := by decide +kernel
theorem dX8_copy_50 : decode cX8_copy 50 = .ok (.ireturn, 1) := by decide +kernel
theorem dX8_copy_51 : decode cX8_copy 51 = .ok (.aload_n 0, 1) := by decide +kernel
theorem dX8_copy_52 : decode cX8_copy 52 = .ok (.getfield 7, 3) := by decide +kernel
theorem dX8_copy_55 : decode cX8_copy 55 = .ok (.iload_n 1, 1) := by decide +kernel
theorem dX8_copy_56 : decode cX8_copy 56 = .ok (.iaload, 1) := by decide +kernel
theorem dX8_copy_57 : decode cX8_copy 57 = .ok (.aload_n 0, 1) := by decide +kernel
theorem dX8_copy_58 : decode cX8_copy 58 = .ok (.getfield 7, 3) := by decide +kernel
theorem dX8_copy_61 : decode cX8_copy 61 = .ok (.iload_n 3, 1) := by decide +kernel
theorem dX8_copy_62 : decode cX8_copy 62 = .ok (.iaload, 1) := by decide +kernel
theorem dX8_copy_63 : decode cX8_copy 63 = .ok (.if_icmp .eq 9, 3) := by decide +kernel
theorem dX8_copy_66 : decode cX8_copy 66 = .ok (.aload_n 0, 1) := by decide +kernel
theorem dX8_copy_67 : decode cX8_copy 67 = .ok (.iconst 5, 1) := by decide +kernel
theorem dX8_copy_68 : decode cX8_copy 68 = .ok (.invokevirtual 99, 3) := by decide +kernel
theorem dX8_copy_71 : decode cX8_copy 71 = .ok (.ireturn, 1) := by decide +kernel
theorem dX8_copy_72 : decode cX8_copy 72 = .ok (.iload_n 2, 1) := by decide +kernel
theorem dX8_copy_73 : decode cX8_copy 73 = .ok (.ifCond .lt 48, 3) := by decide +kernel
theorem dX8_copy_76 : decode cX8_copy 76 = .ok (.iload 4, 2) := by decide +kernel
theorem dX8_copy_78 : decode cX8_copy 78 = .ok (.ifCond .lt 43, 3) := by decide +kernel
theorem dX8_copy_81 : decode cX8_copy 81 = .ok (.iload 5, 2) := by decide +kernel
theorem dX8_copy_83 : decode cX8_copy 83 = .ok (.ifCond .lt 38, 3) := by decide +kernel
theorem dX8_copy_86 : decode cX8_copy 86 = .ok (.iload_n 2, 1) := by decide +kernel
theorem dX8_copy_87 : decode cX8_copy 87 = .ok (.i2l, 1) := by decide +kernel
theorem dX8_copy_88 : decode cX8_copy 88 = .ok (.iload 5, 2) := by decide +kernel
theorem dX8_copy_90 : decode cX8_copy 90 = .ok (.i2l, 1) := by decide +kernel
theorem dX8_copy_91 : decode cX8_copy 91 = .ok (.ladd, 1) := by decide +kernel
theorem dX8_copy_92 : decode cX8_copy 92 = .ok (.aload_n 0, 1) := by decide +kernel
theorem dX8_copy_93 : decode cX8_copy 93 = .ok (.getfield 13, 3) := by decide +kernel
theorem dX8_copy_96 : decode cX8_copy 96 = .ok (.iload_n 1, 1) := by decide +kernel
theorem dX8_copy_97 : decode cX8_copy 97 = .ok (.iaload, 1) := by decide +kernel
theorem dX8_copy_98 : decode cX8_copy 98 = .ok (.i2l, 1) := by decide +kernel
theorem dX8_copy_99 : decode cX8_copy 99 = .ok (.lcmp, 1) := by decide +kernel
theorem dX8_copy_100 : decode cX8_copy 100 = .ok (.ifCond .gt 21, 3) := by decide +kernel
theorem dX8_copy_103 : decode cX8_copy 103 = .ok (.iload 4, 2) := by decide +kernel
theorem dX8_copy_105 : decode cX8_copy 105 = .ok (.i2l, 1) := by decide +kernel
theorem dX8_copy_106 : decode cX8_copy 106 = .ok (.iload 5, 2) := by decide +kernel
theorem dX8_copy_108 : decode cX8_copy 108 = .ok (.i2l, 1) := by decide +kernel
theorem dX8_copy_109 : decode cX8_copy 109 = .ok (.ladd, 1) := by decide +kernel
theorem dX8_copy_110 : decode cX8_copy 110 = .ok (.aload_n 0, 1) := by decide +kernel
theorem dX8_copy_111 : decode cX8_copy 111 = .ok (.getfield 13, 3) := by decide +kernel
theorem dX8_copy_114 : decode cX8_copy 114 = .ok (.iload_n 3, 1) := by decide +kernel
theorem dX8_copy_115 : decode cX8_copy 115 = .ok (.iaload, 1) := by decide +kernel
theorem dX8_copy_116 : decode cX8_copy 116 = .ok (.i2l, 1) := by decide +kernel
theorem dX8_copy_117 : decode cX8_copy 117 = .ok (.lcmp, 1) := by decide +kernel
theorem dX8_copy_118 : decode cX8_copy 118 = .ok (.ifCond .le 9, 3) := by decide +kernel
theorem dX8_copy_121 : decode cX8_copy 121 = .ok (.aload_n 0, 1) := by decide +kernel
theorem dX8_copy_122 : decode cX8_copy 122 = .ok (.iconst 2, 1) := by decide +kernel
theorem dX8_copy_123 : decode cX8_copy 123 = .ok (.invokevirtual 99, 3) := by decide +kernel
theorem dX8_copy_126 : decode cX8_copy 126 = .ok (.ireturn, 1) := by decide +kernel
theorem dX8_copy_127 : decode cX8_copy 127 = .ok (.iload_n 2, 1) := by decide +kernel
theorem dX8_copy_128 : decode cX8_copy 128 = .ok (.iload 4, 2) := by decide +kernel
theorem dX8_copy_130 : decode cX8_copy 130 = .ok (.if_icmp .lt 7, 3) := by decide +kernel
theorem dX8_copy_133 : decode cX8_copy 133 = .ok (.iconst 1, 1) := by decide +kernel
theorem dX8_copy_134 : decode cX8_copy 134 = .ok (.goto 4, 3) := by decide +kernel
theorem dX8_copy_137 : decode cX8_copy 137 = .ok (.iconst 0, 1) := by decide +kernel
theorem dX8_copy_138 : decode cX8_copy 138 = .ok (.istore 6, 2) := by decide +kernel
theorem dX8_copy_140 : decode cX8_copy 140 = .ok (.iconst 0, 1) := by decide +kernel
theorem dX8_copy_141 : decode cX8_copy 141 = .ok (.istore 7, 2) := by decide +kernel
theorem dX8_copy_143 : decode cX8_copy 143 = .ok (.iload 7, 2) := by decide +kernel
theorem dX8_copy_145 : decode cX8_copy 145 = .ok (.iload 5, 2) := by decide +kernel
theorem dX8_copy_147 : decode cX8_copy 147 = .ok (.if_icmp .ge 57, 3) := by decide +kernel
theorem dX8_copy_150 : decode cX8_copy 150 = .ok (.iload 6, 2) := by decide +kernel
theorem dX8_copy_152 : decode cX8_copy 152 = .ok (.ifCond .eq 8, 3) := by decide +kernel
theorem dX8_copy_155 : decode cX8_copy 155 = .ok (.iload 7, 2) := by decide +kernel
theorem dX8_copy_157 : decode cX8_copy 157 = .ok (.goto 10, 3) := by decide +kernel
theorem dX8_copy_160 : decode cX8_copy 160 = .ok (.iload 5, 2) := by decide +kernel
theorem dX8_copy_162 : decode cX8_copy 162 = .ok (.iconst 1, 1) := by decide +kernel
theorem dX8_copy_163 : decode cX8_copy 163 = .ok (.isub, 1) := by decide +kernel
theorem dX8_copy_164 : decode cX8_copy 164 = .ok (.iload 7, 2) := by decide +kernel
theorem dX8_copy_166 : decode cX8_copy 166 = .ok (.isub, 1) := by decide +kernel
theorem dX8_copy_167 : decode cX8_copy 167 = .ok (.istore 8, 2) := by decide +kernel
theorem dX8_copy_169 : decode cX8_copy 169 = .ok (.aload_n 0, 1) := by decide +kernel
theorem dX8_copy_170 : decode cX8_copy 170 = .ok (.getfield 16, 3) := by decide +kernel
theorem dX8_copy_173 : decode cX8_copy 173 = .ok (.bipush 40, 2) := by decide +kernel
theorem dX8_copy_175 : decode cX8_copy 175 = .ok (.iload_n 3, 1) := by decide +kernel
theorem dX8_copy_176 : decode cX8_copy 176 = .ok (.imul, 1) := by decide +kernel
theorem dX8_copy_177 : decode cX8_copy 177 = .ok (.iload 4, 2) := by decide +kernel
theorem dX8_copy_179 : decode cX8_copy 179 = .ok (.iadd, 1) := by decide +kernel
theorem dX8_copy_180 : decode cX8_copy 180 = .ok (.iload 8, 2) := by decide +kernel
theorem dX8_copy_182 : decode cX8_copy 182 = .ok (.iadd, 1) := by decide +kernel
theorem dX8_copy_183 : decode cX8_copy 183 = .ok (.aload_n 0, 1) := by decide +kernel
theorem dX8_copy_184 : decode cX8_copy 184 = .ok (.getfield 16, 3) := by decide +kernel
theorem dX8_copy_187 : decode cX8_copy 187 = .ok (.bipush 40, 2) := by decide +kernel
theorem dX8_copy_189 : decode cX8_copy 189 = .ok (.iload_n 1, 1) := by decide +kernel
theorem dX8_copy_190 : decode cX8_copy 190 = .ok (.imul, 1) := by decide +kernel
theorem dX8_copy_191 : decode cX8_copy 191 = .ok (.iload_n 2, 1) := by decide +kernel
theorem dX8_copy_192 : decode cX8_copy 192 = .ok (.iadd, 1) := by decide +kernel
theorem dX8_copy_193 : decode cX8_copy 193 = .ok (.iload 8, 2) := by decide +kernel
theorem dX8_copy_195 : decode cX8_copy 195 = .ok (.iadd, 1) := by decide +kernel
theorem dX8_copy_196 : decode cX8_copy 196 = .ok (.iaload, 1) := by decide +kernel
theorem dX8_copy_197 : decode cX8_copy 197 = .ok (.iastore, 1) := by decide +kernel
theorem dX8_copy_198 : decode cX8_copy 198 = .ok (.iinc 7 1, 3) := by decide +kernel
theorem dX8_copy_201 : decode cX8_copy 201 = .ok (.goto (-58), 3) := by decide +kernel
theorem dX8_copy_204 : decode cX8_copy 204 = .ok (.iload 5, 2) := by decide +kernel
theorem dX8_copy_206 : decode cX8_copy 206 = .ok (.ireturn, 1) := by decide +kernel
theorem dX8_drop_0 : decode cX8_drop 0 = .ok (.aload_n 0, 1) := by decide +kernel
theorem dX8_drop_1 : decode cX8_drop 1 = .ok (.iconst 0, 1) := by decide +kernel
theorem dX8_drop_2 : decode cX8_drop 2 = .ok (.putfield 79, 3) := by decide +kernel
theorem dX8_drop_5 : decode cX8_drop 5 = .ok (.iload_n 1, 1) := by decide +kernel
theorem dX8_drop_6 : decode cX8_drop 6 = .ok (.invokestatic 92, 3) := by decide +kernel
theorem dX8_drop_9 : decode cX8_drop 9 = .ok (.ifCond .ne 6, 3) := by decide +kernel
theorem dX8_drop_12 : decode cX8_drop 12 = .ok (.ldc 98, 2) := by decide +kernel
theorem dX8_drop_14 : decode cX8_drop 14 = .ok (.ireturn, 1) := by decide +kernel
theorem dX8_drop_15 : decode cX8_drop 15 = .ok (.aload_n 0, 1) := by decide +kernel
theorem dX8_drop_16 : decode cX8_drop 16 = .ok (.iconst 0, 1) := by decide +kernel
theorem dX8_drop_17 : decode cX8_drop 17 = .ok (.putfield 82, 3) := by decide +kernel
theorem dX8_drop_20 : decode cX8_drop 20 = .ok (.aload_n 0, 1) := by decide +kernel
theorem dX8_drop_21 : decode cX8_drop 21 = .ok (.getfield 7, 3) := by decide +kernel
theorem dX8_drop_24 : decode cX8_drop 24 = .ok (.iload_n 1, 1) := by decide +kernel
theorem dX8_drop_25 : decode cX8_drop 25 = .ok (.iaload, 1) := by decide +kernel
theorem dX8_drop_26 : decode cX8_drop 26 = .ok (.ifCond .ge 9, 3) := by decide +kernel
theorem dX8_drop_29 : decode cX8_drop 29 = .ok (.aload_n 0, 1) := by decide +kernel
theorem dX8_drop_30 : decode cX8_drop 30 = .ok (.iconst 1, 1) := by decide +kernel
theorem dX8_drop_31 : decode cX8_drop 31 = .ok (.invokevirtual 99, 3) := by decide +kernel
theorem dX8_drop_34 : decode cX8_drop 34 = .ok (.ireturn, 1) := by decide +kernel
theorem dX8_drop_35 : decode cX8_drop 35 = .ok (.aload_n 0, 1) := by decide +kernel
theorem dX8_drop_36 : decode cX8_drop 36 = .ok (.getfield 7, 3) := by decide +kernel
theorem dX8_drop_39 : decode cX8_drop 39 = .ok (.iload_n 1, 1) := by decide +kernel
theorem dX8_drop_40 : decode cX8_drop 40 = .ok (.iconst (-1), 1) := by decide +kernel
theorem dX8_drop_41 : decode cX8_drop 41 = .ok (.iastore, 1) := by decide +kernel
theorem dX8_drop_42 : decode cX8_drop 42 = .ok (.aload_n 0, 1) := by decide +kernel
theorem dX8_drop_43 : decode cX8_drop 43 = .ok (.getfield 13, 3) := by decide +kernel
theorem dX8_drop_46 : decode cX8_drop 46 = .ok (.iload_n 1, 1) := by decide +kernel
theorem dX8_drop_47 : decode cX8_drop 47 = .ok (.iaload, 1) := by decide +kernel
theorem dX8_drop_48 : decode cX8_drop 48 = .ok (.ireturn, 1) := by decide +kernel
theorem dX8_feed_0 : decode cX8_feed 0 = .ok (.aload_n 0, 1) := by decide +kernel
theorem dX8_feed_1 : decode cX8_feed 1 = .ok (.iconst 0, 1) := by decide +kernel
theorem dX8_feed_2 : decode cX8_feed 2 = .ok (.putfield 79, 3) := by decide +kernel
theorem dX8_feed_5 : decode cX8_feed 5 = .ok (.iload_n 1, 1) := by decide +kernel
theorem dX8_feed_6 : decode cX8_feed 6 = .ok (.i2l, 1) := by decide +kernel
theorem dX8_feed_7 : decode cX8_feed 7 = .ok (.lconst 0, 1) := by decide +kernel
theorem dX8_feed_8 : decode cX8_feed 8 = .ok (.ldc2_w 103, 3) := by decide +kernel
theorem dX8_feed_11 : decode cX8_feed 11 = .ok (.invokestatic 88, 3) := by decide +kernel
theorem dX8_feed_14 : decode cX8_feed 14 = .ok (.ifCond .ne 6, 3) := by decide +kernel
theorem dX8_feed_17 : decode cX8_feed 17 = .ok (.ldc 98, 2) := by decide +kernel
theorem dX8_feed_19 : decode cX8_feed 19 = .ok (.ireturn, 1) := by decide +kernel
theorem dX8_feed_20 : decode cX8_feed 20 = .ok (.aload_n 0, 1) := by decide +kernel
theorem dX8_feed_21 : decode cX8_feed 21 = .ok (.getfield 105, 3) := by decide +kernel
theorem dX8_feed_24 : decode cX8_feed 24 = .ok (.bipush 120, 2) := by decide +kernel
theorem dX8_feed_26 : decode cX8_feed 26 = .ok (.if_icmp .ne 6, 3) := by decide +kernel
theorem dX8_feed_29 : decode cX8_feed 29 = .ok (.ldc 108, 2) := by decide +kernel
theorem dX8_feed_31 : decode cX8_feed 31 = .ok (.ireturn, 1) := by decide +kernel
theorem dX8_feed_32 : decode cX8_feed 32 = .ok (.aload_n 0, 1) := by decide +kernel
theorem dX8_feed_33 : decode cX8_feed 33 = .ok (.getfield 28, 3) := by decide +kernel
theorem dX8_feed_36 : decode cX8_feed 36 = .ok (.aload_n 0, 1) := by decide +kernel
theorem dX8_feed_37 : decode cX8_feed 37 = .ok (.getfield 105, 3) := by decide +kernel
theorem dX8_feed_40 : decode cX8_feed 40 = .ok (.iload_n 1, 1) := by decide +kernel
theorem dX8_feed_41 : decode cX8_feed 41 = .ok (.iastore, 1) := by decide +kernel
theorem dX8_feed_42 : decode cX8_feed 42 = .ok (.aload_n 0, 1) := by decide +kernel
theorem dX8_feed_43 : decode cX8_feed 43 = .ok (.dup, 1) := by decide +kernel
theorem dX8_feed_44 : decode cX8_feed 44 = .ok (.getfield 105, 3) := by decide +kernel
theorem dX8_feed_47 : decode cX8_feed 47 = .ok (.iconst 1, 1) := by decide +kernel
theorem dX8_feed_48 : decode cX8_feed 48 = .ok (.iadd, 1) := by decide +kernel
theorem dX8_feed_49 : decode cX8_feed 49 = .ok (.putfield 105, 3) := by decide +kernel
theorem dX8_feed_52 : decode cX8_feed 52 = .ok (.aload_n 0, 1) := by decide +kernel
theorem dX8_feed_53 : decode cX8_feed 53 = .ok (.getfield 105, 3) := by decide +kernel
theorem dX8_feed_56 : decode cX8_feed 56 = .ok (.ireturn, 1) := by decide +kernel
theorem dX8_bad_0 : decode cX8_bad 0 = .ok (.aload_n 0, 1) := by decide +kernel
theorem dX8_bad_1 : decode cX8_bad 1 = .ok (.getfield 109, 3) := by decide +kernel
theorem dX8_bad_4 : decode cX8_bad 4 = .ok (.ifCond .ne 16, 3) := by decide +kernel
theorem dX8_bad_7 : decode cX8_bad 7 = .ok (.aload_n 0, 1) := by decide +kernel
theorem dX8_bad_8 : decode cX8_bad 8 = .ok (.iload_n 1, 1) := by decide +kernel
theorem dX8_bad_9 : decode cX8_bad 9 = .ok (.putfield 109, 3) := by decide +kernel
theorem dX8_bad_12 : decode cX8_bad 12 = .ok (.aload_n 0, 1) := by decide +kernel
theorem dX8_bad_13 : decode cX8_bad 13 = .ok (.aload_n 0, 1) := by decide +kernel
theorem dX8_bad_14 : decode cX8_bad 14 = .ok (.getfield 112, 3) := by decide +kernel
theorem dX8_bad_17 : decode cX8_bad 17 = .ok (.putfield 115, 3) := by decide +kernel
theorem dX8_bad_20 : decode cX8_bad 20 = .ok (.return_, 1) := by decide +kernel
theorem dX8_nextToken_0 : decode cX8_nextToken 0 = .ok (.aload_n 0, 1) := by decide +kernel
theorem dX8_nextToken_1 : decode cX8_nextToken 1 = .ok (.aload_n 0, 1) := by decide +kernel
theorem dX8_nextToken_2 : decode cX8_nextToken 2 = .ok (.getfield 118, 3) := by decide +kernel
theorem dX8_nextToken_5 : decode cX8_nextToken 5 = .ok (.putfield 112, 3) := by decide +kernel
theorem dX8_nextToken_8 : decode cX8_nextToken 8 = .ok (.aload_n 0, 1) := by decide +kernel
theorem dX8_nextToken_9 : decode cX8_nextToken 9 = .ok (.aload_n 0, 1) := by decide +kernel
theorem dX8_nextToken_10 : decode cX8_nextToken 10 = .ok (.getfield 118, 3) := by decide +kernel
theorem dX8_nextToken_13 : decode cX8_nextToken 13 = .ok (.aload_n 0, 1) := by decide +kernel
theorem dX8_nextToken_14 : decode cX8_nextToken 14 = .ok (.getfield 105, 3) := by decide +kernel
theorem dX8_nextToken_17 : decode cX8_nextToken 17 = .ok (.if_icmp .ge 15, 3) := by decide +kernel
theorem dX8_nextToken_20 : decode cX8_nextToken 20 = .ok (.aload_n 0, 1) := by decide +kernel
theorem dX8_nextToken_21 : decode cX8_nextToken 21 = .ok (.getfield 28, 3) := by decide +kernel
theorem dX8_nextToken_24 : decode cX8_nextToken 24 = .ok (.aload_n 0, 1) := by decide +kernel
theorem dX8_nextToken_25 : decode cX8_nextToken 25 = .ok (.getfield 118, 3) := by decide +kernel
theorem dX8_nextToken_28 : decode cX8_nextToken 28 = .ok (.iaload, 1) := by decide +kernel
theorem dX8_nextToken_29 : decode cX8_nextToken 29 = .ok (.goto 5, 3) := by decide +kernel
theorem dX8_nextToken_32 : decode cX8_nextToken 32 = .ok (.ldc 61, 2) := by decide +kernel
theorem dX8_nextToken_34 : decode cX8_nextToken 34 = .ok (.putfield 121, 3) := by decide +kernel
theorem dX8_nextToken_37 : decode cX8_nextToken 37 = .ok (.aload_n 0, 1) := by decide +kernel
theorem dX8_nextToken_38 : decode cX8_nextToken 38 = .ok (.aload_n 0, 1) := by decide +kernel
theorem dX8_nextToken_39 : decode cX8_nextToken 39 = .ok (.getfield 118, 3) := by decide +kernel
theorem dX8_nextToken_42 : decode cX8_nextToken 42 = .ok (.aload_n 0, 1) := by decide +kernel
theorem dX8_nextToken_43 : decode cX8_nextToken 43 = .ok (.getfield 105, 3) := by decide +kernel
theorem dX8_nextToken_46 : decode cX8_nextToken 46 = .ok (.if_icmp .ne 7, 3) := by decide +kernel
theorem dX8_nextToken_49 : decode cX8_nextToken 49 = .ok (.iconst 1, 1) := by decide +kernel
theorem dX8_nextToken_50 : decode cX8_nextToken 50 = .ok (.goto 68, 3) := by decide +kernel
theorem dX8_nextToken_53 : decode cX8_nextToken 53 = .ok (.aload_n 0, 1) := by decide +kernel
theorem dX8_nextToken_54 : decode cX8_nextToken 54 = .ok (.getfield 121, 3) := by decide +kernel
theorem dX8_nextToken_57 : decode cX8_nextToken 57 = .ok (.i2l, 1) := by decide +kernel
theorem dX8_nextToken_58 : decode cX8_nextToken 58 = .ok (.ldc2_w 124, 3) := by decide +kernel
theorem dX8_nextToken_61 : decode cX8_nextToken 61 = .ok (.ldc2_w 126, 3) := by decide +kernel
theorem dX8_nextToken_64 : decode cX8_nextToken 64 = .ok (.invokestatic 88, 3) := by decide +kernel
theorem dX8_nextToken_67 : decode cX8_nextToken 67 = .ok (.ifCond .eq 7, 3) := by decide +kernel
theorem dX8_nextToken_70 : decode cX8_nextToken 70 = .ok (.iconst 2, 1) := by decide +kernel
theorem dX8_nextToken_71 : decode cX8_nextToken 71 = .ok (.goto 47, 3) := by decide +kernel
theorem dX8_nextToken_74 : decode cX8_nextToken 74 = .ok (.aload_n 0, 1) := by decide +kernel
theorem dX8_nextToken_75 : decode cX8_nextToken 75 = .ok (.getfield 121, 3) := by decide +kernel
theorem dX8_nextToken_78 : decode cX8_nextToken 78 = .ok (.i2l, 1) := by decide +kernel
theorem dX8_nextToken_79 : decode cX8_nextToken 79 = .ok (.ldc2_w 128, 3) := by decide +kernel
theorem dX8_nextToken_82 : decode cX8_nextToken 82 = .ok (.ldc2_w 130, 3) := by decide +kernel
theorem dX8_nextToken_85 : decode cX8_nextToken 85 = .ok (.invokestatic 88, 3) := by decide +kernel
theorem dX8_nextToken_88 : decode cX8_nextToken 88 = .ok (.ifCond .eq 7, 3) := by decide +kernel
theorem dX8_nextToken_91 : decode cX8_nextToken 91 = .ok (.iconst 3, 1) := by decide +kernel
theorem dX8_nextToken_92 : decode cX8_nextToken 92 = .ok (.goto 26, 3) := by decide +kernel
theorem dX8_nextToken_95 : decode cX8_nextToken 95 = .ok (.aload_n 0, 1) := by decide +kernel
theorem dX8_nextToken_96 : decode cX8_nextToken 96 = .ok (.getfield 121, 3) := by decide +kernel
theorem dX8_nextToken_99 : decode cX8_nextToken 99 = .ok (.bipush 44, 2) := by decide +kernel
theorem dX8_nextToken_101 : decode cX8_nextToken 101 = .ok (.if_icmp .eq 12, 3) := by decide +kernel
theorem dX8_nextToken_104 : decode cX8_nextToken 104 = .ok (.aload_n 0, 1) := by decide +kernel
theorem dX8_nextToken_105 : decode cX8_nextToken 105 = .ok (.getfield 121, 3) := by decide +kernel
theorem dX8_nextToken_108 : decode cX8_nextToken 108 = .ok (.bipush 59, 2) := by decide +kernel
theorem dX8_nextToken_110 : decode cX8_nextToken 110 = .ok (.if_icmp .ne 7, 3) := by decide +kernel
theorem dX8_nextToken_113 : decode cX8_nextToken 113 = .ok (.iconst 4, 1) := by decide +kernel
theorem dX8_nextToken_114 : decode cX8_nextToken 114 = .ok (.goto 4, 3) := by decide +kernel
theorem dX8_nextToken_117 : decode cX8_nextToken 117 = .ok (.iconst 0, 1) := by decide +kernel
theorem dX8_nextToken_118 : decode cX8_nextToken 118 = .ok (.putfield 132, 3) := by decide +kernel
theorem dX8_nextToken_121 : decode cX8_nextToken 121 = .ok (.aload_n 0, 1) := by decide +kernel
theorem dX8_nextToken_122 : decode cX8_nextToken 122 = .ok (.dup, 1) := by decide +kernel
theorem dX8_nextToken_123 : decode cX8_nextToken 123 = .ok (.getfield 118, 3) := by decide +kernel
theorem dX8_nextToken_126 : decode cX8_nextToken 126 = .ok (.aload_n 0, 1) := by decide +kernel
theorem dX8_nextToken_127 : decode cX8_nextToken 127 = .ok (.getfield 118, 3) := by decide +kernel
theorem dX8_nextToken_130 : decode cX8_nextToken 130 = .ok (.aload_n 0, 1) := by decide +kernel
theorem dX8_nextToken_131 : decode cX8_nextToken 131 = .ok (.getfield 105, 3) := by decide +kernel
theorem dX8_nextToken_134 : decode cX8_nextToken 134 = .ok (.if_icmp .ge 7, 3) := by decide +kernel
theorem dX8_nextToken_137 : decode cX8_nextToken 137 = .ok (.iconst 1, 1) := by decide +kernel
theorem dX8_nextToken_138 : decode cX8_nextToken 138 = .ok (.goto 4, 3) := by decide +kernel
theorem dX8_nextToken_141 : decode cX8_nextToken 141 = .ok (.iconst 0, 1) := by decide +kernel
theorem dX8_nextToken_142 : decode cX8_nextToken 142 = .ok (.iadd, 1) := by decide +kernel
theorem dX8_nextToken_143 : decode cX8_nextToken 143 = .ok (.putfield 118, 3) := by decide +kernel
theorem dX8_nextToken_146 : decode cX8_nextToken 146 = .ok (.aload_n 0, 1) := by decide +kernel
theorem dX8_nextToken_147 : decode cX8_nextToken 147 = .ok (.getfield 132, 3) := by decide +kernel
theorem dX8_nextToken_150 : decode cX8_nextToken 150 = .ok (.iconst 3, 1) := by decide +kernel
theorem dX8_nextToken_151 : decode cX8_nextToken 151 = .ok (.if_icmp .ne 126, 3) := by decide +kernel
theorem dX8_nextToken_154 : decode cX8_nextToken 154 = .ok (.aload_n 0, 1) := by decide +kernel
theorem dX8_nextToken_155 : decode cX8_nextToken 155 = .ok (.dup, 1) := by decide +kernel
theorem dX8_nextToken_156 : decode cX8_nextToken 156 = .ok (.getfield 121, 3) := by decide +kernel
theorem dX8_nextToken_159 : decode cX8_nextToken 159 = .ok (.bipush 48, 2) := by decide +kernel
theorem dX8_nextToken_161 : decode cX8_nextToken 161 = .ok (.isub, 1) := by decide +kernel
theorem dX8_nextToken_162 : decode cX8_nextToken 162 = .ok (.putfield 121, 3) := by decide +kernel
theorem dX8_nextToken_165 : decode cX8_nextToken 165 = .ok (.aload_n 0, 1) := by decide +kernel
theorem dX8_nextToken_166 : decode cX8_nextToken 166 = .ok (.getfield 118, 3) := by decide +kernel
theorem dX8_nextToken_169 : decode cX8_nextToken 169 = .ok (.aload_n 0, 1) := by decide +kernel
theorem dX8_nextToken_170 : decode cX8_nextToken 170 = .ok (.getfield 105, 3) := by decide +kernel
theorem dX8_nextToken_173 : decode cX8_nextToken 173 = .ok (.if_icmp .ge 82, 3) := by decide +kernel
theorem dX8_nextToken_176 : decode cX8_nextToken 176 = .ok (.aload_n 0, 1) := by decide +kernel
theorem dX8_nextToken_177 : decode cX8_nextToken 177 = .ok (.getfield 28, 3) := by decide +kernel
theorem dX8_nextToken_180 : decode cX8_nextToken 180 = .ok (.aload_n 0, 1) := by decide +kernel
theorem dX8_nextToken_181 : decode cX8_nextToken 181 = .ok (.getfield 118, 3) := by decide +kernel
theorem dX8_nextToken_184 : decode cX8_nextToken 184 = .ok (.iaload, 1) := by decide +kernel
theorem dX8_nextToken_185 : decode cX8_nextToken 185 = .ok (.i2l, 1) := by decide +kernel
theorem dX8_nextToken_186 : decode cX8_nextToken 186 = .ok (.ldc2_w 128, 3) := by decide +kernel
theorem dX8_nextToken_189 : decode cX8_nextToken 189 = .ok (.ldc2_w 130, 3) := by decide +kernel
theorem dX8_nextToken_192 : decode cX8_nextToken 192 = .ok (.invokestatic 88, 3) := by decide +kernel
theorem dX8_nextToken_195 : decode cX8_nextToken 195 = .ok (.ifCond .eq 60, 3) := by decide +kernel
theorem dX8_nextToken_198 : decode cX8_nextToken 198 = .ok (.aload_n 0, 1) := by decide +kernel
theorem dX8_nextToken_199 : decode cX8_nextToken 199 = .ok (.aload_n 0, 1) := by decide +kernel
theorem dX8_nextToken_200 : decode cX8_nextToken 200 = .ok (.getfield 118, 3) := by decide +kernel
theorem dX8_nextToken_203 : decode cX8_nextToken 203 = .ok (.aload_n 0, 1) := by decide +kernel
theorem dX8_nextToken_204 : decode cX8_nextToken 204 = .ok (.getfield 112, 3) := by decide +kernel
theorem dX8_nextToken_207 : decode cX8_nextToken 207 = .ok (.isub, 1) := by decide +kernel
theorem dX8_nextToken_208 : decode cX8_nextToken 208 = .ok (.iconst 2, 1) := by decide +kernel
theorem dX8_nextToken_209 : decode cX8_nextToken 209 = .ok (.if_icmp .ge 26, 3) := by decide +kernel
theorem dX8_nextToken_212 : decode cX8_nextToken 212 = .ok (.bipush 10, 2) := by decide +kernel
theorem dX8_nextToken_214 : decode cX8_nextToken 214 = .ok (.aload_n 0, 1) := by decide +kernel
theorem dX8_nextToken_215 : decode cX8_nextToken 215 = .ok (.getfield 121, 3) := by decide +kernel
theorem dX8_nextToken_218 : decode cX8_nextToken 218 = .ok (.imul, 1) := by decide +kernel
theorem dX8_nextToken_219 : decode cX8_nextToken 219 = .ok (.aload_n 0, 1) := by decide +kernel
theorem dX8_nextToken_220 : decode cX8_nextToken 220 = .ok (.getfield 28, 3) := by decide +kernel
theorem dX8_nextToken_223 : decode cX8_nextToken 223 = .ok (.aload_n 0, 1) := by decide +kernel
theorem dX8_nextToken_224 : decode cX8_nextToken 224 = .ok (.getfield 118, 3) := by decide +kernel
theorem dX8_nextToken_227 : decode cX8_nextToken 227 = .ok (.iaload, 1) := by decide +kernel
theorem dX8_nextToken_228 : decode cX8_nextToken 228 = .ok (.iadd, 1) := by decide +kernel
theorem dX8_nextToken_229 : decode cX8_nextToken 229 = .ok (.bipush 48, 2) := by decide +kernel
theorem dX8_nextToken_231 : decode cX8_nextToken 231 = .ok (.isub, 1) := by decide +kernel
theorem dX8_nextToken_232 : decode cX8_nextToken 232 = .ok (.goto 7, 3) := by decide +kernel
theorem dX8_nextToken_235 : decode cX8_nextToken 235 = .ok (.aload_n 0, 1) := by decide +kernel
theorem dX8_nextToken_236 : decode cX8_nextToken 236 = .ok (.getfield 121, 3) := by decide +kernel
theorem dX8_nextToken_239 : decode cX8_nextToken 239 = .ok (.putfield 121, 3) := by decide +kernel
theorem dX8_nextToken_242 : decode cX8_nextToken 242 = .ok (.aload_n 0, 1) := by decide +kernel
theorem dX8_nextToken_243 : decode cX8_nextToken 243 = .ok (.dup, 1) := by decide +kernel
theorem dX8_nextToken_244 : decode cX8_nextToken 244 = .ok (.getfield 118, 3) := by decide +kernel
theorem dX8_nextToken_247 : decode cX8_nextToken 247 = .ok (.iconst 1, 1) := by decide +kernel
theorem dX8_nextToken_248 : decode cX8_nextToken 248 = .ok (.iadd, 1) := by decide +kernel
theorem dX8_nextToken_249 : decode cX8_nextToken 249 = .ok (.putfield 118, 3) := by decide +kernel
theorem dX8_nextToken_252 : decode cX8_nextToken 252 = .ok (.goto (-87), 3) := by decide +kernel
theorem dX8_nextToken_255 : decode cX8_nextToken 255 = .ok (.aload_n 0, 1) := by decide +kernel
theorem dX8_nextToken_256 : decode cX8_nextToken 256 = .ok (.aload_n 0, 1) := by decide +kernel
theorem dX8_nextToken_257 : decode cX8_nextToken 257 = .ok (.getfield 118, 3) := by decide +kernel
theorem dX8_nextToken_260 : decode cX8_nextToken 260 = .ok (.aload_n 0, 1) := by decide +kernel
theorem dX8_nextToken_261 : decode cX8_nextToken 261 = .ok (.getfield 112, 3) := by decide +kernel
theorem dX8_nextToken_264 : decode cX8_nextToken 264 = .ok (.isub, 1) := by decide +kernel
theorem dX8_nextToken_265 : decode cX8_nextToken 265 = .ok (.iconst 2, 1) := by decide +kernel
theorem dX8_nextToken_266 : decode cX8_nextToken 266 = .ok (.if_icmp .le 7, 3) := by decide +kernel
theorem dX8_nextToken_269 : decode cX8_nextToken 269 = .ok (.iconst 0, 1) := by decide +kernel
theorem dX8_nextToken_270 : decode cX8_nextToken 270 = .ok (.goto 4, 3) := by decide +kernel
theorem dX8_nextToken_273 : decode cX8_nextToken 273 = .ok (.iconst 3, 1) := by decide +kernel
theorem dX8_nextToken_274 : decode cX8_nextToken 274 = .ok (.putfield 132, 3) := by decide +kernel
theorem dX8_nextToken_277 : decode cX8_nextToken 277 = .ok (.return_, 1) := by decide +kernel
theorem dX8_must_0 : decode cX8_must 0 = .ok (.iload_n 1, 1) := by decide +kernel
theorem dX8_must_1 : decode cX8_must 1 = .ok (.ifCond .ne 8, 3) := by decide +kernel
theorem dX8_must_4 : decode cX8_must 4 = .ok (.aload_n 0, 1) := by decide +kernel
theorem dX8_must_5 : decode cX8_must 5 = .ok (.iconst 1, 1) := by decide +kernel
theorem dX8_must_6 : decode cX8_must 6 = .ok (.invokevirtual 135, 3) := by decide +kernel
theorem dX8_must_9 : decode cX8_must 9 = .ok (.aload_n 0, 1) := by decide +kernel
theorem dX8_must_10 : decode cX8_must 10 = .ok (.getfield 109, 3) := by decide +kernel
theorem dX8_must_13 : decode cX8_must 13 = .ok (.ifCond .ne 7, 3) := by decide +kernel
theorem dX8_must_16 : decode cX8_must 16 = .ok (.aload_n 0, 1) := by decide +kernel
theorem dX8_must_17 : decode cX8_must 17 = .ok (.invokevirtual 139, 3) := by decide +kernel
theorem dX8_must_20 : decode cX8_must 20 = .ok (.return_, 1) := by decide +kernel
theorem dX8_isLetter_0 : decode cX8_isLetter 0 = .ok (.aload_n 0, 1) := by decide +kernel
theorem dX8_isLetter_1 : decode cX8_isLetter 1 = .ok (.getfield 109, 3) := by decide +kernel
theorem dX8_isLetter_4 : decode cX8_isLetter 4 = .ok (.ifCond .ne 23, 3) := by decide +kernel
theorem dX8_isLetter_7 : decode cX8_isLetter 7 = .ok (.aload_n 0, 1) := by decide +kernel
theorem dX8_isLetter_8 : decode cX8_isLetter 8 = .ok (.getfield 132, 3) := by decide +kernel
theorem dX8_isLetter_11 : decode cX8_isLetter 11 = .ok (.iconst 2, 1) := by decide +kernel
theorem dX8_isLetter_12 : decode cX8_isLetter 12 = .ok (.if_icmp .ne 15, 3) := by decide +kernel
theorem dX8_isLetter_15 : decode cX8_isLetter 15 = .ok (.aload_n 0, 1) := by decide +kernel
theorem dX8_isLetter_16 : decode cX8_isLetter 16 = .ok (.getfield 121, 3) := by decide +kernel
theorem dX8_isLetter_19 : decode cX8_isLetter 19 = .ok (.iload_n 1, 1) := by decide +kernel
theorem dX8_isLetter_20 : decode cX8_isLetter 20 = .ok (.if_icmp .ne 7, 3) := by decide +kernel
theorem dX8_isLetter_23 : decode cX8_isLetter 23 = .ok (.iconst 1, 1) := by decide +kernel
theorem dX8_isLetter_24 : decode cX8_isLetter 24 = .ok (.goto 4, 3) := by decide +kernel
theorem dX8_isLetter_27 : decode cX8_isLetter 27 = .ok (.iconst 0, 1) := by decide +kernel
theorem dX8_isLetter_28 : decode cX8_isLetter 28 = .ok (.ireturn, 1) := by decide +kernel
theorem dX8_number_0 : decode cX8_number 0 = .ok (.aload_n 0, 1) := by decide +kernel
theorem dX8_number_1 : decode cX8_number 1 = .ok (.getfield 109, 3) := by decide +kernel
theorem dX8_number_4 : decode cX8_number 4 = .ok (.ifCond .ne 16, 3) := by decide +kernel
theorem dX8_number_7 : decode cX8_number 7 = .ok (.aload_n 0, 1) := by decide +kernel
theorem dX8_number_8 : decode cX8_number 8 = .ok (.getfield 132, 3) := by decide +kernel
theorem dX8_number_11 : decode cX8_number 11 = .ok (.iconst 3, 1) := by decide +kernel
theorem dX8_number_12 : decode cX8_number 12 = .ok (.if_icmp .eq 8, 3) := by decide +kernel
theorem dX8_number_15 : decode cX8_number 15 = .ok (.aload_n 0, 1) := by decide +kernel
theorem dX8_number_16 : decode cX8_number 16 = .ok (.iconst 1, 1) := by decide +kernel
theorem dX8_number_17 : decode cX8_number 17 = .ok (.invokevirtual 135, 3) := by decide +kernel
theorem dX8_number_20 : decode cX8_number 20 = .ok (.aload_n 0, 1) := by decide +kernel
theorem dX8_number_21 : decode cX8_number 21 = .ok (.getfield 109, 3) := by decide +kernel
theorem dX8_number_24 : decode cX8_number 24 = .ok (.ifCond .ne 23, 3) := by decide +kernel
theorem dX8_number_27 : decode cX8_number 27 = .ok (.aload_n 0, 1) := by decide +kernel
theorem dX8_number_28 : decode cX8_number 28 = .ok (.getfield 121, 3) := by decide +kernel
theorem dX8_number_31 : decode cX8_number 31 = .ok (.i2l, 1) := by decide +kernel
theorem dX8_number_32 : decode cX8_number 32 = .ok (.iload_n 1, 1) := by decide +kernel
theorem dX8_number_33 : decode cX8_number 33 = .ok (.i2l, 1) := by decide +kernel
theorem dX8_number_34 : decode cX8_number 34 = .ok (.iload_n 2, 1) := by decide +kernel
theorem dX8_number_35 : decode cX8_number 35 = .ok (.i2l, 1) := by decide +kernel
theorem dX8_number_36 : decode cX8_number 36 = .ok (.invokestatic 88, 3) := by decide +kernel
theorem dX8_number_39 : decode cX8_number 39 = .ok (.ifCond .ne 8, 3) := by decide +kernel
theorem dX8_number_42 : decode cX8_number 42 = .ok (.aload_n 0, 1) := by decide +kernel
theorem dX8_number_43 : decode cX8_number 43 = .ok (.iconst 2, 1) := by decide +kernel
theorem dX8_number_44 : decode cX8_number 44 = .ok (.invokevirtual 135, 3) := by decide +kernel
theorem dX8_number_47 : decode cX8_number 47 = .ok (.aload_n 0, 1) := by decide +kernel
theorem dX8_number_48 : decode cX8_number 48 = .ok (.getfield 109, 3) := by decide +kernel
theorem dX8_number_51 : decode cX8_number 51 = .ok (.ifCond .ne 10, 3) := by decide +kernel
theorem dX8_number_54 : decode cX8_number 54 = .ok (.aload_n 0, 1) := by decide +kernel
theorem dX8_number_55 : decode cX8_number 55 = .ok (.getfield 121, 3) := by decide +kernel
theorem dX8_number_58 : decode cX8_number 58 = .ok (.goto 4, 3) := by decide +kernel
theorem dX8_number_61 : decode cX8_number 61 = .ok (.iload_n 1, 1) := by decide +kernel
theorem dX8_number_62 : decode cX8_number 62 = .ok (.istore_n 3, 1) := by decide +kernel
theorem dX8_number_63 : decode cX8_number 63 = .ok (.aload_n 0, 1) := by decide +kernel
theorem dX8_number_64 : decode cX8_number 64 = .ok (.iconst 1, 1) := by decide +kernel
theorem dX8_number_65 : decode cX8_number 65 = .ok (.invokevirtual 142, 3) := by decide +kernel
theorem dX8_number_68 : decode cX8_number 68 = .ok (.iload_n 3, 1) := by decide +kernel
theorem dX8_number_69 : decode cX8_number 69 = .ok (.ireturn, 1) := by decide +kernel
theorem dX8_mustSign_0 : decode cX8_mustSign 0 = .ok (.aload_n 0, 1) := by decide +kernel
theorem dX8_mustSign_1 : decode cX8_mustSign 1 = .ok (.aload_n 0, 1) := by decide +kernel
theorem dX8_mustSign_2 : decode cX8_mustSign 2 = .ok (.getfield 132, 3) := by decide +kernel
theorem dX8_mustSign_5 : decode cX8_mustSign 5 = .ok (.iconst 4, 1) := by decide +kernel
theorem dX8_mustSign_6 : decode cX8_mustSign 6 = .ok (.if_icmp .ne 15, 3) := by decide +kernel
theorem dX8_mustSign_9 : decode cX8_mustSign 9 = .ok (.aload_n 0, 1) := by decide +kernel
theorem dX8_mustSign_10 : decode cX8_mustSign 10 = .ok (.getfield 121, 3) := by decide +kernel
theorem dX8_mustSign_13 : decode cX8_mustSign 13 = .ok (.iload_n 1, 1) := by decide +kernel
theorem dX8_mustSign_14 : decode cX8_mustSign 14 = .ok (.if_icmp .ne 7, 3) := by decide +kernel
theorem dX8_mustSign_17 : decode cX8_mustSign 17 = .ok (.iconst 1, 1) := by decide +kernel
theorem dX8_mustSign_18 : decode cX8_mustSign 18 = .ok (.goto 4, 3) := by decide +kernel
theorem dX8_mustSign_21 : decode cX8_mustSign 21 = .ok (.iconst 0, 1) := by decide +kernel
theorem dX8_mustSign_22 : decode cX8_mustSign 22 = .ok (.invokevirtual 142, 3) := by decide +kernel
theorem dX8_mustSign_25 : decode cX8_mustSign 25 = .ok (.return_, 1) := by decide +kernel
theorem dX8_beginText_0 : decode cX8_beginText 0 = .ok (.aload_n 0, 1) := by decide +kernel
theorem dX8_beginText_1 : decode cX8_beginText 1 = .ok (.iconst 0, 1) := by decide +kernel
theorem dX8_beginText_2 : decode cX8_beginText 2 = .ok (.putfield 118, 3) := by decide +kernel
theorem dX8_beginText_5 : decode cX8_beginText 5 = .ok (.aload_n 0, 1) := by decide +kernel
theorem dX8_beginText_6 : decode cX8_beginText 6 = .ok (.iconst 0, 1) := by decide +kernel
theorem dX8_beginText_7 : decode cX8_beginText 7 = .ok (.putfield 109, 3) := by decide +kernel
theorem dX8_beginText_10 : decode cX8_beginText 10 = .ok (.aload_n 0, 1) := by decide +kernel
theorem dX8_beginText_11 : decode cX8_beginText 11 = .ok (.invokevirtual 139, 3) := by decide +kernel
theorem dX8_beginText_14 : decode cX8_beginText 14 = .ok (.return_, 1) := by decide +kernel
theorem dX8_failed_0 : decode cX8_failed 0 = .ok (.aload_n 0, 1) := by decide +kernel
theorem dX8_failed_1 : decode cX8_failed 1 = .ok (.getfield 109, 3) := by decide +kernel
theorem dX8_failed_4 : decode cX8_failed 4 = .ok (.ifCond .ne 16, 3) := by decide +kernel
theorem dX8_failed_7 : decode cX8_failed 7 = .ok (.aload_n 0, 1) := by decide +kernel
theorem dX8_failed_8 : decode cX8_failed 8 = .ok (.getfield 132, 3) := by decide +kernel
theorem dX8_failed_11 : decode cX8_failed 11 = .ok (.iconst 1, 1) := by decide +kernel
theorem dX8_failed_12 : decode cX8_failed 12 = .ok (.if_icmp .eq 8, 3) := by decide +kernel
theorem dX8_failed_15 : decode cX8_failed 15 = .ok (.aload_n 0, 1) := by decide +kernel
theorem dX8_failed_16 : decode cX8_failed 16 = .ok (.iconst 1, 1) := by decide +kernel
theorem dX8_failed_17 : decode cX8_failed 17 = .ok (.invokevirtual 135, 3) := by decide +kernel
theorem dX8_failed_20 : decode cX8_failed 20 = .ok (.aload_n 0, 1) := by decide +kernel
theorem dX8_failed_21 : decode cX8_failed 21 = .ok (.iconst 0, 1) := by decide +kernel
theorem dX8_failed_22 : decode cX8_failed 22 = .ok (.putfield 105, 3) := by decide +kernel
theorem dX8_failed_25 : decode cX8_failed 25 = .ok (.aload_n 0, 1) := by decide +kernel
theorem dX8_failed_26 : decode cX8_failed 26 = .ok (.aload_n 0, 1) := by decide +kernel
theorem dX8_failed_27 : decode cX8_failed 27 = .ok (.getfield 109, 3) := by decide +kernel
theorem dX8_failed_30 : decode cX8_failed 30 = .ok (.ifCond .le 10, 3) := by decide +kernel
theorem dX8_failed_33 : decode cX8_failed 33 = .ok (.aload_n 0, 1) := by decide +kernel
theorem dX8_failed_34 : decode cX8_failed 34 = .ok (.getfield 109, 3) := by decide +kernel
theorem dX8_failed_37 : decode cX8_failed 37 = .ok (.goto 7, 3) := by decide +kernel
theorem dX8_failed_40 : decode cX8_failed 40 = .ok (.aload_n 0, 1) := by decide +kernel
theorem dX8_failed_41 : decode cX8_failed 41 = .ok (.getfield 146, 3) := by decide +kernel
theorem dX8_failed_44 : decode cX8_failed 44 = .ok (.putfield 146, 3) := by decide +kernel
theorem dX8_failed_47 : decode cX8_failed 47 = .ok (.aload_n 0, 1) := by decide +kernel
theorem dX8_failed_48 : decode cX8_failed 48 = .ok (.getfield 109, 3) := by decide +kernel
theorem dX8_failed_51 : decode cX8_failed 51 = .ok (.ifCond .le 7, 3) := by decide +kernel
theorem dX8_failed_54 : decode cX8_failed 54 = .ok (.iconst 1, 1) := by decide +kernel
theorem dX8_failed_55 : decode cX8_failed 55 = .ok (.goto 4, 3) := by decide +kernel
theorem dX8_failed_58 : decode cX8_failed 58 = .ok (.iconst 0, 1) := by decide +kernel
theorem dX8_failed_59 : decode cX8_failed 59 = .ok (.ireturn, 1) := by decide +kernel
theorem dX8_fault_0 : decode cX8_fault 0 = .ok (.aload_n 0, 1) := by decide +kernel
theorem dX8_fault_1 : decode cX8_fault 1 = .ok (.iconst 0, 1) := by decide +kernel
theorem dX8_fault_2 : decode cX8_fault 2 = .ok (.putfield 79, 3) := by decide +kernel
theorem dX8_fault_5 : decode cX8_fault 5 = .ok (.aload_n 0, 1) := by decide +kernel
theorem dX8_fault_6 : decode cX8_fault 6 = .ok (.getfield 146, 3) := by decide +kernel
theorem dX8_fault_9 : decode cX8_fault 9 = .ok (.ireturn, 1) := by decide +kernel
theorem dX8_kindBy_0 : decode cX8_kindBy 0 = .ok (.iload_n 0, 1) := by decide +kernel
theorem dX8_kindBy_1 : decode cX8_kindBy 1 = .ok (.bipush 112, 2) := by decide +kernel
theorem dX8_kindBy_3 : decode cX8_kindBy 3 = .ok (.if_icmp .ne 7, 3) := by decide +kernel
theorem dX8_kindBy_6 : decode cX8_kindBy 6 = .ok (.iconst 1, 1) := by decide +kernel
theorem dX8_kindBy_7 : decode cX8_kindBy 7 = .ok (.goto 45, 3) := by decide +kernel
theorem dX8_kindBy_10 : decode cX8_kindBy 10 = .ok (.iload_n 0, 1) := by decide +kernel
theorem dX8_kindBy_11 : decode cX8_kindBy 11 = .ok (.bipush 113, 2) := by decide +kernel
theorem dX8_kindBy_13 : decode cX8_kindBy 13 = .ok (.if_icmp .ne 7, 3) := by decide +kernel
theorem dX8_kindBy_16 : decode cX8_kindBy 16 = .ok (.iconst 2, 1) := by decide +kernel
theorem dX8_kindBy_17 : decode cX8_kindBy 17 = .ok (.goto 35, 3) := by decide +kernel
theorem dX8_kindBy_20 : decode cX8_kindBy 20 = .ok (.iload_n 0, 1) := by decide +kernel
theorem dX8_kindBy_21 : decode cX8_kindBy 21 = .ok (.bipush 115, 2) := by decide +kernel
theorem dX8_kindBy_23 : decode cX8_kindBy 23 = .ok (.if_icmp .ne 7, 3) := by decide +kernel
theorem dX8_kindBy_26 : decode cX8_kindBy 26 = .ok (.iconst 3, 1) := by decide +kernel
theorem dX8_kindBy_27 : decode cX8_kindBy 27 = .ok (.goto 25, 3) := by decide +kernel
theorem dX8_kindBy_30 : decode cX8_kindBy 30 = .ok (.iload_n 0, 1) := by decide +kernel
theorem dX8_kindBy_31 : decode cX8_kindBy 31 = .ok (.bipush 119, 2) := by decide +kernel
theorem dX8_kindBy_33 : decode cX8_kindBy 33 = .ok (.if_icmp .ne 7, 3) := by decide +kernel
theorem dX8_kindBy_36 : decode cX8_kindBy 36 = .ok (.iconst 4, 1) := by decide +kernel
theorem dX8_kindBy_37 : decode cX8_kindBy 37 = .ok (.goto 15, 3) := by decide +kernel
theorem dX8_kindBy_40 : decode cX8_kindBy 40 = .ok (.iload_n 0, 1) := by decide +kernel
theorem dX8_kindBy_41 : decode cX8_kindBy 41 = .ok (.bipush 107, 2) := by decide +kernel
theorem dX8_kindBy_43 : decode cX8_kindBy 43 = .ok (.if_icmp .ne 7, 3) := by decide +kernel
theorem dX8_kindBy_46 : decode cX8_kindBy 46 = .ok (.iconst 5, 1) := by decide +kernel
theorem dX8_kindBy_47 : decode cX8_kindBy 47 = .ok (.goto 5, 3) := by decide +kernel
theorem dX8_kindBy_50 : decode cX8_kindBy 50 = .ok (.ldc 61, 2) := by decide +kernel
theorem dX8_kindBy_52 : decode cX8_kindBy 52 = .ok (.ireturn, 1) := by decide +kernel
theorem dX8_begins_0 : decode cX8_begins 0 = .ok (.aload_n 0, 1) := by decide +kernel
theorem dX8_begins_1 : decode cX8_begins 1 = .ok (.getfield 22, 3) := by decide +kernel
theorem dX8_begins_4 : decode cX8_begins 4 = .ok (.iload_n 1, 1) := by decide +kernel
theorem dX8_begins_5 : decode cX8_begins 5 = .ok (.iaload, 1) := by decide +kernel
theorem dX8_begins_6 : decode cX8_begins 6 = .ok (.iload_n 2, 1) := by decide +kernel
theorem dX8_begins_7 : decode cX8_begins 7 = .ok (.if_icmp .ne 8, 3) := by decide +kernel
theorem dX8_begins_10 : decode cX8_begins 10 = .ok (.aload_n 0, 1) := by decide +kernel
theorem dX8_begins_11 : decode cX8_begins 11 = .ok (.iconst 3, 1) := by decide +kernel
theorem dX8_begins_12 : decode cX8_begins 12 = .ok (.invokevirtual 135, 3) := by decide +kernel
theorem dX8_begins_15 : decode cX8_begins 15 = .ok (.aload_n 0, 1) := by decide +kernel
theorem dX8_begins_16 : decode cX8_begins 16 = .ok (.iconst 1, 1) := by decide +kernel
theorem dX8_begins_17 : decode cX8_begins 17 = .ok (.invokevirtual 142, 3) := by decide +kernel
theorem dX8_begins_20 : decode cX8_begins 20 = .ok (.return_, 1) := by decide +kernel
theorem dX8_readHens_0 : decode cX8_readHens 0 = .ok (.aload_n 0, 1) := by decide +kernel
theorem dX8_readHens_1 : decode cX8_readHens 1 = .ok (.bipush 6, 2) := by decide +kernel
theorem dX8_readHens_3 : decode cX8_readHens 3 = .ok (.iconst 3, 1) := by decide +kernel
theorem dX8_readHens_4 : decode cX8_readHens 4 = .ok (.invokevirtual 149, 3) := by decide +kernel
theorem dX8_readHens_7 : decode cX8_readHens 7 = .ok (.aload_n 0, 1) := by decide +kernel
theorem dX8_readHens_8 : decode cX8_readHens 8 = .ok (.iconst 0, 1) := by decide +kernel
theorem dX8_readHens_9 : decode cX8_readHens 9 = .ok (.bipush 23, 2) := by decide +kernel
theorem dX8_readHens_11 : decode cX8_readHens 11 = .ok (.invokevirtual 153, 3) := by decide +kernel
theorem dX8_readHens_14 : decode cX8_readHens 14 = .ok (.istore_n 1, 1) := by decide +kernel
theorem dX8_readHens_15 : decode cX8_readHens 15 = .ok (.aload_n 0, 1) := by decide +kernel
theorem dX8_readHens_16 : decode cX8_readHens 16 = .ok (.bipush 44, 2) := by decide +kernel
theorem dX8_readHens_18 : decode cX8_readHens 18 = .ok (.invokevirtual 157, 3) := by decide +kernel
theorem dX8_readHens_21 : decode cX8_readHens 21 = .ok (.aload_n 0, 1) := by decide +kernel
theorem dX8_readHens_22 : decode cX8_readHens 22 = .ok (.iconst 1, 1) := by decide +kernel
theorem dX8_readHens_23 : decode cX8_readHens 23 = .ok (.bipush 9, 2) := by decide +kernel
theorem dX8_readHens_25 : decode cX8_readHens 25 = .ok (.invokevirtual 153, 3) := by decide +kernel
theorem dX8_readHens_28 : decode cX8_readHens 28 = .ok (.istore_n 2, 1) := by decide +kernel
theorem dX8_readHens_29 : decode cX8_readHens 29 = .ok (.aload_n 0, 1) := by decide +kernel
theorem dX8_readHens_30 : decode cX8_readHens 30 = .ok (.bipush 59, 2) := by decide +kernel
theorem dX8_readHens_32 : decode cX8_readHens 32 = .ok (.invokevirtual 157, 3) := by decide +kernel
theorem dX8_readHens_35 : decode cX8_readHens 35 = .ok (.aload_n 0, 1) := by decide +kernel
theorem dX8_readHens_36 : decode cX8_readHens 36 = .ok (.getfield 109, 3) := by decide +kernel
theorem dX8_readHens_39 : decode cX8_readHens 39 = .ok (.ifCond .ne 52, 3) := by decide +kernel
theorem dX8_readHens_42 : decode cX8_readHens 42 = .ok (.aload_n 0, 1) := by decide +kernel
theorem dX8_readHens_43 : decode cX8_readHens 43 = .ok (.getfield 22, 3) := by decide +kernel
theorem dX8_readHens_46 : decode cX8_readHens 46 = .ok (.bipush 11, 2) := by decide +kernel
theorem dX8_readHens_48 : decode cX8_readHens 48 = .ok (.iconst 2, 1) := by decide +kernel
theorem dX8_readHens_49 : decode cX8_readHens 49 = .ok (.aload_n 0, 1) := by decide +kernel
theorem dX8_readHens_50 : decode cX8_readHens 50 = .ok (.getfield 22, 3) := by decide +kernel
theorem dX8_readHens_53 : decode cX8_readHens 53 = .ok (.bipush 6, 2) := by decide +kernel
theorem dX8_readHens_55 : decode cX8_readHens 55 = .ok (.iaload, 1) := by decide +kernel
theorem dX8_readHens_56 : decode cX8_readHens 56 = .ok (.imul, 1) := by decide +kernel
theorem dX8_readHens_57 : decode cX8_readHens 57 = .ok (.iadd, 1) := by decide +kernel
theorem dX8_readHens_58 : decode cX8_readHens 58 = .ok (.iload_n 1, 1) := by decide +kernel
theorem dX8_readHens_59 : decode cX8_readHens 59 = .ok (.iastore, 1) := by decide +kernel
theorem dX8_readHens_60 : decode cX8_readHens 60 = .ok (.aload_n 0, 1) := by decide +kernel
theorem dX8_readHens_61 : decode cX8_readHens 61 = .ok (.getfield 22, 3) := by decide +kernel
theorem dX8_readHens_64 : decode cX8_readHens 64 = .ok (.bipush 11, 2) := by decide +kernel
theorem dX8_readHens_66 : decode cX8_readHens 66 = .ok (.iconst 2, 1) := by decide +kernel
theorem dX8_readHens_67 : decode cX8_readHens 67 = .ok (.aload_n 0, 1) := by decide +kernel
theorem dX8_readHens_68 : decode cX8_readHens 68 = .ok (.getfield 22, 3) := by decide +kernel
theorem dX8_readHens_71 : decode cX8_readHens 71 = .ok (.bipush 6, 2) := by decide +kernel
theorem dX8_readHens_73 : decode cX8_readHens 73 = .ok (.iaload, 1) := by decide +kernel
theorem dX8_readHens_74 : decode cX8_readHens 74 = .ok (.imul, 1) := by decide +kernel
theorem dX8_readHens_75 : decode cX8_readHens 75 = .ok (.iadd, 1) := by decide +kernel
theorem dX8_readHens_76 : decode cX8_readHens 76 = .ok (.iconst 1, 1) := by decide +kernel
theorem dX8_readHens_77 : decode cX8_readHens 77 = .ok (.iadd, 1) := by decide +kernel
theorem dX8_readHens_78 : decode cX8_readHens 78 = .ok (.iload_n 2, 1) := by decide +kernel
theorem dX8_readHens_79 : decode cX8_readHens 79 = .ok (.iastore, 1) := by decide +kernel
theorem dX8_readHens_80 : decode cX8_readHens 80 = .ok (.aload_n 0, 1) := by decide +kernel
theorem dX8_readHens_81 : decode cX8_readHens 81 = .ok (.getfield 22, 3) := by decide +kernel
theorem dX8_readHens_84 : decode cX8_readHens 84 = .ok (.bipush 6, 2) := by decide +kernel
theorem dX8_readHens_86 : decode cX8_readHens 86 = .ok (.dup2, 1) := by decide +kernel
theorem dX8_readHens_87 : decode cX8_readHens 87 = .ok (.iaload, 1) := by decide +kernel
theorem dX8_readHens_88 : decode cX8_readHens 88 = .ok (.iconst 1, 1) := by decide +kernel
theorem dX8_readHens_89 : decode cX8_readHens 89 = .ok (.iadd, 1) := by decide +kernel
theorem dX8_readHens_90 : decode cX8_readHens 90 = .ok (.iastore, 1) := by decide +kernel
theorem dX8_readHens_91 : decode cX8_readHens 91 = .ok (.return_, 1) := by decide +kernel
theorem dX8_readTree_0 : decode cX8_readTree 0 = .ok (.aload_n 0, 1) := by decide +kernel
theorem dX8_readTree_1 : decode cX8_readTree 1 = .ok (.bipush 7, 2) := by decide +kernel
theorem dX8_readTree_3 : decode cX8_readTree 3 = .ok (.bipush 6, 2) := by decide +kernel
theorem dX8_readTree_5 : decode cX8_readTree 5 = .ok (.invokevirtual 149, 3) := by decide +kernel
theorem dX8_readTree_8 : decode cX8_readTree 8 = .ok (.aload_n 0, 1) := by decide +kernel
theorem dX8_readTree_9 : decode cX8_readTree 9 = .ok (.getfield 109, 3) := by decide +kernel
theorem dX8_readTree_12 : decode cX8_readTree 12 = .ok (.ifCond .ne 28, 3) := by decide +kernel
theorem dX8_readTree_15 : decode cX8_readTree 15 = .ok (.aload_n 0, 1) := by decide +kernel
theorem dX8_readTree_16 : decode cX8_readTree 16 = .ok (.getfield 132, 3) := by decide +kernel
theorem dX8_readTree_19 : decode cX8_readTree 19 = .ok (.iconst 3, 1) := by decide +kernel
theorem dX8_readTree_20 : decode cX8_readTree 20 = .ok (.if_icmp .ne 20, 3) := by decide +kernel
theorem dX8_readTree_23 : decode cX8_readTree 23 = .ok (.aload_n 0, 1) := by decide +kernel
theorem dX8_readTree_24 : decode cX8_readTree 24 = .ok (.getfield 121, 3) := by decide +kernel
theorem dX8_readTree_27 : decode cX8_readTree 27 = .ok (.aload_n 0, 1) := by decide +kernel
theorem dX8_readTree_28 : decode cX8_readTree 28 = .ok (.getfield 22, 3) := by decide +kernel
theorem dX8_readTree_31 : decode cX8_readTree 31 = .ok (.iconst 2, 1) := by decide +kernel
theorem dX8_readTree_32 : decode cX8_readTree 32 = .ok (.iaload, 1) := by decide +kernel
theorem dX8_readTree_33 : decode cX8_readTree 33 = .ok (.if_icmp .ne 7, 3) := by decide +kernel
theorem dX8_readTree_36 : decode cX8_readTree 36 = .ok (.iconst 1, 1) := by decide +kernel
theorem dX8_readTree_37 : decode cX8_readTree 37 = .ok (.goto 4, 3) := by decide +kernel
theorem dX8_readTree_40 : decode cX8_readTree 40 = .ok (.iconst 0, 1) := by decide +kernel
theorem dX8_readTree_41 : decode cX8_readTree 41 = .ok (.istore_n 1, 1) := by decide +kernel
theorem dX8_readTree_42 : decode cX8_readTree 42 = .ok (.iconst 0, 1) := by decide +kernel
theorem dX8_readTree_43 : decode cX8_readTree 43 = .ok (.istore_n 2, 1) := by decide +kernel
theorem dX8_readTree_44 : decode cX8_readTree 44 = .ok (.iload_n 2, 1) := by decide +kernel
theorem dX8_readTree_45 : decode cX8_readTree 45 = .ok (.aload_n 0, 1) := by decide +kernel
theorem dX8_readTree_46 : decode cX8_readTree 46 = .ok (.getfield 22, 3) := by decide +kernel
theorem dX8_readTree_49 : decode cX8_readTree 49 = .ok (.bipush 7, 2) := by decide +kernel
theorem dX8_readTree_51 : decode cX8_readTree 51 = .ok (.iaload, 1) := by decide +kernel
theorem dX8_readTree_52 : decode cX8_readTree 52 = .ok (.if_icmp .ge 52, 3) := by decide +kernel
theorem dX8_readTree_55 : decode cX8_readTree 55 = .ok (.aload_n 0, 1) := by decide +kernel
theorem dX8_readTree_56 : decode cX8_readTree 56 = .ok (.getfield 109, 3) := by decide +kernel
theorem dX8_readTree_59 : decode cX8_readTree 59 = .ok (.ifCond .ne 45, 3) := by decide +kernel
theorem dX8_readTree_62 : decode cX8_readTree 62 = .ok (.iload_n 1, 1) := by decide +kernel
theorem dX8_readTree_63 : decode cX8_readTree 63 = .ok (.ifCond .ne 29, 3) := by decide +kernel
theorem dX8_readTree_66 : decode cX8_readTree 66 = .ok (.aload_n 0, 1) := by decide +kernel
theorem dX8_readTree_67 : decode cX8_readTree 67 = .ok (.getfield 132, 3) := by decide +kernel
theorem dX8_readTree_70 : decode cX8_readTree 70 = .ok (.iconst 3, 1) := by decide +kernel
theorem dX8_readTree_71 : decode cX8_readTree 71 = .ok (.if_icmp .ne 25, 3) := by decide +kernel
theorem dX8_readTree_74 : decode cX8_readTree 74 = .ok (.aload_n 0, 1) := by decide +kernel
theorem dX8_readTree_75 : decode cX8_readTree 75 = .ok (.getfield 121, 3) := by decide +kernel
theorem dX8_readTree_78 : decode cX8_readTree 78 = .ok (.aload_n 0, 1) := by decide +kernel
theorem dX8_readTree_79 : decode cX8_readTree 79 = .ok (.getfield 22, 3) := by decide +kernel
theorem dX8_readTree_82 : decode cX8_readTree 82 = .ok (.bipush 17, 2) := by decide +kernel
theorem dX8_readTree_84 : decode cX8_readTree 84 = .ok (.iconst 3, 1) := by decide +kernel
theorem dX8_readTree_85 : decode cX8_readTree 85 = .ok (.iload_n 2, 1) := by decide +kernel
theorem dX8_readTree_86 : decode cX8_readTree 86 = .ok (.imul, 1) := by decide +kernel
theorem dX8_readTree_87 : decode cX8_readTree 87 = .ok (.iadd, 1) := by decide +kernel
theorem dX8_readTree_88 : decode cX8_readTree 88 = .ok (.iaload, 1) := by decide +kernel
theorem dX8_readTree_89 : decode cX8_readTree 89 = .ok (.if_icmp .ne 7, 3) := by decide +kernel
theorem dX8_readTree_92 : decode cX8_readTree 92 = .ok (.iconst 1, 1) := by decide +kernel
theorem dX8_readTree_93 : decode cX8_readTree 93 = .ok (.goto 4, 3) := by decide +kernel
theorem dX8_readTree_96 : decode cX8_readTree 96 = .ok (.iconst 0, 1) := by decide +kernel
theorem dX8_readTree_97 : decode cX8_readTree 97 = .ok (.istore_n 1, 1) := by decide +kernel
theorem dX8_readTree_98 : decode cX8_readTree 98 = .ok (.iinc 2 1, 3) := by decide +kernel
theorem dX8_readTree_101 : decode cX8_readTree 101 = .ok (.goto (-57), 3) := by decide +kernel
theorem dX8_readTree_104 : decode cX8_readTree 104 = .ok (.iload_n 1, 1) := by decide +kernel
theorem dX8_readTree_105 : decode cX8_readTree 105 = .ok (.ifCond .eq 8, 3) := by decide +kernel
theorem dX8_readTree_108 : decode cX8_readTree 108 = .ok (.aload_n 0, 1) := by decide +kernel
theorem dX8_readTree_109 : decode cX8_readTree 109 = .ok (.iconst 2, 1) := by decide +kernel
theorem dX8_readTree_110 : decode cX8_readTree 110 = .ok (.invokevirtual 135, 3) := by decide +kernel
theorem dX8_readTree_113 : decode cX8_readTree 113 = .ok (.aload_n 0, 1) := by decide +kernel
theorem dX8_readTree_114 : decode cX8_readTree 114 = .ok (.iconst 0, 1) := by decide +kernel
theorem dX8_readTree_115 : decode cX8_readTree 115 = .ok (.bipush 23, 2) := by decide +kernel
theorem dX8_readTree_117 : decode cX8_readTree 117 = .ok (.invokevirtual 153, 3) := by decide +kernel
theorem dX8_readTree_120 : decode cX8_readTree 120 = .ok (.istore_n 2, 1) := by decide +kernel
theorem dX8_readTree_121 : decode cX8_readTree 121 = .ok (.aload_n 0, 1) := by decide +kernel
theorem dX8_readTree_122 : decode cX8_readTree 122 = .ok (.bipush 44, 2) := by decide +kernel
theorem dX8_readTree_124 : decode cX8_readTree 124 = .ok (.invokevirtual 157, 3) := by decide +kernel
theorem dX8_readTree_127 : decode cX8_readTree 127 = .ok (.aload_n 0, 1) := by decide +kernel
theorem dX8_readTree_128 : decode cX8_readTree 128 = .ok (.iconst 0, 1) := by decide +kernel
theorem dX8_readTree_129 : decode cX8_readTree 129 = .ok (.bipush 30, 2) := by decide +kernel
theorem dX8_readTree_131 : decode cX8_readTree 131 = .ok (.invokevirtual 153, 3) := by decide +kernel
theorem dX8_readTree_134 : decode cX8_readTree 134 = .ok (.istore_n 3, 1) := by decide +kernel
theorem dX8_readTree_135 : decode cX8_readTree 135 = .ok (.aload_n 0, 1) := by decide +kernel
theorem dX8_readTree_136 : decode cX8_readTree 136 = .ok (.bipush 44, 2) := by decide +kernel
theorem dX8_readTree_138 : decode cX8_readTree 138 = .ok (.invokevirtual 157, 3) := by decide +kernel
theorem dX8_readTree_141 : decode cX8_readTree 141 = .ok (.aload_n 0, 1) := by decide +kernel
theorem dX8_readTree_142 : decode cX8_readTree 142 = .ok (.iconst 0, 1) := by decide +kernel
theorem dX8_readTree_143 : decode cX8_readTree 143 = .ok (.bipush 9, 2) := by decide +kernel
theorem dX8_readTree_145 : decode cX8_readTree 145 = .ok (.invokevirtual 153, 3) := by decide +kernel
theorem dX8_readTree_148 : decode cX8_readTree 148 = .ok (.istore 4, 2) := by decide +kernel
theorem dX8_readTree_150 : decode cX8_readTree 150 = .ok (.aload_n 0, 1) := by decide +kernel
theorem dX8_readTree_151 : decode cX8_readTree 151 = .ok (.bipush 59, 2) := by decide +kernel
theorem dX8_readTree_153 : decode cX8_readTree 153 = .ok (.invokevirtual 157, 3) := by decide +kernel
theorem dX8_readTree_156 : decode cX8_readTree 156 = .ok (.aload_n 0, 1) := by decide +kernel
theorem dX8_readTree_157 : decode cX8_readTree 157 = .ok (.getfield 109, 3) := by decide +kernel
theorem dX8_readTree_160 : decode cX8_readTree 160 = .ok (.ifCond .ne 57, 3) := by decide +kernel
theorem dX8_readTree_163 : decode cX8_readTree 163 = .ok (.bipush 17, 2) := by decide +kernel
theorem dX8_readTree_165 : decode cX8_readTree 165 = .ok (.iconst 3, 1) := by decide +kernel
theorem dX8_readTree_166 : decode cX8_readTree 166 = .ok (.aload_n 0, 1) := by decide +kernel
theorem dX8_readTree_167 : decode cX8_readTree 167 = .ok (.getfield 22, 3) := by decide +kernel
theorem dX8_readTree_170 : decode cX8_readTree 170 = .ok (.bipush 7, 2) := by decide +kernel
theorem dX8_readTree_172 : decode cX8_readTree 172 = .ok (.iaload, 1) := by decide +kernel
theorem dX8_readTree_173 : decode cX8_readTree 173 = .ok (.imul, 1) := by decide +kernel
theorem dX8_readTree_174 : decode cX8_readTree 174 = .ok (.iadd, 1) := by decide +kernel
theorem dX8_readTree_175 : decode cX8_readTree 175 = .ok (.istore 5, 2) := by decide +kernel
theorem dX8_readTree_177 : decode cX8_readTree 177 = .ok (.aload_n 0, 1) := by decide +kernel
theorem dX8_readTree_178 : decode cX8_readTree 178 = .ok (.getfield 22, 3) := by decide +kernel
theorem dX8_readTree_181 : decode cX8_readTree 181 = .ok (.iload 5, 2) := by decide +kernel
theorem dX8_readTree_183 : decode cX8_readTree 183 = .ok (.iload_n 2, 1) := by decide +kernel
theorem dX8_readTree_184 : decode cX8_readTree 184 = .ok (.iastore, 1) := by decide +kernel
theorem dX8_readTree_185 : decode cX8_readTree 185 = .ok (.aload_n 0, 1) := by decide +kernel
theorem dX8_readTree_186 : decode cX8_readTree 186 = .ok (.getfield 22, 3) := by decide +kernel
theorem dX8_readTree_189 : decode cX8_readTree 189 = .ok (.iload 5, 2) := by decide +kernel
theorem dX8_readTree_191 : decode cX8_readTree 191 = .ok (.iconst 1, 1) := by decide +kernel
theorem dX8_readTree_192 : decode cX8_readTree 192 = .ok (.iadd, 1) := by decide +kernel
theorem dX8_readTree_193 : decode cX8_readTree 193 = .ok (.iload_n 3, 1) := by decide +kernel
theorem dX8_readTree_194 : decode cX8_readTree 194 = .ok (.iastore, 1) := by decide +kernel
theorem dX8_readTree_195 : decode cX8_readTree 195 = .ok (.aload_n 0, 1) := by decide +kernel
theorem dX8_readTree_196 : decode cX8_readTree 196 = .ok (.getfield 22, 3) := by decide +kernel
theorem dX8_readTree_199 : decode cX8_readTree 199 = .ok (.iload 5, 2) := by decide +kernel
theorem dX8_readTree_201 : decode cX8_readTree 201 = .ok (.iconst 2, 1) := by decide +kernel
theorem dX8_readTree_202 : decode cX8_readTree 202 = .ok (.iadd, 1) := by decide +kernel
theorem dX8_readTree_203 : decode cX8_readTree 203 = .ok (.iload 4, 2) := by decide +kernel
theorem dX8_readTree_205 : decode cX8_readTree 205 = .ok (.iastore, 1) := by decide +kernel
theorem dX8_readTree_206 : decode cX8_readTree 206 = .ok (.aload_n 0, 1) := by decide +kernel
theorem dX8_readTree_207 : decode cX8_readTree 207 = .ok (.getfield 22, 3) := by decide +kernel
theorem dX8_readTree_210 : decode cX8_readTree 210 = .ok (.bipush 7, 2) := by decide +kernel
theorem dX8_readTree_212 : decode cX8_readTree 212 = .ok (.dup2, 1) := by decide +kernel
theorem dX8_readTree_213 : decode cX8_readTree 213 = .ok (.iaload, 1) := by decide +kernel
theorem dX8_readTree_214 : decode cX8_readTree 214 = .ok (.iconst 1, 1) := by decide +kernel
theorem dX8_readTree_215 : decode cX8_readTree 215 = .ok (.iadd, 1) := by decide +kernel
theorem dX8_readTree_216 : decode cX8_readTree 216 = .ok (.iastore, 1) := by decide +kernel
theorem dX8_readTree_217 : decode cX8_readTree 217 = .ok (.return_, 1) := by decide +kernel
theorem dX8_readRaider_0 : decode cX8_readRaider 0 = .ok (.aload_n 0, 1) := by decide +kernel
theorem dX8_readRaider_1 : decode cX8_readRaider 1 = .ok (.getfield 121, 3) := by decide +kernel
theorem dX8_readRaider_4 : decode cX8_readRaider 4 = .ok (.invokestatic 160, 3) := by decide +kernel
theorem dX8_readRaider_7 : decode cX8_readRaider 7 = .ok (.istore_n 1, 1) := by decide +kernel
theorem dX8_readRaider_8 : decode cX8_readRaider 8 = .ok (.aload_n 0, 1) := by decide +kernel
theorem dX8_readRaider_9 : decode cX8_readRaider 9 = .ok (.bipush 8, 2) := by decide +kernel
theorem dX8_readRaider_11 : decode cX8_readRaider 11 = .ok (.iconst 4, 1) := by decide +kernel
theorem dX8_readRaider_12 : decode cX8_readRaider 12 = .ok (.invokevirtual 149, 3) := by decide +kernel
theorem dX8_readRaider_15 : decode cX8_readRaider 15 = .ok (.aload_n 0, 1) := by decide +kernel
theorem dX8_readRaider_16 : decode cX8_readRaider 16 = .ok (.iconst 1, 1) := by decide +kernel
theorem dX8_readRaider_17 : decode cX8_readRaider 17 = .ok (.bipush 20, 2) := by decide +kernel
theorem dX8_readRaider_19 : decode cX8_readRaider 19 = .ok (.invokevirtual 153, 3) := by decide +kernel
theorem dX8_readRaider_22 : decode cX8_readRaider 22 = .ok (.istore_n 2, 1) := by decide +kernel
theorem dX8_readRaider_23 : decode cX8_readRaider 23 = .ok (.aload_n 0, 1) := by decide +kernel
theorem dX8_readRaider_24 : decode cX8_readRaider 24 = .ok (.bipush 59, 2) := by decide +kernel
theorem dX8_readRaider_26 : decode cX8_readRaider 26 = .ok (.invokevirtual 157, 3) := by decide +kernel
theorem dX8_readRaider_29 : decode cX8_readRaider 29 = .ok (.aload_n 0, 1) := by decide +kernel
theorem dX8_readRaider_30 : decode cX8_readRaider 30 = .ok (.getfield 109, 3) := by decide +kernel
theorem dX8_readRaider_33 : decode cX8_readRaider 33 = .ok (.ifCond .ne 53, 3) := by decide +kernel
theorem dX8_readRaider_36 : decode cX8_readRaider 36 = .ok (.bipush 35, 2) := by decide +kernel
theorem dX8_readRaider_38 : decode cX8_readRaider 38 = .ok (.bipush 6, 2) := by decide +kernel
theorem dX8_readRaider_40 : decode cX8_readRaider 40 = .ok (.aload_n 0, 1) := by decide +kernel
theorem dX8_readRaider_41 : decode cX8_readRaider 41 = .ok (.getfield 22, 3) := by decide +kernel
theorem dX8_readRaider_44 : decode cX8_readRaider 44 = .ok (.bipush 8, 2) := by decide +kernel
theorem dX8_readRaider_46 : decode cX8_readRaider 46 = .ok (.iaload, 1) := by decide +kernel
theorem dX8_readRaider_47 : decode cX8_readRaider 47 = .ok (.imul, 1) := by decide +kernel
theorem dX8_readRaider_48 : decode cX8_readRaider 48 = .ok (.iadd, 1) := by decide +kernel
theorem dX8_readRaider_49 : decode cX8_readRaider 49 = .ok (.istore_n 3, 1) := by decide +kernel
theorem dX8_readRaider_50 : decode cX8_readRaider 50 = .ok (.aload_n 0, 1) := by decide +kernel
theorem dX8_readRaider_51 : decode cX8_readRaider 51 = .ok (.getfield 22, 3) := by decide +kernel
theorem dX8_readRaider_54 : decode cX8_readRaider 54 = .ok (.iload_n 3, 1) := by decide +kernel
theorem dX8_readRaider_55 : decode cX8_readRaider 55 = .ok (.iload_n 1, 1) := by decide +kernel
theorem dX8_readRaider_56 : decode cX8_readRaider 56 = .ok (.iastore, 1) := by decide +kernel
theorem dX8_readRaider_57 : decode cX8_readRaider 57 = .ok (.aload_n 0, 1) := by decide +kernel
theorem dX8_readRaider_58 : decode cX8_readRaider 58 = .ok (.getfield 22, 3) := by decide +kernel
theorem dX8_readRaider_61 : decode cX8_readRaider 61 = .ok (.iload_n 3, 1) := by decide +kernel
theorem dX8_readRaider_62 : decode cX8_readRaider 62 = .ok (.iconst 1, 1) := by decide +kernel
theorem dX8_readRaider_63 : decode cX8_readRaider 63 = .ok (.iadd, 1) := by decide +kernel
theorem dX8_readRaider_64 : decode cX8_readRaider 64 = .ok (.iload_n 2, 1) := by decide +kernel
theorem dX8_readRaider_65 : decode cX8_readRaider 65 = .ok (.iastore, 1) := by decide +kernel
theorem dX8_readRaider_66 : decode cX8_readRaider 66 = .ok (.aload_n 0, 1) := by decide +kernel
theorem dX8_readRaider_67 : decode cX8_readRaider 67 = .ok (.getfield 22, 3) := by decide +kernel
theorem dX8_readRaider_70 : decode cX8_readRaider 70 = .ok (.iload_n 3, 1) := by decide +kernel
theorem dX8_readRaider_71 : decode cX8_readRaider 71 = .ok (.iconst 2, 1) := by decide +kernel
theorem dX8_readRaider_72 : decode cX8_readRaider 72 = .ok (.iadd, 1) := by decide +kernel
theorem dX8_readRaider_73 : decode cX8_readRaider 73 = .ok (.iconst (-1), 1) := by decide +kernel
theorem dX8_readRaider_74 : decode cX8_readRaider 74 = .ok (.iastore, 1) := by decide +kernel
theorem dX8_readRaider_75 : decode cX8_readRaider 75 = .ok (.aload_n 0, 1) := by decide +kernel
theorem dX8_readRaider_76 : decode cX8_readRaider 76 = .ok (.getfield 22, 3) := by decide +kernel
theorem dX8_readRaider_79 : decode cX8_readRaider 79 = .ok (.bipush 8, 2) := by decide +kernel
theorem dX8_readRaider_81 : decode cX8_readRaider 81 = .ok (.dup2, 1) := by decide +kernel
theorem dX8_readRaider_82 : decode cX8_readRaider 82 = .ok (.iaload, 1) := by decide +kernel
theorem dX8_readRaider_83 : decode cX8_readRaider 83 = .ok (.iconst 1, 1) := by decide +kernel
theorem dX8_readRaider_84 : decode cX8_readRaider 84 = .ok (.iadd, 1) := by decide +kernel
theorem dX8_readRaider_85 : decode cX8_readRaider 85 = .ok (.iastore, 1) := by decide +kernel
theorem dX8_readRaider_86 : decode cX8_readRaider 86 = .ok (.return_, 1) := by decide +kernel
end
section
theorem dX8_orchard_0 : decode cX8_orchard 0 = .ok (.aload_n 0, 1) := by decide +kernel
theorem dX8_orchard_1 : decode cX8_orchard 1 = .ok (.iconst 0, 1) := by decide +kernel
theorem dX8_orchard_2 : decode cX8_orchard 2 = .ok (.putfield 79, 3) := by decide +kernel
theorem dX8_orchard_5 : decode cX8_orchard 5 = .ok (.aload_n 0, 1) := by decide +kernel
theorem dX8_orchard_6 : decode cX8_orchard 6 = .ok (.invokevirtual 163, 3) := by decide +kernel
theorem dX8_orchard_9 : decode cX8_orchard 9 = .ok (.iconst 0, 1) := by decide +kernel
theorem dX8_orchard_10 : decode cX8_orchard 10 = .ok (.istore_n 1, 1) := by decide +kernel
theorem dX8_orchard_11 : decode cX8_orchard 11 = .ok (.iload_n 1, 1) := by decide +kernel
theorem dX8_orchard_12 : decode cX8_orchard 12 = .ok (.bipush 59, 2) := by decide +kernel
theorem dX8_orchard_14 : decode cX8_orchard 14 = .ok (.if_icmp .ge 16, 3) := by decide +kernel
theorem dX8_orchard_17 : decode cX8_orchard 17 = .ok (.aload_n 0, 1) := by decide +kernel
theorem dX8_orchard_18 : decode cX8_orchard 18 = .ok (.getfield 22, 3) := by decide +kernel
theorem dX8_orchard_21 : decode cX8_orchard 21 = .ok (.iload_n 1, 1) := by decide +kernel
theorem dX8_orchard_22 : decode cX8_orchard 22 = .ok (.iconst 0, 1) := by decide +kernel
theorem dX8_orchard_23 : decode cX8_orchard 23 = .ok (.iastore, 1) := by decide +kernel
theorem dX8_orchard_24 : decode cX8_orchard 24 = .ok (.iinc 1 1, 3) := by decide +kernel
theorem dX8_orchard_27 : decode cX8_orchard 27 = .ok (.goto (-16), 3) := by decide +kernel
theorem dX8_orchard_30 : decode cX8_orchard 30 = .ok (.aload_n 0, 1) := by decide +kernel
theorem dX8_orchard_31 : decode cX8_orchard 31 = .ok (.getfield 22, 3) := by decide +kernel
theorem dX8_orchard_34 : decode cX8_orchard 34 = .ok (.iconst 0, 1) := by decide +kernel
theorem dX8_orchard_35 : decode cX8_orchard 35 = .ok (.iconst 1, 1) := by decide +kernel
theorem dX8_orchard_36 : decode cX8_orchard 36 = .ok (.iastore, 1) := by decide +kernel
theorem dX8_orchard_37 : decode cX8_orchard 37 = .ok (.aload_n 0, 1) := by decide +kernel
theorem dX8_orchard_38 : decode cX8_orchard 38 = .ok (.aload_n 0, 1) := by decide +kernel
theorem dX8_orchard_39 : decode cX8_orchard 39 = .ok (.bipush 111, 2) := by decide +kernel
theorem dX8_orchard_41 : decode cX8_orchard 41 = .ok (.invokevirtual 166, 3) := by decide +kernel
theorem dX8_orchard_44 : decode cX8_orchard 44 = .ok (.invokevirtual 142, 3) := by decide +kernel
theorem dX8_orchard_47 : decode cX8_orchard 47 = .ok (.aload_n 0, 1) := by decide +kernel
theorem dX8_orchard_48 : decode cX8_orchard 48 = .ok (.getfield 22, 3) := by decide +kernel
theorem dX8_orchard_51 : decode cX8_orchard 51 = .ok (.iconst 1, 1) := by decide +kernel
theorem dX8_orchard_52 : decode cX8_orchard 52 = .ok (.aload_n 0, 1) := by decide +kernel
theorem dX8_orchard_53 : decode cX8_orchard 53 = .ok (.iconst 0, 1) := by decide +kernel
theorem dX8_orchard_54 : decode cX8_orchard 54 = .ok (.bipush 23, 2) := by decide +kernel
theorem dX8_orchard_56 : decode cX8_orchard 56 = .ok (.invokevirtual 153, 3) := by decide +kernel
theorem dX8_orchard_59 : decode cX8_orchard 59 = .ok (.iastore, 1) := by decide +kernel
theorem dX8_orchard_60 : decode cX8_orchard 60 = .ok (.aload_n 0, 1) := by decide +kernel
theorem dX8_orchard_61 : decode cX8_orchard 61 = .ok (.bipush 44, 2) := by decide +kernel
theorem dX8_orchard_63 : decode cX8_orchard 63 = .ok (.invokevirtual 157, 3) := by decide +kernel
theorem dX8_orchard_66 : decode cX8_orchard 66 = .ok (.aload_n 0, 1) := by decide +kernel
theorem dX8_orchard_67 : decode cX8_orchard 67 = .ok (.getfield 109, 3) := by decide +kernel
theorem dX8_orchard_70 : decode cX8_orchard 70 = .ok (.ifCond .ne 29, 3) := by decide +kernel
theorem dX8_orchard_73 : decode cX8_orchard 73 = .ok (.aload_n 0, 1) := by decide +kernel
theorem dX8_orchard_74 : decode cX8_orchard 74 = .ok (.getfield 132, 3) := by decide +kernel
theorem dX8_orchard_77 : decode cX8_orchard 77 = .ok (.iconst 3, 1) := by decide +kernel
theorem dX8_orchard_78 : decode cX8_orchard 78 = .ok (.if_icmp .ne 21, 3) := by decide +kernel
theorem dX8_orchard_81 : decode cX8_orchard 81 = .ok (.aload_n 0, 1) := by decide +kernel
theorem dX8_orchard_82 : decode cX8_orchard 82 = .ok (.getfield 121, 3) := by decide +kernel
theorem dX8_orchard_85 : decode cX8_orchard 85 = .ok (.aload_n 0, 1) := by decide +kernel
theorem dX8_orchard_86 : decode cX8_orchard 86 = .ok (.getfield 22, 3) := by decide +kernel
theorem dX8_orchard_89 : decode cX8_orchard 89 = .ok (.iconst 1, 1) := by decide +kernel
theorem dX8_orchard_90 : decode cX8_orchard 90 = .ok (.iaload, 1) := by decide +kernel
theorem dX8_orchard_91 : decode cX8_orchard 91 = .ok (.if_icmp .ne 8, 3) := by decide +kernel
theorem dX8_orchard_94 : decode cX8_orchard 94 = .ok (.aload_n 0, 1) := by decide +kernel
theorem dX8_orchard_95 : decode cX8_orchard 95 = .ok (.iconst 2, 1) := by decide +kernel
theorem dX8_orchard_96 : decode cX8_orchard 96 = .ok (.invokevirtual 135, 3) := by decide +kernel
theorem dX8_orchard_99 : decode cX8_orchard 99 = .ok (.aload_n 0, 1) := by decide +kernel
theorem dX8_orchard_100 : decode cX8_orchard 100 = .ok (.getfield 22, 3) := by decide +kernel
theorem dX8_orchard_103 : decode cX8_orchard 103 = .ok (.iconst 2, 1) := by decide +kernel
theorem dX8_orchard_104 : decode cX8_orchard 104 = .ok (.aload_n 0, 1) := by decide +kernel
theorem dX8_orchard_105 : decode cX8_orchard 105 = .ok (.iconst 0, 1) := by decide +kernel
theorem dX8_orchard_106 : decode cX8_orchard 106 = .ok (.bipush 23, 2) := by decide +kernel
theorem dX8_orchard_108 : decode cX8_orchard 108 = .ok (.invokevirtual 153, 3) := by decide +kernel
theorem dX8_orchard_111 : decode cX8_orchard 111 = .ok (.iastore, 1) := by decide +kernel
theorem dX8_orchard_112 : decode cX8_orchard 112 = .ok (.aload_n 0, 1) := by decide +kernel
theorem dX8_orchard_113 : decode cX8_orchard 113 = .ok (.bipush 44, 2) := by decide +kernel
theorem dX8_orchard_115 : decode cX8_orchard 115 = .ok (.invokevirtual 157, 3) := by decide +kernel
theorem dX8_orchard_118 : decode cX8_orchard 118 = .ok (.aload_n 0, 1) := by decide +kernel
theorem dX8_orchard_119 : decode cX8_orchard 119 = .ok (.getfield 22, 3) := by decide +kernel
theorem dX8_orchard_122 : decode cX8_orchard 122 = .ok (.iconst 3, 1) := by decide +kernel
theorem dX8_orchard_123 : decode cX8_orchard 123 = .ok (.aload_n 0, 1) := by decide +kernel
theorem dX8_orchard_124 : decode cX8_orchard 124 = .ok (.iconst 1, 1) := by decide +kernel
theorem dX8_orchard_125 : decode cX8_orchard 125 = .ok (.bipush 60, 2) := by decide +kernel
theorem dX8_orchard_127 : decode cX8_orchard 127 = .ok (.invokevirtual 153, 3) := by decide +kernel
theorem dX8_orchard_130 : decode cX8_orchard 130 = .ok (.iastore, 1) := by decide +kernel
theorem dX8_orchard_131 : decode cX8_orchard 131 = .ok (.aload_n 0, 1) := by decide +kernel
theorem dX8_orchard_132 : decode cX8_orchard 132 = .ok (.bipush 44, 2) := by decide +kernel
theorem dX8_orchard_134 : decode cX8_orchard 134 = .ok (.invokevirtual 157, 3) := by decide +kernel
theorem dX8_orchard_137 : decode cX8_orchard 137 = .ok (.aload_n 0, 1) := by decide +kernel
theorem dX8_orchard_138 : decode cX8_orchard 138 = .ok (.getfield 22, 3) := by decide +kernel
theorem dX8_orchard_141 : decode cX8_orchard 141 = .ok (.iconst 4, 1) := by decide +kernel
theorem dX8_orchard_142 : decode cX8_orchard 142 = .ok (.aload_n 0, 1) := by decide +kernel
theorem dX8_orchard_143 : decode cX8_orchard 143 = .ok (.iconst 0, 1) := by decide +kernel
theorem dX8_orchard_144 : decode cX8_orchard 144 = .ok (.bipush 9, 2) := by decide +kernel
theorem dX8_orchard_146 : decode cX8_orchard 146 = .ok (.invokevirtual 153, 3) := by decide +kernel
theorem dX8_orchard_149 : decode cX8_orchard 149 = .ok (.iastore, 1) := by decide +kernel
theorem dX8_orchard_150 : decode cX8_orchard 150 = .ok (.aload_n 0, 1) := by decide +kernel
theorem dX8_orchard_151 : decode cX8_orchard 151 = .ok (.bipush 44, 2) := by decide +kernel
theorem dX8_orchard_153 : decode cX8_orchard 153 = .ok (.invokevirtual 157, 3) := by decide +kernel
theorem dX8_orchard_156 : decode cX8_orchard 156 = .ok (.aload_n 0, 1) := by decide +kernel
theorem dX8_orchard_157 : decode cX8_orchard 157 = .ok (.getfield 22, 3) := by decide +kernel
theorem dX8_orchard_160 : decode cX8_orchard 160 = .ok (.iconst 5, 1) := by decide +kernel
theorem dX8_orchard_161 : decode cX8_orchard 161 = .ok (.aload_n 0, 1) := by decide +kernel
theorem dX8_orchard_162 : decode cX8_orchard 162 = .ok (.iconst 0, 1) := by decide +kernel
theorem dX8_orchard_163 : decode cX8_orchard 163 = .ok (.bipush 40, 2) := by decide +kernel
theorem dX8_orchard_165 : decode cX8_orchard 165 = .ok (.invokevirtual 153, 3) := by decide +kernel
theorem dX8_orchard_168 : decode cX8_orchard 168 = .ok (.iastore, 1) := by decide +kernel
theorem dX8_orchard_169 : decode cX8_orchard 169 = .ok (.aload_n 0, 1) := by decide +kernel
theorem dX8_orchard_170 : decode cX8_orchard 170 = .ok (.bipush 59, 2) := by decide +kernel
theorem dX8_orchard_172 : decode cX8_orchard 172 = .ok (.invokevirtual 157, 3) := by decide +kernel
theorem dX8_orchard_175 : decode cX8_orchard 175 = .ok (.aload_n 0, 1) := by decide +kernel
theorem dX8_orchard_176 : decode cX8_orchard 176 = .ok (.bipush 104, 2) := by decide +kernel
theorem dX8_orchard_178 : decode cX8_orchard 178 = .ok (.invokevirtual 166, 3) := by decide +kernel
theorem dX8_orchard_181 : decode cX8_orchard 181 = .ok (.ifCond .eq 10, 3) := by decide +kernel
theorem dX8_orchard_184 : decode cX8_orchard 184 = .ok (.aload_n 0, 1) := by decide +kernel
theorem dX8_orchard_185 : decode cX8_orchard 185 = .ok (.invokevirtual 169, 3) := by decide +kernel
theorem dX8_orchard_188 : decode cX8_orchard 188 = .ok (.goto (-13), 3) := by decide +kernel
theorem dX8_orchard_191 : decode cX8_orchard 191 = .ok (.aload_n 0, 1) := by decide +kernel
theorem dX8_orchard_192 : decode cX8_orchard 192 = .ok (.bipush 116, 2) := by decide +kernel
theorem dX8_orchard_194 : decode cX8_orchard 194 = .ok (.invokevirtual 166, 3) := by decide +kernel
theorem dX8_orchard_197 : decode cX8_orchard 197 = .ok (.ifCond .eq 10, 3) := by decide +kernel
theorem dX8_orchard_200 : decode cX8_orchard 200 = .ok (.aload_n 0, 1) := by decide +kernel
theorem dX8_orchard_201 : decode cX8_orchard 201 = .ok (.invokevirtual 172, 3) := by decide +kernel
theorem dX8_orchard_204 : decode cX8_orchard 204 = .ok (.goto (-13), 3) := by decide +kernel
theorem dX8_orchard_207 : decode cX8_orchard 207 = .ok (.aload_n 0, 1) := by decide +kernel
theorem dX8_orchard_208 : decode cX8_orchard 208 = .ok (.getfield 109, 3) := by decide +kernel
theorem dX8_orchard_211 : decode cX8_orchard 211 = .ok (.ifCond .ne 30, 3) := by decide +kernel
theorem dX8_orchard_214 : decode cX8_orchard 214 = .ok (.aload_n 0, 1) := by decide +kernel
theorem dX8_orchard_215 : decode cX8_orchard 215 = .ok (.getfield 132, 3) := by decide +kernel
theorem dX8_orchard_218 : decode cX8_orchard 218 = .ok (.iconst 2, 1) := by decide +kernel
theorem dX8_orchard_219 : decode cX8_orchard 219 = .ok (.if_icmp .ne 22, 3) := by decide +kernel
theorem dX8_orchard_222 : decode cX8_orchard 222 = .ok (.aload_n 0, 1) := by decide +kernel
theorem dX8_orchard_223 : decode cX8_orchard 223 = .ok (.getfield 121, 3) := by decide +kernel
theorem dX8_orchard_226 : decode cX8_orchard 226 = .ok (.invokestatic 160, 3) := by decide +kernel
theorem dX8_orchard_229 : decode cX8_orchard 229 = .ok (.ldc 61, 2) := by decide +kernel
theorem dX8_orchard_231 : decode cX8_orchard 231 = .ok (.if_icmp .eq 10, 3) := by decide +kernel
theorem dX8_orchard_234 : decode cX8_orchard 234 = .ok (.aload_n 0, 1) := by decide +kernel
theorem dX8_orchard_235 : decode cX8_orchard 235 = .ok (.invokevirtual 175, 3) := by decide +kernel
theorem dX8_orchard_238 : decode cX8_orchard 238 = .ok (.goto (-31), 3) := by decide +kernel
theorem dX8_orchard_241 : decode cX8_orchard 241 = .ok (.aload_n 0, 1) := by decide +kernel
theorem dX8_orchard_242 : decode cX8_orchard 242 = .ok (.invokevirtual 178, 3) := by decide +kernel
theorem dX8_orchard_245 : decode cX8_orchard 245 = .ok (.ifCond .eq 11, 3) := by decide +kernel
theorem dX8_orchard_248 : decode cX8_orchard 248 = .ok (.ldc 182, 2) := by decide +kernel
theorem dX8_orchard_250 : decode cX8_orchard 250 = .ok (.aload_n 0, 1) := by decide +kernel
theorem dX8_orchard_251 : decode cX8_orchard 251 = .ok (.getfield 115, 3) := by decide +kernel
theorem dX8_orchard_254 : decode cX8_orchard 254 = .ok (.isub, 1) := by decide +kernel
theorem dX8_orchard_255 : decode cX8_orchard 255 = .ok (.ireturn, 1) := by decide +kernel
theorem dX8_orchard_256 : decode cX8_orchard 256 = .ok (.aload_n 0, 1) := by decide +kernel
theorem dX8_orchard_257 : decode cX8_orchard 257 = .ok (.iconst 0, 1) := by decide +kernel
theorem dX8_orchard_258 : decode cX8_orchard 258 = .ok (.putfield 183, 3) := by decide +kernel
theorem dX8_orchard_261 : decode cX8_orchard 261 = .ok (.iconst 0, 1) := by decide +kernel
theorem dX8_orchard_262 : decode cX8_orchard 262 = .ok (.istore_n 1, 1) := by decide +kernel
theorem dX8_orchard_263 : decode cX8_orchard 263 = .ok (.iload_n 1, 1) := by decide +kernel
theorem dX8_orchard_264 : decode cX8_orchard 264 = .ok (.bipush 59, 2) := by decide +kernel
theorem dX8_orchard_266 : decode cX8_orchard 266 = .ok (.if_icmp .ge 21, 3) := by decide +kernel
theorem dX8_orchard_269 : decode cX8_orchard 269 = .ok (.aload_n 0, 1) := by decide +kernel
theorem dX8_orchard_270 : decode cX8_orchard 270 = .ok (.getfield 19, 3) := by decide +kernel
theorem dX8_orchard_273 : decode cX8_orchard 273 = .ok (.iload_n 1, 1) := by decide +kernel
theorem dX8_orchard_274 : decode cX8_orchard 274 = .ok (.aload_n 0, 1) := by decide +kernel
theorem dX8_orchard_275 : decode cX8_orchard 275 = .ok (.getfield 22, 3) := by decide +kernel
theorem dX8_orchard_278 : decode cX8_orchard 278 = .ok (.iload_n 1, 1) := by decide +kernel
theorem dX8_orchard_279 : decode cX8_orchard 279 = .ok (.iaload, 1) := by decide +kernel
theorem dX8_orchard_280 : decode cX8_orchard 280 = .ok (.iastore, 1) := by decide +kernel
theorem dX8_orchard_281 : decode cX8_orchard 281 = .ok (.iinc 1 1, 3) := by decide +kernel
theorem dX8_orchard_284 : decode cX8_orchard 284 = .ok (.goto (-21), 3) := by decide +kernel
theorem dX8_orchard_287 : decode cX8_orchard 287 = .ok (.aload_n 0, 1) := by decide +kernel
theorem dX8_orchard_288 : decode cX8_orchard 288 = .ok (.getfield 19, 3) := by decide +kernel
theorem dX8_orchard_291 : decode cX8_orchard 291 = .ok (.bipush 7, 2) := by decide +kernel
theorem dX8_orchard_293 : decode cX8_orchard 293 = .ok (.iaload, 1) := by decide +kernel
theorem dX8_orchard_294 : decode cX8_orchard 294 = .ok (.ireturn, 1) := by decide +kernel
theorem dX8_isThere_0 : decode cX8_isThere 0 = .ok (.aload_n 0, 1) := by decide +kernel
theorem dX8_isThere_1 : decode cX8_isThere 1 = .ok (.getfield 19, 3) := by decide +kernel
theorem dX8_isThere_4 : decode cX8_isThere 4 = .ok (.iconst 0, 1) := by decide +kernel
theorem dX8_isThere_5 : decode cX8_isThere 5 = .ok (.iaload, 1) := by decide +kernel
theorem dX8_isThere_6 : decode cX8_isThere 6 = .ok (.iconst 1, 1) := by decide +kernel
theorem dX8_isThere_7 : decode cX8_isThere 7 = .ok (.if_icmp .ne 7, 3) := by decide +kernel
theorem dX8_isThere_10 : decode cX8_isThere 10 = .ok (.iconst 1, 1) := by decide +kernel
theorem dX8_isThere_11 : decode cX8_isThere 11 = .ok (.goto 4, 3) := by decide +kernel
theorem dX8_isThere_14 : decode cX8_isThere 14 = .ok (.iconst 0, 1) := by decide +kernel
theorem dX8_isThere_15 : decode cX8_isThere 15 = .ok (.ireturn, 1) := by decide +kernel
theorem dX8_isRaider_0 : decode cX8_isRaider 0 = .ok (.iload_n 1, 1) := by decide +kernel
theorem dX8_isRaider_1 : decode cX8_isRaider 1 = .ok (.i2l, 1) := by decide +kernel
theorem dX8_isRaider_2 : decode cX8_isRaider 2 = .ok (.lconst 0, 1) := by decide +kernel
theorem dX8_isRaider_3 : decode cX8_isRaider 3 = .ok (.aload_n 0, 1) := by decide +kernel
theorem dX8_isRaider_4 : decode cX8_isRaider 4 = .ok (.getfield 19, 3) := by decide +kernel
theorem dX8_isRaider_7 : decode cX8_isRaider 7 = .ok (.bipush 8, 2) := by decide +kernel
theorem dX8_isRaider_9 : decode cX8_isRaider 9 = .ok (.iaload, 1) := by decide +kernel
theorem dX8_isRaider_10 : decode cX8_isRaider 10 = .ok (.iconst 1, 1) := by decide +kernel
theorem dX8_isRaider_11 : decode cX8_isRaider 11 = .ok (.isub, 1) := by decide +kernel
theorem dX8_isRaider_12 : decode cX8_isRaider 12 = .ok (.i2l, 1) := by decide +kernel
theorem dX8_isRaider_13 : decode cX8_isRaider 13 = .ok (.invokestatic 88, 3) := by decide +kernel
theorem dX8_isRaider_16 : decode cX8_isRaider 16 = .ok (.ireturn, 1) := by decide +kernel
theorem dX8_isTree_0 : decode cX8_isTree 0 = .ok (.iload_n 1, 1) := by decide +kernel
theorem dX8_isTree_1 : decode cX8_isTree 1 = .ok (.i2l, 1) := by decide +kernel
theorem dX8_isTree_2 : decode cX8_isTree 2 = .ok (.lconst 0, 1) := by decide +kernel
theorem dX8_isTree_3 : decode cX8_isTree 3 = .ok (.aload_n 0, 1) := by decide +kernel
theorem dX8_isTree_4 : decode cX8_isTree 4 = .ok (.getfield 19, 3) := by decide +kernel
theorem dX8_isTree_7 : decode cX8_isTree 7 = .ok (.bipush 7, 2) := by decide +kernel
theorem dX8_isTree_9 : decode cX8_isTree 9 = .ok (.iaload, 1) := by decide +kernel
theorem dX8_isTree_10 : decode cX8_isTree 10 = .ok (.iconst 1, 1) := by decide +kernel
theorem dX8_isTree_11 : decode cX8_isTree 11 = .ok (.isub, 1) := by decide +kernel
theorem dX8_isTree_12 : decode cX8_isTree 12 = .ok (.i2l, 1) := by decide +kernel
theorem dX8_isTree_13 : decode cX8_isTree 13 = .ok (.invokestatic 88, 3) := by decide +kernel
theorem dX8_isTree_16 : decode cX8_isTree 16 = .ok (.ireturn, 1) := by decide +kernel
theorem dX8_isCell_0 : decode cX8_isCell 0 = .ok (.iload_n 0, 1) := by decide +kernel
theorem dX8_isCell_1 : decode cX8_isCell 1 = .ok (.i2l, 1) := by decide +kernel
theorem dX8_isCell_2 : decode cX8_isCell 2 = .ok (.lconst 0, 1) := by decide +kernel
theorem dX8_isCell_3 : decode cX8_isCell 3 = .ok (.ldc2_w 186, 3) := by decide +kernel
theorem dX8_isCell_6 : decode cX8_isCell 6 = .ok (.invokestatic 88, 3) := by decide +kernel
theorem dX8_isCell_9 : decode cX8_isCell 9 = .ok (.ireturn, 1) := by decide +kernel
theorem dX8_of_0 : decode cX8_of 0 = .ok (.aload_n 0, 1) := by decide +kernel
theorem dX8_of_1 : decode cX8_of 1 = .ok (.getfield 19, 3) := by decide +kernel
theorem dX8_of_4 : decode cX8_of 4 = .ok (.bipush 35, 2) := by decide +kernel
theorem dX8_of_6 : decode cX8_of 6 = .ok (.bipush 6, 2) := by decide +kernel
theorem dX8_of_8 : decode cX8_of 8 = .ok (.iload_n 1, 1) := by decide +kernel
theorem dX8_of_9 : decode cX8_of 9 = .ok (.imul, 1) := by decide +kernel
theorem dX8_of_10 : decode cX8_of 10 = .ok (.iadd, 1) := by decide +kernel
theorem dX8_of_11 : decode cX8_of 11 = .ok (.iload_n 2, 1) := by decide +kernel
theorem dX8_of_12 : decode cX8_of 12 = .ok (.iadd, 1) := by decide +kernel
theorem dX8_of_13 : decode cX8_of 13 = .ok (.iaload, 1) := by decide +kernel
theorem dX8_of_14 : decode cX8_of 14 = .ok (.ireturn, 1) := by decide +kernel
theorem dX8_isWatching_0 : decode cX8_isWatching 0 = .ok (.aload_n 0, 1) := by decide +kernel
theorem dX8_isWatching_1 : decode cX8_isWatching 1 = .ok (.iload_n 1, 1) := by decide +kernel
theorem dX8_isWatching_2 : decode cX8_isWatching 2 = .ok (.iconst 0, 1) := by decide +kernel
theorem dX8_isWatching_3 : decode cX8_isWatching 3 = .ok (.invokevirtual 188, 3) := by decide +kernel
theorem dX8_isWatching_6 : decode cX8_isWatching 6 = .ok (.iconst 4, 1) := by decide +kernel
theorem dX8_isWatching_7 : decode cX8_isWatching 7 = .ok (.if_icmp .lt 7, 3) := by decide +kernel
theorem dX8_isWatching_10 : decode cX8_isWatching 10 = .ok (.iconst 1, 1) := by decide +kernel
theorem dX8_isWatching_11 : decode cX8_isWatching 11 = .ok (.goto 4, 3) := by decide +kernel
theorem dX8_isWatching_14 : decode cX8_isWatching 14 = .ok (.iconst 0, 1) := by decide +kernel
theorem dX8_isWatching_15 : decode cX8_isWatching 15 = .ok (.ireturn, 1) := by decide +kernel
theorem dX8_farOf_0 : decode cX8_farOf 0 = .ok (.iload_n 0, 1) := by decide +kernel
theorem dX8_farOf_1 : decode cX8_farOf 1 = .ok (.bipush 6, 2) := by decide +kernel
theorem dX8_farOf_3 : decode cX8_farOf 3 = .ok (.irem, 1) := by decide +kernel
theorem dX8_farOf_4 : decode cX8_farOf 4 = .ok (.iload_n 1, 1) := by decide +kernel
theorem dX8_farOf_5 : decode cX8_farOf 5 = .ok (.bipush 6, 2) := by decide +kernel
theorem dX8_farOf_7 : decode cX8_farOf 7 = .ok (.irem, 1) := by decide +kernel
theorem dX8_farOf_8 : decode cX8_farOf 8 = .ok (.isub, 1) := by decide +kernel
theorem dX8_farOf_9 : decode cX8_farOf 9 = .ok (.istore_n 2, 1) := by decide +kernel
theorem dX8_farOf_10 : decode cX8_farOf 10 = .ok (.iload_n 0, 1) := by decide +kernel
theorem dX8_farOf_11 : decode cX8_farOf 11 = .ok (.bipush 6, 2) := by decide +kernel
theorem dX8_farOf_13 : decode cX8_farOf 13 = .ok (.idiv, 1) := by decide +kernel
theorem dX8_farOf_14 : decode cX8_farOf 14 = .ok (.iload_n 1, 1) := by decide +kernel
theorem dX8_farOf_15 : decode cX8_farOf 15 = .ok (.bipush 6, 2) := by decide +kernel
theorem dX8_farOf_17 : decode cX8_farOf 17 = .ok (.idiv, 1) := by decide +kernel
theorem dX8_farOf_18 : decode cX8_farOf 18 = .ok (.isub, 1) := by decide +kernel
theorem dX8_farOf_19 : decode cX8_farOf 19 = .ok (.istore_n 3, 1) := by decide +kernel
theorem dX8_farOf_20 : decode cX8_farOf 20 = .ok (.iload_n 2, 1) := by decide +kernel
theorem dX8_farOf_21 : decode cX8_farOf 21 = .ok (.ifCond .ge 8, 3) := by decide +kernel
theorem dX8_farOf_24 : decode cX8_farOf 24 = .ok (.iload_n 2, 1) := by decide +kernel
theorem dX8_farOf_25 : decode cX8_farOf 25 = .ok (.ineg, 1) := by decide +kernel
theorem dX8_farOf_26 : decode cX8_farOf 26 = .ok (.goto 4, 3) := by decide +kernel
theorem dX8_farOf_29 : decode cX8_farOf 29 = .ok (.iload_n 2, 1) := by decide +kernel
theorem dX8_farOf_30 : decode cX8_farOf 30 = .ok (.iload_n 3, 1) := by decide +kernel
theorem dX8_farOf_31 : decode cX8_farOf 31 = .ok (.ifCond .ge 8, 3) := by decide +kernel
theorem dX8_farOf_34 : decode cX8_farOf 34 = .ok (.iload_n 3, 1) := by decide +kernel
theorem dX8_farOf_35 : decode cX8_farOf 35 = .ok (.ineg, 1) := by decide +kernel
theorem dX8_farOf_36 : decode cX8_farOf 36 = .ok (.goto 4, 3) := by decide +kernel
theorem dX8_farOf_39 : decode cX8_farOf 39 = .ok (.iload_n 3, 1) := by decide +kernel
theorem dX8_farOf_40 : decode cX8_farOf 40 = .ok (.iadd, 1) := by decide +kernel
theorem dX8_farOf_41 : decode cX8_farOf 41 = .ok (.ireturn, 1) := by decide +kernel
theorem dX8_cellOn_0 : decode cX8_cellOn 0 = .ok (.iload_n 1, 1) := by decide +kernel
theorem dX8_cellOn_1 : decode cX8_cellOn 1 = .ok (.bipush 6, 2) := by decide +kernel
theorem dX8_cellOn_3 : decode cX8_cellOn 3 = .ok (.irem, 1) := by decide +kernel
theorem dX8_cellOn_4 : decode cX8_cellOn 4 = .ok (.iload_n 0, 1) := by decide +kernel
theorem dX8_cellOn_5 : decode cX8_cellOn 5 = .ok (.bipush 6, 2) := by decide +kernel
theorem dX8_cellOn_7 : decode cX8_cellOn 7 = .ok (.irem, 1) := by decide +kernel
theorem dX8_cellOn_8 : decode cX8_cellOn 8 = .ok (.isub, 1) := by decide +kernel
theorem dX8_cellOn_9 : decode cX8_cellOn 9 = .ok (.istore_n 3, 1) := by decide +kernel
theorem dX8_cellOn_10 : decode cX8_cellOn 10 = .ok (.iload_n 3, 1) := by decide +kernel
theorem dX8_cellOn_11 : decode cX8_cellOn 11 = .ok (.ifCond .ge 8, 3) := by decide +kernel
theorem dX8_cellOn_14 : decode cX8_cellOn 14 = .ok (.iload_n 3, 1) := by decide +kernel
theorem dX8_cellOn_15 : decode cX8_cellOn 15 = .ok (.ineg, 1) := by decide +kernel
theorem dX8_cellOn_16 : decode cX8_cellOn 16 = .ok (.goto 4, 3) := by decide +kernel
theorem dX8_cellOn_19 : decode cX8_cellOn 19 = .ok (.iload_n 3, 1) := by decide +kernel
theorem dX8_cellOn_20 : decode cX8_cellOn 20 = .ok (.istore 4, 2) := by decide +kernel
theorem dX8_cellOn_22 : decode cX8_cellOn 22 = .ok (.iload_n 2, 1) := by decide +kernel
theorem dX8_cellOn_23 : decode cX8_cellOn 23 = .ok (.iload 4, 2) := by decide +kernel
theorem dX8_cellOn_25 : decode cX8_cellOn 25 = .ok (.if_icmp .ge 7, 3) := by decide +kernel
theorem dX8_cellOn_28 : decode cX8_cellOn 28 = .ok (.iload_n 2, 1) := by decide +kernel
theorem dX8_cellOn_29 : decode cX8_cellOn 29 = .ok (.goto 5, 3) := by decide +kernel
theorem dX8_cellOn_32 : decode cX8_cellOn 32 = .ok (.iload 4, 2) := by decide +kernel
theorem dX8_cellOn_34 : decode cX8_cellOn 34 = .ok (.istore 5, 2) := by decide +kernel
theorem dX8_cellOn_36 : decode cX8_cellOn 36 = .ok (.iload_n 2, 1) := by decide +kernel
theorem dX8_cellOn_37 : decode cX8_cellOn 37 = .ok (.iload 5, 2) := by decide +kernel
theorem dX8_cellOn_39 : decode cX8_cellOn 39 = .ok (.isub, 1) := by decide +kernel
theorem dX8_cellOn_40 : decode cX8_cellOn 40 = .ok (.istore 6, 2) := by decide +kernel
theorem dX8_cellOn_42 : decode cX8_cellOn 42 = .ok (.iload_n 0, 1) := by decide +kernel
theorem dX8_cellOn_43 : decode cX8_cellOn 43 = .ok (.iload_n 3, 1) := by decide +kernel
theorem dX8_cellOn_44 : decode cX8_cellOn 44 = .ok (.ifCond .ge 9, 3) := by decide +kernel
theorem dX8_cellOn_47 : decode cX8_cellOn 47 = .ok (.iload 5, 2) := by decide +kernel
theorem dX8_cellOn_49 : decode cX8_cellOn 49 = .ok (.ineg, 1) := by decide +kernel
theorem dX8_cellOn_50 : decode cX8_cellOn 50 = .ok (.goto 5, 3) := by decide +kernel
theorem dX8_cellOn_53 : decode cX8_cellOn 53 = .ok (.iload 5, 2) := by decide +kernel
theorem dX8_cellOn_55 : decode cX8_cellOn 55 = .ok (.iadd, 1) := by decide +kernel
theorem dX8_cellOn_56 : decode cX8_cellOn 56 = .ok (.iload_n 1, 1) := by decide +kernel
theorem dX8_cellOn_57 : decode cX8_cellOn 57 = .ok (.bipush 6, 2) := by decide +kernel
theorem dX8_cellOn_59 : decode cX8_cellOn 59 = .ok (.idiv, 1) := by decide +kernel
theorem dX8_cellOn_60 : decode cX8_cellOn 60 = .ok (.iload_n 0, 1) := by decide +kernel
theorem dX8_cellOn_61 : decode cX8_cellOn 61 = .ok (.bipush 6, 2) := by decide +kernel
theorem dX8_cellOn_63 : decode cX8_cellOn 63 = .ok (.idiv, 1) := by decide +kernel
theorem dX8_cellOn_64 : decode cX8_cellOn 64 = .ok (.if_icmp .ge 11, 3) := by decide +kernel
theorem dX8_cellOn_67 : decode cX8_cellOn 67 = .ok (.bipush (-6), 2) := by decide +kernel
theorem dX8_cellOn_69 : decode cX8_cellOn 69 = .ok (.iload 6, 2) := by decide +kernel
theorem dX8_cellOn_71 : decode cX8_cellOn 71 = .ok (.imul, 1) := by decide +kernel
theorem dX8_cellOn_72 : decode cX8_cellOn 72 = .ok (.goto 8, 3) := by decide +kernel
theorem dX8_cellOn_75 : decode cX8_cellOn 75 = .ok (.bipush 6, 2) := by decide +kernel
theorem dX8_cellOn_77 : decode cX8_cellOn 77 = .ok (.iload 6, 2) := by decide +kernel
theorem dX8_cellOn_79 : decode cX8_cellOn 79 = .ok (.imul, 1) := by decide +kernel
theorem dX8_cellOn_80 : decode cX8_cellOn 80 = .ok (.iadd, 1) := by decide +kernel
theorem dX8_cellOn_81 : decode cX8_cellOn 81 = .ok (.ireturn, 1) := by decide +kernel
theorem dX8_layPlans_0 : decode cX8_layPlans 0 = .ok (.iconst 0, 1) := by decide +kernel
theorem dX8_layPlans_1 : decode cX8_layPlans 1 = .ok (.istore_n 1, 1) := by decide +kernel
theorem dX8_layPlans_2 : decode cX8_layPlans 2 = .ok (.iload_n 1, 1) := by decide +kernel
theorem dX8_layPlans_3 : decode cX8_layPlans 3 = .ok (.iconst 4, 1) := by decide +kernel
theorem dX8_layPlans_4 : decode cX8_layPlans 4 = .ok (.if_icmp .ge 60, 3) := by decide +kernel
theorem dX8_layPlans_7 : decode cX8_layPlans 7 = .ok (.aload_n 0, 1) := by decide +kernel
theorem dX8_layPlans_8 : decode cX8_layPlans 8 = .ok (.getfield 31, 3) := by decide +kernel
theorem dX8_layPlans_11 : decode cX8_layPlans 11 = .ok (.iload_n 1, 1) := by decide +kernel
theorem dX8_layPlans_12 : decode cX8_layPlans 12 = .ok (.iload_n 1, 1) := by decide +kernel
theorem dX8_layPlans_13 : decode cX8_layPlans 13 = .ok (.aload_n 0, 1) := by decide +kernel
theorem dX8_layPlans_14 : decode cX8_layPlans 14 = .ok (.getfield 19, 3) := by decide +kernel
theorem dX8_layPlans_17 : decode cX8_layPlans 17 = .ok (.bipush 8, 2) := by decide +kernel
theorem dX8_layPlans_19 : decode cX8_layPlans 19 = .ok (.iaload, 1) := by decide +kernel
theorem dX8_layPlans_20 : decode cX8_layPlans 20 = .ok (.if_icmp .ge 12, 3) := by decide +kernel
theorem dX8_layPlans_23 : decode cX8_layPlans 23 = .ok (.aload_n 0, 1) := by decide +kernel
theorem dX8_layPlans_24 : decode cX8_layPlans 24 = .ok (.iload_n 1, 1) := by decide +kernel
theorem dX8_layPlans_25 : decode cX8_layPlans 25 = .ok (.iconst 2, 1) := by decide +kernel
theorem dX8_layPlans_26 : decode cX8_layPlans 26 = .ok (.invokevirtual 188, 3) := by decide +kernel
theorem dX8_layPlans_29 : decode cX8_layPlans 29 = .ok (.goto 4, 3) := by decide +kernel
theorem dX8_layPlans_32 : decode cX8_layPlans 32 = .ok (.iconst (-1), 1) := by decide +kernel
theorem dX8_layPlans_33 : decode cX8_layPlans 33 = .ok (.iastore, 1) := by decide +kernel
theorem dX8_layPlans_34 : decode cX8_layPlans 34 = .ok (.aload_n 0, 1) := by decide +kernel
theorem dX8_layPlans_35 : decode cX8_layPlans 35 = .ok (.getfield 34, 3) := by decide +kernel
theorem dX8_layPlans_38 : decode cX8_layPlans 38 = .ok (.iload_n 1, 1) := by decide +kernel
theorem dX8_layPlans_39 : decode cX8_layPlans 39 = .ok (.aload_n 0, 1) := by decide +kernel
theorem dX8_layPlans_40 : decode cX8_layPlans 40 = .ok (.iload_n 1, 1) := by decide +kernel
theorem dX8_layPlans_41 : decode cX8_layPlans 41 = .ok (.iconst 3, 1) := by decide +kernel
theorem dX8_layPlans_42 : decode cX8_layPlans 42 = .ok (.invokevirtual 188, 3) := by decide +kernel
theorem dX8_layPlans_45 : decode cX8_layPlans 45 = .ok (.iastore, 1) := by decide +kernel
theorem dX8_layPlans_46 : decode cX8_layPlans 46 = .ok (.aload_n 0, 1) := by decide +kernel
theorem dX8_layPlans_47 : decode cX8_layPlans 47 = .ok (.getfield 37, 3) := by decide +kernel
theorem dX8_layPlans_50 : decode cX8_layPlans 50 = .ok (.iload_n 1, 1) := by decide +kernel
theorem dX8_layPlans_51 : decode cX8_layPlans 51 = .ok (.aload_n 0, 1) := by decide +kernel
theorem dX8_layPlans_52 : decode cX8_layPlans 52 = .ok (.iload_n 1, 1) := by decide +kernel
theorem dX8_layPlans_53 : decode cX8_layPlans 53 = .ok (.iconst 4, 1) := by decide +kernel
theorem dX8_layPlans_54 : decode cX8_layPlans 54 = .ok (.invokevirtual 188, 3) := by decide +kernel
theorem dX8_layPlans_57 : decode cX8_layPlans 57 = .ok (.iastore, 1) := by decide +kernel
theorem dX8_layPlans_58 : decode cX8_layPlans 58 = .ok (.iinc 1 1, 3) := by decide +kernel
theorem dX8_layPlans_61 : decode cX8_layPlans 61 = .ok (.goto (-59), 3) := by decide +kernel
theorem dX8_layPlans_64 : decode cX8_layPlans 64 = .ok (.aload_n 0, 1) := by decide +kernel
theorem dX8_layPlans_65 : decode cX8_layPlans 65 = .ok (.invokevirtual 191, 3) := by decide +kernel
theorem dX8_layPlans_68 : decode cX8_layPlans 68 = .ok (.return_, 1) := by decide +kernel
theorem dX8_layApples_0 : decode cX8_layApples 0 = .ok (.iconst 0, 1) := by decide +kernel
theorem dX8_layApples_1 : decode cX8_layApples 1 = .ok (.istore_n 1, 1) := by decide +kernel
theorem dX8_layApples_2 : decode cX8_layApples 2 = .ok (.iload_n 1, 1) := by decide +kernel
theorem dX8_layApples_3 : decode cX8_layApples 3 = .ok (.bipush 6, 2) := by decide +kernel
theorem dX8_layApples_5 : decode cX8_layApples 5 = .ok (.if_icmp .ge 28, 3) := by decide +kernel
theorem dX8_layApples_8 : decode cX8_layApples 8 = .ok (.aload_n 0, 1) := by decide +kernel
theorem dX8_layApples_9 : decode cX8_layApples 9 = .ok (.getfield 40, 3) := by decide +kernel
theorem dX8_layApples_12 : decode cX8_layApples 12 = .ok (.iload_n 1, 1) := by decide +kernel
theorem dX8_layApples_13 : decode cX8_layApples 13 = .ok (.aload_n 0, 1) := by decide +kernel
theorem dX8_layApples_14 : decode cX8_layApples 14 = .ok (.getfield 19, 3) := by decide +kernel
theorem dX8_layApples_17 : decode cX8_layApples 17 = .ok (.bipush 17, 2) := by decide +kernel
theorem dX8_layApples_19 : decode cX8_layApples 19 = .ok (.iconst 3, 1) := by decide +kernel
theorem dX8_layApples_20 : decode cX8_layApples 20 = .ok (.iload_n 1, 1) := by decide +kernel
theorem dX8_layApples_21 : decode cX8_layApples 21 = .ok (.imul, 1) := by decide +kernel
theorem dX8_layApples_22 : decode cX8_layApples 22 = .ok (.iadd, 1) := by decide +kernel
theorem dX8_layApples_23 : decode cX8_layApples 23 = .ok (.iconst 1, 1) := by decide +kernel
theorem dX8_layApples_24 : decode cX8_layApples 24 = .ok (.iadd, 1) := by decide +kernel
theorem dX8_layApples_25 : decode cX8_layApples 25 = .ok (.iaload, 1) := by decide +kernel
theorem dX8_layApples_26 : decode cX8_layApples 26 = .ok (.iastore, 1) := by decide +kernel
theorem dX8_layApples_27 : decode cX8_layApples 27 = .ok (.iinc 1 1, 3) := by decide +kernel
theorem dX8_layApples_30 : decode cX8_layApples 30 = .ok (.goto (-28), 3) := by decide +kernel
theorem dX8_layApples_33 : decode cX8_layApples 33 = .ok (.return_, 1) := by decide +kernel
theorem dX8_paceOf_0 : decode cX8_paceOf 0 = .ok (.aload_n 0, 1) := by decide +kernel
theorem dX8_paceOf_1 : decode cX8_paceOf 1 = .ok (.iload_n 1, 1) := by decide +kernel
theorem dX8_paceOf_2 : decode cX8_paceOf 2 = .ok (.iconst 0, 1) := by decide +kernel
theorem dX8_paceOf_3 : decode cX8_paceOf 3 = .ok (.invokevirtual 188, 3) := by decide +kernel
theorem dX8_paceOf_6 : decode cX8_paceOf 6 = .ok (.istore_n 2, 1) := by decide +kernel
theorem dX8_paceOf_7 : decode cX8_paceOf 7 = .ok (.iconst 2, 1) := by decide +kernel
theorem dX8_paceOf_8 : decode cX8_paceOf 8 = .ok (.aload_n 0, 1) := by decide +kernel
theorem dX8_paceOf_9 : decode cX8_paceOf 9 = .ok (.getfield 52, 3) := by decide +kernel
theorem dX8_paceOf_12 : decode cX8_paceOf 12 = .ok (.iload_n 1, 1) := by decide +kernel
theorem dX8_paceOf_13 : decode cX8_paceOf 13 = .ok (.iaload, 1) := by decide +kernel
theorem dX8_paceOf_14 : decode cX8_paceOf 14 = .ok (.iload_n 2, 1) := by decide +kernel
theorem dX8_paceOf_15 : decode cX8_paceOf 15 = .ok (.iconst 3, 1) := by decide +kernel
theorem dX8_paceOf_16 : decode cX8_paceOf 16 = .ok (.if_icmp .ne 8, 3) := by decide +kernel
theorem dX8_paceOf_19 : decode cX8_paceOf 19 = .ok (.bipush 12, 2) := by decide +kernel
theorem dX8_paceOf_21 : decode cX8_paceOf 21 = .ok (.goto 5, 3) := by decide +kernel
theorem dX8_paceOf_24 : decode cX8_paceOf 24 = .ok (.bipush 6, 2) := by decide +kernel
theorem dX8_paceOf_26 : decode cX8_paceOf 26 = .ok (.idiv, 1) := by decide +kernel
theorem dX8_paceOf_27 : decode cX8_paceOf 27 = .ok (.iadd, 1) := by decide +kernel
theorem dX8_paceOf_28 : decode cX8_paceOf 28 = .ok (.iload_n 2, 1) := by decide +kernel
theorem dX8_paceOf_29 : decode cX8_paceOf 29 = .ok (.iconst 2, 1) := by decide +kernel
theorem dX8_paceOf_30 : decode cX8_paceOf 30 = .ok (.if_icmp .ne 7, 3) := by decide +kernel
theorem dX8_paceOf_33 : decode cX8_paceOf 33 = .ok (.iconst 1, 1) := by decide +kernel
theorem dX8_paceOf_34 : decode cX8_paceOf 34 = .ok (.goto 4, 3) := by decide +kernel
theorem dX8_paceOf_37 : decode cX8_paceOf 37 = .ok (.iconst 0, 1) := by decide +kernel
theorem dX8_paceOf_38 : decode cX8_paceOf 38 = .ok (.isub, 1) := by decide +kernel
theorem dX8_paceOf_39 : decode cX8_paceOf 39 = .ok (.ireturn, 1) := by decide +kernel
theorem dX8_treeCell_0 : decode cX8_treeCell 0 = .ok (.aload_n 0, 1) := by decide +kernel
theorem dX8_treeCell_1 : decode cX8_treeCell 1 = .ok (.getfield 19, 3) := by decide +kernel
theorem dX8_treeCell_4 : decode cX8_treeCell 4 = .ok (.bipush 17, 2) := by decide +kernel
theorem dX8_treeCell_6 : decode cX8_treeCell 6 = .ok (.iconst 3, 1) := by decide +kernel
theorem dX8_treeCell_7 : decode cX8_treeCell 7 = .ok (.aload_n 0, 1) := by decide +kernel
theorem dX8_treeCell_8 : decode cX8_treeCell 8 = .ok (.getfield 31, 3) := by decide +kernel
theorem dX8_treeCell_11 : decode cX8_treeCell 11 = .ok (.iload_n 1, 1) := by decide +kernel
theorem dX8_treeCell_12 : decode cX8_treeCell 12 = .ok (.iaload, 1) := by decide +kernel
theorem dX8_treeCell_13 : decode cX8_treeCell 13 = .ok (.imul, 1) := by decide +kernel
theorem dX8_treeCell_14 : decode cX8_treeCell 14 = .ok (.iadd, 1) := by decide +kernel
theorem dX8_treeCell_15 : decode cX8_treeCell 15 = .ok (.iaload, 1) := by decide +kernel
theorem dX8_treeCell_16 : decode cX8_treeCell 16 = .ok (.ireturn, 1) := by decide +kernel
theorem dX8_cackle_0 : decode cX8_cackle 0 = .ok (.iconst 0, 1) := by decide +kernel
theorem dX8_cackle_1 : decode cX8_cackle 1 = .ok (.istore_n 2, 1) := by decide +kernel
theorem dX8_cackle_2 : decode cX8_cackle 2 = .ok (.iload_n 2, 1) := by decide +kernel
theorem dX8_cackle_3 : decode cX8_cackle 3 = .ok (.aload_n 0, 1) := by decide +kernel
theorem dX8_cackle_4 : decode cX8_cackle 4 = .ok (.getfield 19, 3) := by decide +kernel
theorem dX8_cackle_7 : decode cX8_cackle 7 = .ok (.bipush 6, 2) := by decide +kernel
theorem dX8_cackle_9 : decode cX8_cackle 9 = .ok (.iaload, 1) := by decide +kernel
theorem dX8_cackle_10 : decode cX8_cackle 10 = .ok (.if_icmp .ge 54, 3) := by decide +kernel
theorem dX8_cackle_13 : decode cX8_cackle 13 = .ok (.aload_n 0, 1) := by decide +kernel
theorem dX8_cackle_14 : decode cX8_cackle 14 = .ok (.dup, 1) := by decide +kernel
theorem dX8_cackle_15 : decode cX8_cackle 15 = .ok (.getfield 194, 3) := by decide +kernel
theorem dX8_cackle_18 : decode cX8_cackle 18 = .ok (.iload_n 1, 1) := by decide +kernel
theorem dX8_cackle_19 : decode cX8_cackle 19 = .ok (.aload_n 0, 1) := by decide +kernel
theorem dX8_cackle_20 : decode cX8_cackle 20 = .ok (.getfield 19, 3) := by decide +kernel
theorem dX8_cackle_23 : decode cX8_cackle 23 = .ok (.bipush 11, 2) := by decide +kernel
theorem dX8_cackle_25 : decode cX8_cackle 25 = .ok (.iconst 2, 1) := by decide +kernel
theorem dX8_cackle_26 : decode cX8_cackle 26 = .ok (.iload_n 2, 1) := by decide +kernel
theorem dX8_cackle_27 : decode cX8_cackle 27 = .ok (.imul, 1) := by decide +kernel
theorem dX8_cackle_28 : decode cX8_cackle 28 = .ok (.iadd, 1) := by decide +kernel
theorem dX8_cackle_29 : decode cX8_cackle 29 = .ok (.iaload, 1) := by decide +kernel
theorem dX8_cackle_30 : decode cX8_cackle 30 = .ok (.invokestatic 197, 3) := by decide +kernel
theorem dX8_cackle_33 : decode cX8_cackle 33 = .ok (.iconst 2, 1) := by decide +kernel
theorem dX8_cackle_34 : decode cX8_cackle 34 = .ok (.if_icmp .ge 19, 3) := by decide +kernel
theorem dX8_cackle_37 : decode cX8_cackle 37 = .ok (.aload_n 0, 1) := by decide +kernel
theorem dX8_cackle_38 : decode cX8_cackle 38 = .ok (.getfield 19, 3) := by decide +kernel
theorem dX8_cackle_41 : decode cX8_cackle 41 = .ok (.bipush 11, 2) := by decide +kernel
theorem dX8_cackle_43 : decode cX8_cackle 43 = .ok (.iconst 2, 1) := by decide +kernel
theorem dX8_cackle_44 : decode cX8_cackle 44 = .ok (.iload_n 2, 1) := by decide +kernel
theorem dX8_cackle_45 : decode cX8_cackle 45 = .ok (.imul, 1) := by decide +kernel
theorem dX8_cackle_46 : decode cX8_cackle 46 = .ok (.iadd, 1) := by decide +kernel
theorem dX8_cackle_47 : decode cX8_cackle 47 = .ok (.iconst 1, 1) := by decide +kernel
theorem dX8_cackle_48 : decode cX8_cackle 48 = .ok (.iadd, 1) := by decide +kernel
theorem dX8_cackle_49 : decode cX8_cackle 49 = .ok (.iaload, 1) := by decide +kernel
theorem dX8_cackle_50 : decode cX8_cackle 50 = .ok (.goto 4, 3) := by decide +kernel
theorem dX8_cackle_53 : decode cX8_cackle 53 = .ok (.iconst 0, 1) := by decide +kernel
theorem dX8_cackle_54 : decode cX8_cackle 54 = .ok (.iadd, 1) := by decide +kernel
theorem dX8_cackle_55 : decode cX8_cackle 55 = .ok (.putfield 194, 3) := by decide +kernel
theorem dX8_cackle_58 : decode cX8_cackle 58 = .ok (.iinc 2 1, 3) := by decide +kernel
theorem dX8_cackle_61 : decode cX8_cackle 61 = .ok (.goto (-59), 3) := by decide +kernel
theorem dX8_cackle_64 : decode cX8_cackle 64 = .ok (.return_, 1) := by decide +kernel
theorem dX8_walks_0 : decode cX8_walks 0 = .ok (.aload_n 0, 1) := by decide +kernel
theorem dX8_walks_1 : decode cX8_walks 1 = .ok (.getfield 49, 3) := by decide +kernel
theorem dX8_walks_4 : decode cX8_walks 4 = .ok (.iload_n 1, 1) := by decide +kernel
theorem dX8_walks_5 : decode cX8_walks 5 = .ok (.dup2, 1) := by decide +kernel
theorem dX8_walks_6 : decode cX8_walks 6 = .ok (.iaload, 1) := by decide +kernel
theorem dX8_walks_7 : decode cX8_walks 7 = .ok (.iconst 1, 1) := by decide +kernel
theorem dX8_walks_8 : decode cX8_walks 8 = .ok (.iadd, 1) := by decide +kernel
theorem dX8_walks_9 : decode cX8_walks 9 = .ok (.iastore, 1) := by decide +kernel
theorem dX8_walks_10 : decode cX8_walks 10 = .ok (.aload_n 0, 1) := by decide +kernel
theorem dX8_walks_11 : decode cX8_walks 11 = .ok (.getfield 49, 3) := by decide +kernel
theorem dX8_walks_14 : decode cX8_walks 14 = .ok (.iload_n 1, 1) := by decide +kernel
theorem dX8_walks_15 : decode cX8_walks 15 = .ok (.iaload, 1) := by decide +kernel
theorem dX8_walks_16 : decode cX8_walks 16 = .ok (.aload_n 0, 1) := by decide +kernel
theorem dX8_walks_17 : decode cX8_walks 17 = .ok (.iload_n 1, 1) := by decide +kernel
theorem dX8_walks_18 : decode cX8_walks 18 = .ok (.invokevirtual 200, 3) := by decide +kernel
theorem dX8_walks_21 : decode cX8_walks 21 = .ok (.if_icmp .ge 4, 3) := by decide +kernel
theorem dX8_walks_24 : decode cX8_walks 24 = .ok (.return_, 1) := by decide +kernel
theorem dX8_walks_25 : decode cX8_walks 25 = .ok (.aload_n 0, 1) := by decide +kernel
theorem dX8_walks_26 : decode cX8_walks 26 = .ok (.getfield 49, 3) := by decide +kernel
theorem dX8_walks_29 : decode cX8_walks 29 = .ok (.iload_n 1, 1) := by decide +kernel
theorem dX8_walks_30 : decode cX8_walks 30 = .ok (.iconst 0, 1) := by decide +kernel
theorem dX8_walks_31 : decode cX8_walks 31 = .ok (.iastore, 1) := by decide +kernel
theorem dX8_walks_32 : decode cX8_walks 32 = .ok (.aload_n 0, 1) := by decide +kernel
theorem dX8_walks_33 : decode cX8_walks 33 = .ok (.getfield 43, 3) := by decide +kernel
theorem dX8_walks_36 : decode cX8_walks 36 = .ok (.iload_n 1, 1) := by decide +kernel
theorem dX8_walks_37 : decode cX8_walks 37 = .ok (.dup2, 1) := by decide +kernel
theorem dX8_walks_38 : decode cX8_walks 38 = .ok (.iaload, 1) := by decide +kernel
theorem dX8_walks_39 : decode cX8_walks 39 = .ok (.aload_n 0, 1) := by decide +kernel
theorem dX8_walks_40 : decode cX8_walks 40 = .ok (.getfield 46, 3) := by decide +kernel
theorem dX8_walks_43 : decode cX8_walks 43 = .ok (.iload_n 1, 1) := by decide +kernel
theorem dX8_walks_44 : decode cX8_walks 44 = .ok (.iaload, 1) := by decide +kernel
theorem dX8_walks_45 : decode cX8_walks 45 = .ok (.ifCond .ne 7, 3) := by decide +kernel
theorem dX8_walks_48 : decode cX8_walks 48 = .ok (.iconst 1, 1) := by decide +kernel
theorem dX8_walks_49 : decode cX8_walks 49 = .ok (.goto 4, 3) := by decide +kernel
theorem dX8_walks_52 : decode cX8_walks 52 = .ok (.iconst (-1), 1) := by decide +kernel
theorem dX8_walks_53 : decode cX8_walks 53 = .ok (.iadd, 1) := by decide +kernel
theorem dX8_walks_54 : decode cX8_walks 54 = .ok (.iastore, 1) := by decide +kernel
theorem dX8_walks_55 : decode cX8_walks 55 = .ok (.aload_n 0, 1) := by decide +kernel
theorem dX8_walks_56 : decode cX8_walks 56 = .ok (.aload_n 0, 1) := by decide +kernel
theorem dX8_walks_57 : decode cX8_walks 57 = .ok (.getfield 19, 3) := by decide +kernel
theorem dX8_walks_60 : decode cX8_walks 60 = .ok (.iconst 2, 1) := by decide +kernel
theorem dX8_walks_61 : decode cX8_walks 61 = .ok (.iaload, 1) := by decide +kernel
theorem dX8_walks_62 : decode cX8_walks 62 = .ok (.aload_n 0, 1) := by decide +kernel
theorem dX8_walks_63 : decode cX8_walks 63 = .ok (.iload_n 1, 1) := by decide +kernel
theorem dX8_walks_64 : decode cX8_walks 64 = .ok (.invokevirtual 203, 3) := by decide +kernel
theorem dX8_walks_67 : decode cX8_walks 67 = .ok (.aload_n 0, 1) := by decide +kernel
theorem dX8_walks_68 : decode cX8_walks 68 = .ok (.getfield 43, 3) := by decide +kernel
theorem dX8_walks_71 : decode cX8_walks 71 = .ok (.iload_n 1, 1) := by decide +kernel
theorem dX8_walks_72 : decode cX8_walks 72 = .ok (.iaload, 1) := by decide +kernel
theorem dX8_walks_73 : decode cX8_walks 73 = .ok (.invokestatic 206, 3) := by decide +kernel
theorem dX8_walks_76 : decode cX8_walks 76 = .ok (.invokevirtual 210, 3) := by decide +kernel
theorem dX8_walks_79 : decode cX8_walks 79 = .ok (.aload_n 0, 1) := by decide +kernel
theorem dX8_walks_80 : decode cX8_walks 80 = .ok (.getfield 46, 3) := by decide +kernel
theorem dX8_walks_83 : decode cX8_walks 83 = .ok (.iload_n 1, 1) := by decide +kernel
theorem dX8_walks_84 : decode cX8_walks 84 = .ok (.iaload, 1) := by decide +kernel
theorem dX8_walks_85 : decode cX8_walks 85 = .ok (.ifCond .ne 36, 3) := by decide +kernel
theorem dX8_walks_88 : decode cX8_walks 88 = .ok (.aload_n 0, 1) := by decide +kernel
theorem dX8_walks_89 : decode cX8_walks 89 = .ok (.getfield 43, 3) := by decide +kernel
theorem dX8_walks_92 : decode cX8_walks 92 = .ok (.iload_n 1, 1) := by decide +kernel
theorem dX8_walks_93 : decode cX8_walks 93 = .ok (.iaload, 1) := by decide +kernel
theorem dX8_walks_94 : decode cX8_walks 94 = .ok (.aload_n 0, 1) := by decide +kernel
theorem dX8_walks_95 : decode cX8_walks 95 = .ok (.getfield 19, 3) := by decide +kernel
theorem dX8_walks_98 : decode cX8_walks 98 = .ok (.iconst 2, 1) := by decide +kernel
theorem dX8_walks_99 : decode cX8_walks 99 = .ok (.iaload, 1) := by decide +kernel
theorem dX8_walks_100 : decode cX8_walks 100 = .ok (.aload_n 0, 1) := by decide +kernel
theorem dX8_walks_101 : decode cX8_walks 101 = .ok (.iload_n 1, 1) := by decide +kernel
theorem dX8_walks_102 : decode cX8_walks 102 = .ok (.invokevirtual 203, 3) := by decide +kernel
theorem dX8_walks_105 : decode cX8_walks 105 = .ok (.invokestatic 197, 3) := by decide +kernel
theorem dX8_walks_108 : decode cX8_walks 108 = .ok (.if_icmp .ne 13, 3) := by decide +kernel
theorem dX8_walks_111 : decode cX8_walks 111 = .ok (.aload_n 0, 1) := by decide +kernel
theorem dX8_walks_112 : decode cX8_walks 112 = .ok (.getfield 46, 3) := by decide +kernel
theorem dX8_walks_115 : decode cX8_walks 115 = .ok (.iload_n 1, 1) := by decide +kernel
theorem dX8_walks_116 : decode cX8_walks 116 = .ok (.iconst 1, 1) := by decide +kernel
theorem dX8_walks_117 : decode cX8_walks 117 = .ok (.iastore, 1) := by decide +kernel
theorem dX8_walks_118 : decode cX8_walks 118 = .ok (.goto 36, 3) := by decide +kernel
theorem dX8_walks_121 : decode cX8_walks 121 = .ok (.aload_n 0, 1) := by decide +kernel
theorem dX8_walks_122 : decode cX8_walks 122 = .ok (.getfield 46, 3) := by decide +kernel
theorem dX8_walks_125 : decode cX8_walks 125 = .ok (.iload_n 1, 1) := by decide +kernel
theorem dX8_walks_126 : decode cX8_walks 126 = .ok (.iaload, 1) := by decide +kernel
theorem dX8_walks_127 : decode cX8_walks 127 = .ok (.iconst 2, 1) := by decide +kernel
theorem dX8_walks_128 : decode cX8_walks 128 = .ok (.if_icmp .ne 26, 3) := by decide +kernel
theorem dX8_walks_131 : decode cX8_walks 131 = .ok (.aload_n 0, 1) := by decide +kernel
theorem dX8_walks_132 : decode cX8_walks 132 = .ok (.getfield 43, 3) := by decide +kernel
theorem dX8_walks_135 : decode cX8_walks 135 = .ok (.iload_n 1, 1) := by decide +kernel
theorem dX8_walks_136 : decode cX8_walks 136 = .ok (.iaload, 1) := by decide +kernel
theorem dX8_walks_137 : decode cX8_walks 137 = .ok (.ifCond .ne 17, 3) := by decide +kernel
theorem dX8_walks_140 : decode cX8_walks 140 = .ok (.aload_n 0, 1) := by decide +kernel
theorem dX8_walks_141 : decode cX8_walks 141 = .ok (.getfield 46, 3) := by decide +kernel
theorem dX8_walks_144 : decode cX8_walks 144 = .ok (.iload_n 1, 1) := by decide +kernel
theorem dX8_walks_145 : decode cX8_walks 145 = .ok (.iconst 3, 1) := by decide +kernel
theorem dX8_walks_146 : decode cX8_walks 146 = .ok (.iastore, 1) := by decide +kernel
theorem dX8_walks_147 : decode cX8_walks 147 = .ok (.aload_n 0, 1) := by decide +kernel
theorem dX8_walks_148 : decode cX8_walks 148 = .ok (.getfield 58, 3) := by decide +kernel
theorem dX8_walks_151 : decode cX8_walks 151 = .ok (.iload_n 1, 1) := by decide +kernel
theorem dX8_walks_152 : decode cX8_walks 152 = .ok (.iload_n 2, 1) := by decide +kernel
theorem dX8_walks_153 : decode cX8_walks 153 = .ok (.iastore, 1) := by decide +kernel
theorem dX8_walks_154 : decode cX8_walks 154 = .ok (.return_, 1) := by decide +kernel
theorem dX8_picks_0 : decode cX8_picks 0 = .ok (.aload_n 0, 1) := by decide +kernel
theorem dX8_picks_1 : decode cX8_picks 1 = .ok (.getfield 49, 3) := by decide +kernel
theorem dX8_picks_4 : decode cX8_picks 4 = .ok (.iload_n 1, 1) := by decide +kernel
theorem dX8_picks_5 : decode cX8_picks 5 = .ok (.dup2, 1) := by decide +kernel
theorem dX8_picks_6 : decode cX8_picks 6 = .ok (.iaload, 1) := by decide +kernel
theorem dX8_picks_7 : decode cX8_picks 7 = .ok (.iconst 1, 1) := by decide +kernel
theorem dX8_picks_8 : decode cX8_picks 8 = .ok (.iadd, 1) := by decide +kernel
theorem dX8_picks_9 : decode cX8_picks 9 = .ok (.iastore, 1) := by decide +kernel
theorem dX8_picks_10 : decode cX8_picks 10 = .ok (.aload_n 0, 1) := by decide +kernel
theorem dX8_picks_11 : decode cX8_picks 11 = .ok (.getfield 49, 3) := by decide +kernel
theorem dX8_picks_14 : decode cX8_picks 14 = .ok (.iload_n 1, 1) := by decide +kernel
theorem dX8_picks_15 : decode cX8_picks 15 = .ok (.iaload, 1) := by decide +kernel
theorem dX8_picks_16 : decode cX8_picks 16 = .ok (.iconst 2, 1) := by decide +kernel
theorem dX8_picks_17 : decode cX8_picks 17 = .ok (.if_icmp .ge 4, 3) := by decide +kernel
theorem dX8_picks_20 : decode cX8_picks 20 = .ok (.return_, 1) := by decide +kernel
theorem dX8_picks_21 : decode cX8_picks 21 = .ok (.aload_n 0, 1) := by decide +kernel
theorem dX8_picks_22 : decode cX8_picks 22 = .ok (.getfield 49, 3) := by decide +kernel
theorem dX8_picks_25 : decode cX8_picks 25 = .ok (.iload_n 1, 1) := by decide +kernel
theorem dX8_picks_26 : decode cX8_picks 26 = .ok (.iconst 0, 1) := by decide +kernel
theorem dX8_picks_27 : decode cX8_picks 27 = .ok (.iastore, 1) := by decide +kernel
theorem dX8_picks_28 : decode cX8_picks 28 = .ok (.aload_n 0, 1) := by decide +kernel
theorem dX8_picks_29 : decode cX8_picks 29 = .ok (.getfield 31, 3) := by decide +kernel
theorem dX8_picks_32 : decode cX8_picks 32 = .ok (.iload_n 1, 1) := by decide +kernel
theorem dX8_picks_33 : decode cX8_picks 33 = .ok (.iaload, 1) := by decide +kernel
theorem dX8_picks_34 : decode cX8_picks 34 = .ok (.istore_n 2, 1) := by decide +kernel
theorem dX8_picks_35 : decode cX8_picks 35 = .ok (.aload_n 0, 1) := by decide +kernel
theorem dX8_picks_36 : decode cX8_picks 36 = .ok (.getfield 40, 3) := by decide +kernel
theorem dX8_picks_39 : decode cX8_picks 39 = .ok (.iload_n 2, 1) := by decide +kernel
theorem dX8_picks_40 : decode cX8_picks 40 = .ok (.iaload, 1) := by decide +kernel
theorem dX8_picks_41 : decode cX8_picks 41 = .ok (.ifCond .le 68, 3) := by decide +kernel
theorem dX8_picks_44 : decode cX8_picks 44 = .ok (.aload_n 0, 1) := by decide +kernel
theorem dX8_picks_45 : decode cX8_picks 45 = .ok (.getfield 40, 3) := by decide +kernel
theorem dX8_picks_48 : decode cX8_picks 48 = .ok (.iload_n 2, 1) := by decide +kernel
theorem dX8_picks_49 : decode cX8_picks 49 = .ok (.dup2, 1) := by decide +kernel
theorem dX8_picks_50 : decode cX8_picks 50 = .ok (.iaload, 1) := by decide +kernel
theorem dX8_picks_51 : decode cX8_picks 51 = .ok (.iconst 1, 1) := by decide +kernel
theorem dX8_picks_52 : decode cX8_picks 52 = .ok (.isub, 1) := by decide +kernel
theorem dX8_picks_53 : decode cX8_picks 53 = .ok (.iastore, 1) := by decide +kernel
theorem dX8_picks_54 : decode cX8_picks 54 = .ok (.aload_n 0, 1) := by decide +kernel
theorem dX8_picks_55 : decode cX8_picks 55 = .ok (.dup, 1) := by decide +kernel
theorem dX8_picks_56 : decode cX8_picks 56 = .ok (.getfield 194, 3) := by decide +kernel
theorem dX8_picks_59 : decode cX8_picks 59 = .ok (.iconst 1, 1) := by decide +kernel
theorem dX8_picks_60 : decode cX8_picks 60 = .ok (.aload_n 0, 1) := by decide +kernel
theorem dX8_picks_61 : decode cX8_picks 61 = .ok (.getfield 37, 3) := by decide +kernel
theorem dX8_picks_64 : decode cX8_picks 64 = .ok (.iload_n 1, 1) := by decide +kernel
theorem dX8_picks_65 : decode cX8_picks 65 = .ok (.iaload, 1) := by decide +kernel
theorem dX8_picks_66 : decode cX8_picks 66 = .ok (.iadd, 1) := by decide +kernel
theorem dX8_picks_67 : decode cX8_picks 67 = .ok (.iadd, 1) := by decide +kernel
theorem dX8_picks_68 : decode cX8_picks 68 = .ok (.putfield 194, 3) := by decide +kernel
theorem dX8_picks_71 : decode cX8_picks 71 = .ok (.aload_n 0, 1) := by decide +kernel
theorem dX8_picks_72 : decode cX8_picks 72 = .ok (.getfield 52, 3) := by decide +kernel
theorem dX8_picks_75 : decode cX8_picks 75 = .ok (.iload_n 1, 1) := by decide +kernel
theorem dX8_picks_76 : decode cX8_picks 76 = .ok (.dup2, 1) := by decide +kernel
theorem dX8_picks_77 : decode cX8_picks 77 = .ok (.iaload, 1) := by decide +kernel
theorem dX8_picks_78 : decode cX8_picks 78 = .ok (.aload_n 0, 1) := by decide +kernel
theorem dX8_picks_79 : decode cX8_picks 79 = .ok (.getfield 37, 3) := by decide +kernel
theorem dX8_picks_82 : decode cX8_picks 82 = .ok (.iload_n 1, 1) := by decide +kernel
theorem dX8_picks_83 : decode cX8_picks 83 = .ok (.iaload, 1) := by decide +kernel
theorem dX8_picks_84 : decode cX8_picks 84 = .ok (.ifCond .ne 7, 3) := by decide +kernel
theorem dX8_picks_87 : decode cX8_picks 87 = .ok (.iconst 1, 1) := by decide +kernel
theorem dX8_picks_88 : decode cX8_picks 88 = .ok (.goto 4, 3) := by decide +kernel
theorem dX8_picks_91 : decode cX8_picks 91 = .ok (.iconst 0, 1) := by decide +kernel
theorem dX8_picks_92 : decode cX8_picks 92 = .ok (.iadd, 1) := by decide +kernel
theorem dX8_picks_93 : decode cX8_picks 93 = .ok (.iastore, 1) := by decide +kernel
theorem dX8_picks_94 : decode cX8_picks 94 = .ok (.aload_n 0, 1) := by decide +kernel
theorem dX8_picks_95 : decode cX8_picks 95 = .ok (.getfield 55, 3) := by decide +kernel
theorem dX8_picks_98 : decode cX8_picks 98 = .ok (.iload_n 1, 1) := by decide +kernel
theorem dX8_picks_99 : decode cX8_picks 99 = .ok (.dup2, 1) := by decide +kernel
theorem dX8_picks_100 : decode cX8_picks 100 = .ok (.iaload, 1) := by decide +kernel
theorem dX8_picks_101 : decode cX8_picks 101 = .ok (.aload_n 0, 1) := by decide +kernel
theorem dX8_picks_102 : decode cX8_picks 102 = .ok (.getfield 37, 3) := by decide +kernel
theorem dX8_picks_105 : decode cX8_picks 105 = .ok (.iload_n 1, 1) := by decide +kernel
theorem dX8_picks_106 : decode cX8_picks 106 = .ok (.iaload, 1) := by decide +kernel
theorem dX8_picks_107 : decode cX8_picks 107 = .ok (.iadd, 1) := by decide +kernel
theorem dX8_picks_108 : decode cX8_picks 108 = .ok (.iastore, 1) := by decide +kernel
theorem dX8_picks_109 : decode cX8_picks 109 = .ok (.aload_n 0, 1) := by decide +kernel
theorem dX8_picks_110 : decode cX8_picks 110 = .ok (.getfield 52, 3) := by decide +kernel
theorem dX8_picks_113 : decode cX8_picks 113 = .ok (.iload_n 1, 1) := by decide +kernel
theorem dX8_picks_114 : decode cX8_picks 114 = .ok (.iaload, 1) := by decide +kernel
theorem dX8_picks_115 : decode cX8_picks 115 = .ok (.aload_n 0, 1) := by decide +kernel
theorem dX8_picks_116 : decode cX8_picks 116 = .ok (.getfield 55, 3) := by decide +kernel
theorem dX8_picks_119 : decode cX8_picks 119 = .ok (.iload_n 1, 1) := by decide +kernel
theorem dX8_picks_120 : decode cX8_picks 120 = .ok (.iaload, 1) := by decide +kernel
theorem dX8_picks_121 : decode cX8_picks 121 = .ok (.iadd, 1) := by decide +kernel
theorem dX8_picks_122 : decode cX8_picks 122 = .ok (.aload_n 0, 1) := by decide +kernel
theorem dX8_picks_123 : decode cX8_picks 123 = .ok (.getfield 34, 3) := by decide +kernel
theorem dX8_picks_126 : decode cX8_picks 126 = .ok (.iload_n 1, 1) := by decide +kernel
theorem dX8_picks_127 : decode cX8_picks 127 = .ok (.iaload, 1) := by decide +kernel
theorem dX8_picks_128 : decode cX8_picks 128 = .ok (.if_icmp .ge 27, 3) := by decide +kernel
theorem dX8_picks_131 : decode cX8_picks 131 = .ok (.aload_n 0, 1) := by decide +kernel
theorem dX8_picks_132 : decode cX8_picks 132 = .ok (.getfield 52, 3) := by decide +kernel
theorem dX8_picks_135 : decode cX8_picks 135 = .ok (.iload_n 1, 1) := by decide +kernel
theorem dX8_picks_136 : decode cX8_picks 136 = .ok (.iaload, 1) := by decide +kernel
theorem dX8_picks_137 : decode cX8_picks 137 = .ok (.aload_n 0, 1) := by decide +kernel
theorem dX8_picks_138 : decode cX8_picks 138 = .ok (.iload_n 1, 1) := by decide +kernel
theorem dX8_picks_139 : decode cX8_picks 139 = .ok (.iconst 1, 1) := by decide +kernel
theorem dX8_picks_140 : decode cX8_picks 140 = .ok (.invokevirtual 188, 3) := by decide +kernel
theorem dX8_picks_143 : decode cX8_picks 143 = .ok (.if_icmp .eq 12, 3) := by decide +kernel
theorem dX8_picks_146 : decode cX8_picks 146 = .ok (.aload_n 0, 1) := by decide +kernel
theorem dX8_picks_147 : decode cX8_picks 147 = .ok (.getfield 40, 3) := by decide +kernel
theorem dX8_picks_150 : decode cX8_picks 150 = .ok (.iload_n 2, 1) := by decide +kernel
theorem dX8_picks_151 : decode cX8_picks 151 = .ok (.iaload, 1) := by decide +kernel
theorem dX8_picks_152 : decode cX8_picks 152 = .ok (.ifCond .ne 10, 3) := by decide +kernel
theorem dX8_picks_155 : decode cX8_picks 155 = .ok (.aload_n 0, 1) := by decide +kernel
theorem dX8_picks_156 : decode cX8_picks 156 = .ok (.getfield 46, 3) := by decide +kernel
theorem dX8_picks_159 : decode cX8_picks 159 = .ok (.iload_n 1, 1) := by decide +kernel
theorem dX8_picks_160 : decode cX8_picks 160 = .ok (.iconst 2, 1) := by decide +kernel
theorem dX8_picks_161 : decode cX8_picks 161 = .ok (.iastore, 1) := by decide +kernel
theorem dX8_picks_162 : decode cX8_picks 162 = .ok (.return_, 1) := by decide +kernel
theorem dX8_isOver_0 : decode cX8_isOver 0 = .ok (.iconst 1, 1) := by decide +kernel
theorem dX8_isOver_1 : decode cX8_isOver 1 = .ok (.istore_n 1, 1) := by decide +kernel
theorem dX8_isOver_2 : decode cX8_isOver 2 = .ok (.iconst 0, 1) := by decide +kernel
theorem dX8_isOver_3 : decode cX8_isOver 3 = .ok (.istore_n 2, 1) := by decide +kernel
theorem dX8_isOver_4 : decode cX8_isOver 4 = .ok (.iload_n 2, 1) := by decide +kernel
theorem dX8_isOver_5 : decode cX8_isOver 5 = .ok (.iconst 4, 1) := by decide +kernel
theorem dX8_isOver_6 : decode cX8_isOver 6 = .ok (.if_icmp .ge 29, 3) := by decide +kernel
theorem dX8_isOver_9 : decode cX8_isOver 9 = .ok (.iload_n 1, 1) := by decide +kernel
theorem dX8_isOver_10 : decode cX8_isOver 10 = .ok (.ifCond .eq 17, 3) := by decide +kernel
theorem dX8_isOver_13 : decode cX8_isOver 13 = .ok (.aload_n 0, 1) := by decide +kernel
theorem dX8_isOver_14 : decode cX8_isOver 14 = .ok (.getfield 46, 3) := by decide +kernel
theorem dX8_isOver_17 : decode cX8_isOver 17 = .ok (.iload_n 2, 1) := by decide +kernel
theorem dX8_isOver_18 : decode cX8_isOver 18 = .ok (.iaload, 1) := by decide +kernel
theorem dX8_isOver_19 : decode cX8_isOver 19 = .ok (.iconst 3, 1) := by decide +kernel
theorem dX8_isOver_20 : decode cX8_isOver 20 = .ok (.if_icmp .lt 7, 3) := by decide +kernel
theorem dX8_isOver_23 : decode cX8_isOver 23 = .ok (.iconst 1, 1) := by decide +kernel
theorem dX8_isOver_24 : decode cX8_isOver 24 = .ok (.goto 4, 3) := by decide +kernel
theorem dX8_isOver_27 : decode cX8_isOver 27 = .ok (.iconst 0, 1) := by decide +kernel
theorem dX8_isOver_28 : decode cX8_isOver 28 = .ok (.istore_n 1, 1) := by decide +kernel
theorem dX8_isOver_29 : decode cX8_isOver 29 = .ok (.iinc 2 1, 3) := by decide +kernel
theorem dX8_isOver_32 : decode cX8_isOver 32 = .ok (.goto (-28), 3) := by decide +kernel
theorem dX8_isOver_35 : decode cX8_isOver 35 = .ok (.iload_n 1, 1) := by decide +kernel
theorem dX8_isOver_36 : decode cX8_isOver 36 = .ok (.ireturn, 1) := by decide +kernel
theorem dX8_hears_0 : decode cX8_hears 0 = .ok (.aload_n 0, 1) := by decide +kernel
theorem dX8_hears_1 : decode cX8_hears 1 = .ok (.getfield 194, 3) := by decide +kernel
theorem dX8_hears_4 : decode cX8_hears 4 = .ok (.aload_n 0, 1) := by decide +kernel
theorem dX8_hears_5 : decode cX8_hears 5 = .ok (.getfield 19, 3) := by decide +kernel
theorem dX8_hears_8 : decode cX8_hears 8 = .ok (.iconst 3, 1) := by decide +kernel
theorem dX8_hears_9 : decode cX8_hears 9 = .ok (.iaload, 1) := by decide +kernel
theorem dX8_hears_10 : decode cX8_hears 10 = .ok (.if_icmp .lt 17, 3) := by decide +kernel
theorem dX8_hears_13 : decode cX8_hears 13 = .ok (.aload_n 0, 1) := by decide +kernel
theorem dX8_hears_14 : decode cX8_hears 14 = .ok (.getfield 213, 3) := by decide +kernel
theorem dX8_hears_17 : decode cX8_hears 17 = .ok (.ldc 61, 2) := by decide +kernel
theorem dX8_hears_19 : decode cX8_hears 19 = .ok (.if_icmp .ne 8, 3) := by decide +kernel
theorem dX8_hears_22 : decode cX8_hears 22 = .ok (.aload_n 0, 1) := by decide +kernel
theorem dX8_hears_23 : decode cX8_hears 23 = .ok (.iload_n 1, 1) := by decide +kernel
theorem dX8_hears_24 : decode cX8_hears 24 = .ok (.putfield 213, 3) := by decide +kernel
theorem dX8_hears_27 : decode cX8_hears 27 = .ok (.aload_n 0, 1) := by decide +kernel
theorem dX8_hears_28 : decode cX8_hears 28 = .ok (.getfield 213, 3) := by decide +kernel
theorem dX8_hears_31 : decode cX8_hears 31 = .ok (.ldc 61, 2) := by decide +kernel
theorem dX8_hears_33 : decode cX8_hears 33 = .ok (.if_icmp .eq 100, 3) := by decide +kernel
theorem dX8_hears_36 : decode cX8_hears 36 = .ok (.iload_n 1, 1) := by decide +kernel
theorem dX8_hears_37 : decode cX8_hears 37 = .ok (.aload_n 0, 1) := by decide +kernel
theorem dX8_hears_38 : decode cX8_hears 38 = .ok (.getfield 213, 3) := by decide +kernel
theorem dX8_hears_41 : decode cX8_hears 41 = .ok (.isub, 1) := by decide +kernel
theorem dX8_hears_42 : decode cX8_hears 42 = .ok (.aload_n 0, 1) := by decide +kernel
theorem dX8_hears_43 : decode cX8_hears 43 = .ok (.getfield 216, 3) := by decide +kernel
theorem dX8_hears_46 : decode cX8_hears 46 = .ok (.if_icmp .ne 87, 3) := by decide +kernel
theorem dX8_hears_49 : decode cX8_hears 49 = .ok (.iconst 0, 1) := by decide +kernel
theorem dX8_hears_50 : decode cX8_hears 50 = .ok (.istore_n 2, 1) := by decide +kernel
theorem dX8_hears_51 : decode cX8_hears 51 = .ok (.iload_n 2, 1) := by decide +kernel
theorem dX8_hears_52 : decode cX8_hears 52 = .ok (.iconst 4, 1) := by decide +kernel
theorem dX8_hears_53 : decode cX8_hears 53 = .ok (.if_icmp .ge 80, 3) := by decide +kernel
theorem dX8_hears_56 : decode cX8_hears 56 = .ok (.aload_n 0, 1) := by decide +kernel
theorem dX8_hears_57 : decode cX8_hears 57 = .ok (.getfield 46, 3) := by decide +kernel
theorem dX8_hears_60 : decode cX8_hears 60 = .ok (.iload_n 2, 1) := by decide +kernel
theorem dX8_hears_61 : decode cX8_hears 61 = .ok (.iaload, 1) := by decide +kernel
theorem dX8_hears_62 : decode cX8_hears 62 = .ok (.ifCond .eq 13, 3) := by decide +kernel
theorem dX8_hears_65 : decode cX8_hears 65 = .ok (.aload_n 0, 1) := by decide +kernel
theorem dX8_hears_66 : decode cX8_hears 66 = .ok (.getfield 46, 3) := by decide +kernel
theorem dX8_hears_69 : decode cX8_hears 69 = .ok (.iload_n 2, 1) := by decide +kernel
theorem dX8_hears_70 : decode cX8_hears 70 = .ok (.iaload, 1) := by decide +kernel
theorem dX8_hears_71 : decode cX8_hears 71 = .ok (.iconst 1, 1) := by decide +kernel
theorem dX8_hears_72 : decode cX8_hears 72 = .ok (.if_icmp .ne 55, 3) := by decide +kernel
theorem dX8_hears_75 : decode cX8_hears 75 = .ok (.aload_n 0, 1) := by decide +kernel
theorem dX8_hears_76 : decode cX8_hears 76 = .ok (.getfield 46, 3) := by decide +kernel
theorem dX8_hears_79 : decode cX8_hears 79 = .ok (.iload_n 2, 1) := by decide +kernel
theorem dX8_hears_80 : decode cX8_hears 80 = .ok (.aload_n 0, 1) := by decide +kernel
theorem dX8_hears_81 : decode cX8_hears 81 = .ok (.getfield 43, 3) := by decide +kernel
theorem dX8_hears_84 : decode cX8_hears 84 = .ok (.iload_n 2, 1) := by decide +kernel
theorem dX8_hears_85 : decode cX8_hears 85 = .ok (.iaload, 1) := by decide +kernel
theorem dX8_hears_86 : decode cX8_hears 86 = .ok (.ifCond .ne 7, 3) := by decide +kernel
theorem dX8_hears_89 : decode cX8_hears 89 = .ok (.iconst 3, 1) := by decide +kernel
theorem dX8_hears_90 : decode cX8_hears 90 = .ok (.goto 4, 3) := by decide +kernel
theorem dX8_hears_93 : decode cX8_hears 93 = .ok (.iconst 2, 1) := by decide +kernel
theorem dX8_hears_94 : decode cX8_hears 94 = .ok (.iastore, 1) := by decide +kernel
theorem dX8_hears_95 : decode cX8_hears 95 = .ok (.aload_n 0, 1) := by decide +kernel
theorem dX8_hears_96 : decode cX8_hears 96 = .ok (.getfield 58, 3) := by decide +kernel
theorem dX8_hears_99 : decode cX8_hears 99 = .ok (.iload_n 2, 1) := by decide +kernel
theorem dX8_hears_100 : decode cX8_hears 100 = .ok (.aload_n 0, 1) := by decide +kernel
theorem dX8_hears_101 : decode cX8_hears 101 = .ok (.getfield 43, 3) := by decide +kernel
theorem dX8_hears_104 : decode cX8_hears 104 = .ok (.iload_n 2, 1) := by decide +kernel
theorem dX8_hears_105 : decode cX8_hears 105 = .ok (.iaload, 1) := by decide +kernel
theorem dX8_hears_106 : decode cX8_hears 106 = .ok (.ifCond .ne 7, 3) := by decide +kernel
theorem dX8_hears_109 : decode cX8_hears 109 = .ok (.iload_n 1, 1) := by decide +kernel
theorem dX8_hears_110 : decode cX8_hears 110 = .ok (.goto 9, 3) := by decide +kernel
theorem dX8_hears_113 : decode cX8_hears 113 = .ok (.aload_n 0, 1) := by decide +kernel
theorem dX8_hears_114 : decode cX8_hears 114 = .ok (.getfield 58, 3) := by decide +kernel
theorem dX8_hears_117 : decode cX8_hears 117 = .ok (.iload_n 2, 1) := by decide +kernel
theorem dX8_hears_118 : decode cX8_hears 118 = .ok (.iaload, 1) := by decide +kernel
theorem dX8_hears_119 : decode cX8_hears 119 = .ok (.iastore, 1) := by decide +kernel
theorem dX8_hears_120 : decode cX8_hears 120 = .ok (.aload_n 0, 1) := by decide +kernel
theorem dX8_hears_121 : decode cX8_hears 121 = .ok (.getfield 49, 3) := by decide +kernel
theorem dX8_hears_124 : decode cX8_hears 124 = .ok (.iload_n 2, 1) := by decide +kernel
theorem dX8_hears_125 : decode cX8_hears 125 = .ok (.iconst 0, 1) := by decide +kernel
theorem dX8_hears_126 : decode cX8_hears 126 = .ok (.iastore, 1) := by decide +kernel
theorem dX8_hears_127 : decode cX8_hears 127 = .ok (.iinc 2 1, 3) := by decide +kernel
theorem dX8_hears_130 : decode cX8_hears 130 = .ok (.goto (-79), 3) := by decide +kernel
theorem dX8_hears_133 : decode cX8_hears 133 = .ok (.aload_n 0, 1) := by decide +kernel
theorem dX8_hears_134 : decode cX8_hears 134 = .ok (.getfield 213, 3) := by decide +kernel
theorem dX8_hears_137 : decode cX8_hears 137 = .ok (.ldc 61, 2) := by decide +kernel
theorem dX8_hears_139 : decode cX8_hears 139 = .ok (.if_icmp .eq 38, 3) := by decide +kernel
theorem dX8_hears_142 : decode cX8_hears 142 = .ok (.iload_n 1, 1) := by decide +kernel
theorem dX8_hears_143 : decode cX8_hears 143 = .ok (.aload_n 0, 1) := by decide +kernel
theorem dX8_hears_144 : decode cX8_hears 144 = .ok (.getfield 213, 3) := by decide +kernel
theorem dX8_hears_147 : decode cX8_hears 147 = .ok (.isub, 1) := by decide +kernel
theorem dX8_hears_148 : decode cX8_hears 148 = .ok (.aload_n 0, 1) := by decide +kernel
theorem dX8_hears_149 : decode cX8_hears 149 = .ok (.getfield 19, 3) := by decide +kernel
theorem dX8_hears_152 : decode cX8_hears 152 = .ok (.iconst 5, 1) := by decide +kernel
theorem dX8_hears_153 : decode cX8_hears 153 = .ok (.iaload, 1) := by decide +kernel
theorem dX8_hears_154 : decode cX8_hears 154 = .ok (.aload_n 0, 1) := by decide +kernel
theorem dX8_hears_155 : decode cX8_hears 155 = .ok (.getfield 19, 3) := by decide +kernel
theorem dX8_hears_158 : decode cX8_hears 158 = .ok (.iconst 1, 1) := by decide +kernel
theorem dX8_hears_159 : decode cX8_hears 159 = .ok (.iaload, 1) := by decide +kernel
theorem dX8_hears_160 : decode cX8_hears 160 = .ok (.aload_n 0, 1) := by decide +kernel
theorem dX8_hears_161 : decode cX8_hears 161 = .ok (.getfield 19, 3) := by decide +kernel
theorem dX8_hears_164 : decode cX8_hears 164 = .ok (.iconst 2, 1) := by decide +kernel
theorem dX8_hears_165 : decode cX8_hears 165 = .ok (.iaload, 1) := by decide +kernel
theorem dX8_hears_166 : decode cX8_hears 166 = .ok (.invokestatic 197, 3) := by decide +kernel
theorem dX8_hears_169 : decode cX8_hears 169 = .ok (.iadd, 1) := by decide +kernel
theorem dX8_hears_170 : decode cX8_hears 170 = .ok (.if_icmp .ne 7, 3) := by decide +kernel
theorem dX8_hears_173 : decode cX8_hears 173 = .ok (.iconst 1, 1) := by decide +kernel
theorem dX8_hears_174 : decode cX8_hears 174 = .ok (.goto 4, 3) := by decide +kernel
theorem dX8_hears_177 : decode cX8_hears 177 = .ok (.iconst 0, 1) := by decide +kernel
theorem dX8_hears_178 : decode cX8_hears 178 = .ok (.istore_n 2, 1) := by decide +kernel
theorem dX8_hears_179 : decode cX8_hears 179 = .ok (.iconst 0, 1) := by decide +kernel
theorem dX8_hears_180 : decode cX8_hears 180 = .ok (.istore_n 3, 1) := by decide +kernel
theorem dX8_hears_181 : decode cX8_hears 181 = .ok (.iload_n 3, 1) := by decide +kernel
theorem dX8_hears_182 : decode cX8_hears 182 = .ok (.iconst 4, 1) := by decide +kernel
theorem dX8_hears_183 : decode cX8_hears 183 = .ok (.if_icmp .ge 46, 3) := by decide +kernel
theorem dX8_hears_186 : decode cX8_hears 186 = .ok (.iload_n 2, 1) := by decide +kernel
theorem dX8_hears_187 : decode cX8_hears 187 = .ok (.ifCond .ne 10, 3) := by decide +kernel
theorem dX8_hears_190 : decode cX8_hears 190 = .ok (.iload_n 1, 1) := by decide +kernel
theorem dX8_hears_191 : decode cX8_hears 191 = .ok (.sipush 150, 3) := by decide +kernel
theorem dX8_hears_194 : decode cX8_hears 194 = .ok (.if_icmp .ne 35, 3) := by decide +kernel
theorem dX8_hears_197 : decode cX8_hears 197 = .ok (.aload_n 0, 1) := by decide +kernel
theorem dX8_hears_198 : decode cX8_hears 198 = .ok (.getfield 46, 3) := by decide +kernel
theorem dX8_hears_201 : decode cX8_hears 201 = .ok (.iload_n 3, 1) := by decide +kernel
theorem dX8_hears_202 : decode cX8_hears 202 = .ok (.aload_n 0, 1) := by decide +kernel
theorem dX8_hears_203 : decode cX8_hears 203 = .ok (.getfield 46, 3) := by decide +kernel
theorem dX8_hears_206 : decode cX8_hears 206 = .ok (.iload_n 3, 1) := by decide +kernel
theorem dX8_hears_207 : decode cX8_hears 207 = .ok (.iaload, 1) := by decide +kernel
theorem dX8_hears_208 : decode cX8_hears 208 = .ok (.iconst 3, 1) := by decide +kernel
theorem dX8_hears_209 : decode cX8_hears 209 = .ok (.if_icmp .ge 7, 3) := by decide +kernel
theorem dX8_hears_212 : decode cX8_hears 212 = .ok (.iconst 4, 1) := by decide +kernel
theorem dX8_hears_213 : decode cX8_hears 213 = .ok (.goto 9, 3) := by decide +kernel
theorem dX8_hears_216 : decode cX8_hears 216 = .ok (.aload_n 0, 1) := by decide +kernel
theorem dX8_hears_217 : decode cX8_hears 217 = .ok (.getfield 46, 3) := by decide +kernel
theorem dX8_hears_220 : decode cX8_hears 220 = .ok (.iload_n 3, 1) := by decide +kernel
theorem dX8_hears_221 : decode cX8_hears 221 = .ok (.iaload, 1) := by decide +kernel
theorem dX8_hears_222 : decode cX8_hears 222 = .ok (.iastore, 1) := by decide +kernel
theorem dX8_hears_223 : decode cX8_hears 223 = .ok (.iinc 3 1, 3) := by decide +kernel
theorem dX8_hears_226 : decode cX8_hears 226 = .ok (.goto (-45), 3) := by decide +kernel
theorem dX8_hears_229 : decode cX8_hears 229 = .ok (.return_, 1) := by decide +kernel
theorem dX8_raidOf_0 : decode cX8_raidOf 0 = .ok (.aload_n 0, 1) := by decide +kernel
theorem dX8_raidOf_1 : decode cX8_raidOf 1 = .ok (.iconst 0, 1) := by decide +kernel
theorem dX8_raidOf_2 : decode cX8_raidOf 2 = .ok (.putfield 194, 3) := by decide +kernel
theorem dX8_raidOf_5 : decode cX8_raidOf 5 = .ok (.aload_n 0, 1) := by decide +kernel
theorem dX8_raidOf_6 : decode cX8_raidOf 6 = .ok (.ldc 61, 2) := by decide +kernel
theorem dX8_raidOf_8 : decode cX8_raidOf 8 = .ok (.putfield 213, 3) := by decide +kernel
theorem dX8_raidOf_11 : decode cX8_raidOf 11 = .ok (.aload_n 0, 1) := by decide +kernel
theorem dX8_raidOf_12 : decode cX8_raidOf 12 = .ok (.iconst 0, 1) := by decide +kernel
theorem dX8_raidOf_13 : decode cX8_raidOf 13 = .ok (.putfield 219, 3) := by decide +kernel
theorem dX8_raidOf_16 : decode cX8_raidOf 16 = .ok (.aload_n 0, 1) := by decide +kernel
theorem dX8_raidOf_17 : decode cX8_raidOf 17 = .ok (.aload_n 0, 1) := by decide +kernel
theorem dX8_raidOf_18 : decode cX8_raidOf 18 = .ok (.getfield 19, 3) := by decide +kernel
theorem dX8_raidOf_21 : decode cX8_raidOf 21 = .ok (.iconst 4, 1) := by decide +kernel
theorem dX8_raidOf_22 : decode cX8_raidOf 22 = .ok (.iaload, 1) := by decide +kernel
theorem dX8_raidOf_23 : decode cX8_raidOf 23 = .ok (.putfield 216, 3) := by decide +kernel
theorem dX8_raidOf_26 : decode cX8_raidOf 26 = .ok (.iconst 0, 1) := by decide +kernel
theorem dX8_raidOf_27 : decode cX8_raidOf 27 = .ok (.istore_n 2, 1) := by decide +kernel
theorem dX8_raidOf_28 : decode cX8_raidOf 28 = .ok (.iload_n 2, 1) := by decide +kernel
theorem dX8_raidOf_29 : decode cX8_raidOf 29 = .ok (.iconst 4, 1) := by decide +kernel
theorem dX8_raidOf_30 : decode cX8_raidOf 30 = .ok (.if_icmp .ge 95, 3) := by decide +kernel
theorem dX8_raidOf_33 : decode cX8_raidOf 33 = .ok (.iload_n 2, 1) := by decide +kernel
theorem dX8_raidOf_34 : decode cX8_raidOf 34 = .ok (.aload_n 0, 1) := by decide +kernel
theorem dX8_raidOf_35 : decode cX8_raidOf 35 = .ok (.getfield 19, 3) := by decide +kernel
theorem dX8_raidOf_38 : decode cX8_raidOf 38 = .ok (.bipush 8, 2) := by decide +kernel
theorem dX8_raidOf_40 : decode cX8_raidOf 40 = .ok (.iaload, 1) := by decide +kernel
theorem dX8_raidOf_41 : decode cX8_raidOf 41 = .ok (.if_icmp .ge 16, 3) := by decide +kernel
theorem dX8_raidOf_44 : decode cX8_raidOf 44 = .ok (.iload_n 1, 1) := by decide +kernel
theorem dX8_raidOf_45 : decode cX8_raidOf 45 = .ok (.iload_n 2, 1) := by decide +kernel
theorem dX8_raidOf_46 : decode cX8_raidOf 46 = .ok (.ishr, 1) := by decide +kernel
theorem dX8_raidOf_47 : decode cX8_raidOf 47 = .ok (.iconst 1, 1) := by decide +kernel
theorem dX8_raidOf_48 : decode cX8_raidOf 48 = .ok (.iand, 1) := by decide +kernel
theorem dX8_raidOf_49 : decode cX8_raidOf 49 = .ok (.iconst 1, 1) := by decide +kernel
theorem dX8_raidOf_50 : decode cX8_raidOf 50 = .ok (.if_icmp .ne 7, 3) := by decide +kernel
theorem dX8_raidOf_53 : decode cX8_raidOf 53 = .ok (.iconst 1, 1) := by decide +kernel
theorem dX8_raidOf_54 : decode cX8_raidOf 54 = .ok (.goto 4, 3) := by decide +kernel
theorem dX8_raidOf_57 : decode cX8_raidOf 57 = .ok (.iconst 0, 1) := by decide +kernel
theorem dX8_raidOf_58 : decode cX8_raidOf 58 = .ok (.istore_n 3, 1) := by decide +kernel
theorem dX8_raidOf_59 : decode cX8_raidOf 59 = .ok (.aload_n 0, 1) := by decide +kernel
theorem dX8_raidOf_60 : decode cX8_raidOf 60 = .ok (.getfield 46, 3) := by decide +kernel
theorem dX8_raidOf_63 : decode cX8_raidOf 63 = .ok (.iload_n 2, 1) := by decide +kernel
theorem dX8_raidOf_64 : decode cX8_raidOf 64 = .ok (.iload_n 3, 1) := by decide +kernel
theorem dX8_raidOf_65 : decode cX8_raidOf 65 = .ok (.ifCond .eq 16, 3) := by decide +kernel
theorem dX8_raidOf_68 : decode cX8_raidOf 68 = .ok (.aload_n 0, 1) := by decide +kernel
theorem dX8_raidOf_69 : decode cX8_raidOf 69 = .ok (.getfield 31, 3) := by decide +kernel
theorem dX8_raidOf_72 : decode cX8_raidOf 72 = .ok (.iload_n 2, 1) := by decide +kernel
theorem dX8_raidOf_73 : decode cX8_raidOf 73 = .ok (.iaload, 1) := by decide +kernel
theorem dX8_raidOf_74 : decode cX8_raidOf 74 = .ok (.ifCond .lt 7, 3) := by decide +kernel
theorem dX8_raidOf_77 : decode cX8_raidOf 77 = .ok (.iconst 0, 1) := by decide +kernel
theorem dX8_raidOf_78 : decode cX8_raidOf 78 = .ok (.goto 4, 3) := by decide +kernel
theorem dX8_raidOf_81 : decode cX8_raidOf 81 = .ok (.iconst 5, 1) := by decide +kernel
theorem dX8_raidOf_82 : decode cX8_raidOf 82 = .ok (.iastore, 1) := by decide +kernel
theorem dX8_raidOf_83 : decode cX8_raidOf 83 = .ok (.aload_n 0, 1) := by decide +kernel
theorem dX8_raidOf_84 : decode cX8_raidOf 84 = .ok (.getfield 43, 3) := by decide +kernel
theorem dX8_raidOf_87 : decode cX8_raidOf 87 = .ok (.iload_n 2, 1) := by decide +kernel
theorem dX8_raidOf_88 : decode cX8_raidOf 88 = .ok (.iconst 0, 1) := by decide +kernel
theorem dX8_raidOf_89 : decode cX8_raidOf 89 = .ok (.iastore, 1) := by decide +kernel
theorem dX8_raidOf_90 : decode cX8_raidOf 90 = .ok (.aload_n 0, 1) := by decide +kernel
theorem dX8_raidOf_91 : decode cX8_raidOf 91 = .ok (.getfield 49, 3) := by decide +kernel
theorem dX8_raidOf_94 : decode cX8_raidOf 94 = .ok (.iload_n 2, 1) := by decide +kernel
theorem dX8_raidOf_95 : decode cX8_raidOf 95 = .ok (.iconst 0, 1) := by decide +kernel
theorem dX8_raidOf_96 : decode cX8_raidOf 96 = .ok (.iastore, 1) := by decide +kernel
theorem dX8_raidOf_97 : decode cX8_raidOf 97 = .ok (.aload_n 0, 1) := by decide +kernel
theorem dX8_raidOf_98 : decode cX8_raidOf 98 = .ok (.getfield 52, 3) := by decide +kernel
theorem dX8_raidOf_101 : decode cX8_raidOf 101 = .ok (.iload_n 2, 1) := by decide +kernel
theorem dX8_raidOf_102 : decode cX8_raidOf 102 = .ok (.iconst 0, 1) := by decide +kernel
theorem dX8_raidOf_103 : decode cX8_raidOf 103 = .ok (.iastore, 1) := by decide +kernel
theorem dX8_raidOf_104 : decode cX8_raidOf 104 = .ok (.aload_n 0, 1) := by decide +kernel
theorem dX8_raidOf_105 : decode cX8_raidOf 105 = .ok (.getfield 55, 3) := by decide +kernel
theorem dX8_raidOf_108 : decode cX8_raidOf 108 = .ok (.iload_n 2, 1) := by decide +kernel
theorem dX8_raidOf_109 : decode cX8_raidOf 109 = .ok (.iconst 0, 1) := by decide +kernel
theorem dX8_raidOf_110 : decode cX8_raidOf 110 = .ok (.iastore, 1) := by decide +kernel
theorem dX8_raidOf_111 : decode cX8_raidOf 111 = .ok (.aload_n 0, 1) := by decide +kernel
theorem dX8_raidOf_112 : decode cX8_raidOf 112 = .ok (.getfield 58, 3) := by decide +kernel
theorem dX8_raidOf_115 : decode cX8_raidOf 115 = .ok (.iload_n 2, 1) := by decide +kernel
theorem dX8_raidOf_116 : decode cX8_raidOf 116 = .ok (.ldc 61, 2) := by decide +kernel
theorem dX8_raidOf_118 : decode cX8_raidOf 118 = .ok (.iastore, 1) := by decide +kernel
theorem dX8_raidOf_119 : decode cX8_raidOf 119 = .ok (.iinc 2 1, 3) := by decide +kernel
theorem dX8_raidOf_122 : decode cX8_raidOf 122 = .ok (.goto (-94), 3) := by decide +kernel
theorem dX8_raidOf_125 : decode cX8_raidOf 125 = .ok (.iconst 0, 1) := by decide +kernel
theorem dX8_raidOf_126 : decode cX8_raidOf 126 = .ok (.istore_n 2, 1) := by decide +kernel
theorem dX8_raidOf_127 : decode cX8_raidOf 127 = .ok (.iload_n 2, 1) := by decide +kernel
theorem dX8_raidOf_128 : decode cX8_raidOf 128 = .ok (.aload_n 0, 1) := by decide +kernel
theorem dX8_raidOf_129 : decode cX8_raidOf 129 = .ok (.getfield 19, 3) := by decide +kernel
theorem dX8_raidOf_132 : decode cX8_raidOf 132 = .ok (.bipush 8, 2) := by decide +kernel
theorem dX8_raidOf_134 : decode cX8_raidOf 134 = .ok (.iaload, 1) := by decide +kernel
theorem dX8_raidOf_135 : decode cX8_raidOf 135 = .ok (.if_icmp .ge 57, 3) := by decide +kernel
theorem dX8_raidOf_138 : decode cX8_raidOf 138 = .ok (.iload_n 1, 1) := by decide +kernel
theorem dX8_raidOf_139 : decode cX8_raidOf 139 = .ok (.iload_n 2, 1) := by decide +kernel
theorem dX8_raidOf_140 : decode cX8_raidOf 140 = .ok (.ishr, 1) := by decide +kernel
theorem dX8_raidOf_141 : decode cX8_raidOf 141 = .ok (.iconst 1, 1) := by decide +kernel
theorem dX8_raidOf_142 : decode cX8_raidOf 142 = .ok (.iand, 1) := by decide +kernel
theorem dX8_raidOf_143 : decode cX8_raidOf 143 = .ok (.iconst 1, 1) := by decide +kernel
theorem dX8_raidOf_144 : decode cX8_raidOf 144 = .ok (.if_icmp .ne 7, 3) := by decide +kernel
theorem dX8_raidOf_147 : decode cX8_raidOf 147 = .ok (.iconst 1, 1) := by decide +kernel
theorem dX8_raidOf_148 : decode cX8_raidOf 148 = .ok (.goto 4, 3) := by decide +kernel
theorem dX8_raidOf_151 : decode cX8_raidOf 151 = .ok (.iconst 0, 1) := by decide +kernel
theorem dX8_raidOf_152 : decode cX8_raidOf 152 = .ok (.istore_n 3, 1) := by decide +kernel
theorem dX8_raidOf_153 : decode cX8_raidOf 153 = .ok (.aload_n 0, 1) := by decide +kernel
theorem dX8_raidOf_154 : decode cX8_raidOf 154 = .ok (.iload_n 3, 1) := by decide +kernel
theorem dX8_raidOf_155 : decode cX8_raidOf 155 = .ok (.ifCond .eq 24, 3) := by decide +kernel
theorem dX8_raidOf_158 : decode cX8_raidOf 158 = .ok (.aload_n 0, 1) := by decide +kernel
theorem dX8_raidOf_159 : decode cX8_raidOf 159 = .ok (.iload_n 2, 1) := by decide +kernel
theorem dX8_raidOf_160 : decode cX8_raidOf 160 = .ok (.invokevirtual 222, 3) := by decide +kernel
theorem dX8_raidOf_163 : decode cX8_raidOf 163 = .ok (.iconst 5, 1) := by decide +kernel
theorem dX8_raidOf_164 : decode cX8_raidOf 164 = .ok (.if_icmp .ne 15, 3) := by decide +kernel
theorem dX8_raidOf_167 : decode cX8_raidOf 167 = .ok (.aload_n 0, 1) := by decide +kernel
theorem dX8_raidOf_168 : decode cX8_raidOf 168 = .ok (.getfield 216, 3) := by decide +kernel
theorem dX8_raidOf_171 : decode cX8_raidOf 171 = .ok (.iconst 2, 1) := by decide +kernel
theorem dX8_raidOf_172 : decode cX8_raidOf 172 = .ok (.if_icmp .le 7, 3) := by decide +kernel
theorem dX8_raidOf_175 : decode cX8_raidOf 175 = .ok (.iconst 2, 1) := by decide +kernel
theorem dX8_raidOf_176 : decode cX8_raidOf 176 = .ok (.goto 7, 3) := by decide +kernel
theorem dX8_raidOf_179 : decode cX8_raidOf 179 = .ok (.aload_n 0, 1) := by decide +kernel
theorem dX8_raidOf_180 : decode cX8_raidOf 180 = .ok (.getfield 216, 3) := by decide +kernel
theorem dX8_raidOf_183 : decode cX8_raidOf 183 = .ok (.putfield 216, 3) := by decide +kernel
theorem dX8_raidOf_186 : decode cX8_raidOf 186 = .ok (.iinc 2 1, 3) := by decide +kernel
theorem dX8_raidOf_189 : decode cX8_raidOf 189 = .ok (.goto (-62), 3) := by decide +kernel
theorem dX8_raidOf_192 : decode cX8_raidOf 192 = .ok (.iconst 0, 1) := by decide +kernel
theorem dX8_raidOf_193 : decode cX8_raidOf 193 = .ok (.istore_n 2, 1) := by decide +kernel
theorem dX8_raidOf_194 : decode cX8_raidOf 194 = .ok (.iload_n 2, 1) := by decide +kernel
theorem dX8_raidOf_195 : decode cX8_raidOf 195 = .ok (.aload_n 0, 1) := by decide +kernel
theorem dX8_raidOf_196 : decode cX8_raidOf 196 = .ok (.getfield 19, 3) := by decide +kernel
theorem dX8_raidOf_199 : decode cX8_raidOf 199 = .ok (.bipush 8, 2) := by decide +kernel
theorem dX8_raidOf_201 : decode cX8_raidOf 201 = .ok (.iaload, 1) := by decide +kernel
theorem dX8_raidOf_202 : decode cX8_raidOf 202 = .ok (.if_icmp .ge 39, 3) := by decide +kernel
theorem dX8_raidOf_205 : decode cX8_raidOf 205 = .ok (.aload_n 0, 1) := by decide +kernel
theorem dX8_raidOf_206 : decode cX8_raidOf 206 = .ok (.iload_n 1, 1) := by decide +kernel
theorem dX8_raidOf_207 : decode cX8_raidOf 207 = .ok (.iload_n 2, 1) := by decide +kernel
theorem dX8_raidOf_208 : decode cX8_raidOf 208 = .ok (.ishr, 1) := by decide +kernel
theorem dX8_raidOf_209 : decode cX8_raidOf 209 = .ok (.iconst 1, 1) := by decide +kernel
theorem dX8_raidOf_210 : decode cX8_raidOf 210 = .ok (.iand, 1) := by decide +kernel
theorem dX8_raidOf_211 : decode cX8_raidOf 211 = .ok (.iconst 1, 1) := by decide +kernel
theorem dX8_raidOf_212 : decode cX8_raidOf 212 = .ok (.if_icmp .ne 16, 3) := by decide +kernel
theorem dX8_raidOf_215 : decode cX8_raidOf 215 = .ok (.aload_n 0, 1) := by decide +kernel
theorem dX8_raidOf_216 : decode cX8_raidOf 216 = .ok (.iload_n 2, 1) := by decide +kernel
theorem dX8_raidOf_217 : decode cX8_raidOf 217 = .ok (.invokevirtual 222, 3) := by decide +kernel
theorem dX8_raidOf_220 : decode cX8_raidOf 220 = .ok (.iconst 4, 1) := by decide +kernel
theorem dX8_raidOf_221 : decode cX8_raidOf 221 = .ok (.if_icmp .ne 7, 3) := by decide +kernel
theorem dX8_raidOf_224 : decode cX8_raidOf 224 = .ok (.iconst 0, 1) := by decide +kernel
theorem dX8_raidOf_225 : decode cX8_raidOf 225 = .ok (.goto 7, 3) := by decide +kernel
theorem dX8_raidOf_228 : decode cX8_raidOf 228 = .ok (.aload_n 0, 1) := by decide +kernel
theorem dX8_raidOf_229 : decode cX8_raidOf 229 = .ok (.getfield 216, 3) := by decide +kernel
theorem dX8_raidOf_232 : decode cX8_raidOf 232 = .ok (.putfield 216, 3) := by decide +kernel
theorem dX8_raidOf_235 : decode cX8_raidOf 235 = .ok (.iinc 2 1, 3) := by decide +kernel
theorem dX8_raidOf_238 : decode cX8_raidOf 238 = .ok (.goto (-44), 3) := by decide +kernel
theorem dX8_raidOf_241 : decode cX8_raidOf 241 = .ok (.aload_n 0, 1) := by decide +kernel
theorem dX8_raidOf_242 : decode cX8_raidOf 242 = .ok (.invokevirtual 225, 3) := by decide +kernel
theorem dX8_raidOf_245 : decode cX8_raidOf 245 = .ok (.ifCond .ne 83, 3) := by decide +kernel
theorem dX8_raidOf_248 : decode cX8_raidOf 248 = .ok (.aload_n 0, 1) := by decide +kernel
theorem dX8_raidOf_249 : decode cX8_raidOf 249 = .ok (.dup, 1) := by decide +kernel
theorem dX8_raidOf_250 : decode cX8_raidOf 250 = .ok (.getfield 219, 3) := by decide +kernel
theorem dX8_raidOf_253 : decode cX8_raidOf 253 = .ok (.iconst 1, 1) := by decide +kernel
theorem dX8_raidOf_254 : decode cX8_raidOf 254 = .ok (.iadd, 1) := by decide +kernel
theorem dX8_raidOf_255 : decode cX8_raidOf 255 = .ok (.putfield 219, 3) := by decide +kernel
theorem dX8_raidOf_258 : decode cX8_raidOf 258 = .ok (.iconst 0, 1) := by decide +kernel
theorem dX8_raidOf_259 : decode cX8_raidOf 259 = .ok (.istore_n 2, 1) := by decide +kernel
theorem dX8_raidOf_260 : decode cX8_raidOf 260 = .ok (.iload_n 2, 1) := by decide +kernel
theorem dX8_raidOf_261 : decode cX8_raidOf 261 = .ok (.iconst 4, 1) := by decide +kernel
theorem dX8_raidOf_262 : decode cX8_raidOf 262 = .ok (.if_icmp .ge 55, 3) := by decide +kernel
theorem dX8_raidOf_265 : decode cX8_raidOf 265 = .ok (.aload_n 0, 1) := by decide +kernel
theorem dX8_raidOf_266 : decode cX8_raidOf 266 = .ok (.getfield 46, 3) := by decide +kernel
theorem dX8_raidOf_269 : decode cX8_raidOf 269 = .ok (.iload_n 2, 1) := by decide +kernel
theorem dX8_raidOf_270 : decode cX8_raidOf 270 = .ok (.iaload, 1) := by decide +kernel
theorem dX8_raidOf_271 : decode cX8_raidOf 271 = .ok (.iconst 1, 1) := by decide +kernel
theorem dX8_raidOf_272 : decode cX8_raidOf 272 = .ok (.if_icmp .ne 11, 3) := by decide +kernel
theorem dX8_raidOf_275 : decode cX8_raidOf 275 = .ok (.aload_n 0, 1) := by decide +kernel
theorem dX8_raidOf_276 : decode cX8_raidOf 276 = .ok (.iload_n 2, 1) := by decide +kernel
theorem dX8_raidOf_277 : decode cX8_raidOf 277 = .ok (.invokevirtual 228, 3) := by decide +kernel
theorem dX8_raidOf_280 : decode cX8_raidOf 280 = .ok (.goto 31, 3) := by decide +kernel
theorem dX8_raidOf_283 : decode cX8_raidOf 283 = .ok (.aload_n 0, 1) := by decide +kernel
theorem dX8_raidOf_284 : decode cX8_raidOf 284 = .ok (.getfield 46, 3) := by decide +kernel
theorem dX8_raidOf_287 : decode cX8_raidOf 287 = .ok (.iload_n 2, 1) := by decide +kernel
theorem dX8_raidOf_288 : decode cX8_raidOf 288 = .ok (.iaload, 1) := by decide +kernel
theorem dX8_raidOf_289 : decode cX8_raidOf 289 = .ok (.ifCond .eq 13, 3) := by decide +kernel
theorem dX8_raidOf_292 : decode cX8_raidOf 292 = .ok (.aload_n 0, 1) := by decide +kernel
theorem dX8_raidOf_293 : decode cX8_raidOf 293 = .ok (.getfield 46, 3) := by decide +kernel
theorem dX8_raidOf_296 : decode cX8_raidOf 296 = .ok (.iload_n 2, 1) := by decide +kernel
theorem dX8_raidOf_297 : decode cX8_raidOf 297 = .ok (.iaload, 1) := by decide +kernel
theorem dX8_raidOf_298 : decode cX8_raidOf 298 = .ok (.iconst 2, 1) := by decide +kernel
theorem dX8_raidOf_299 : decode cX8_raidOf 299 = .ok (.if_icmp .ne 12, 3) := by decide +kernel
theorem dX8_raidOf_302 : decode cX8_raidOf 302 = .ok (.aload_n 0, 1) := by decide +kernel
theorem dX8_raidOf_303 : decode cX8_raidOf 303 = .ok (.iload_n 2, 1) := by decide +kernel
theorem dX8_raidOf_304 : decode cX8_raidOf 304 = .ok (.aload_n 0, 1) := by decide +kernel
theorem dX8_raidOf_305 : decode cX8_raidOf 305 = .ok (.getfield 219, 3) := by decide +kernel
theorem dX8_raidOf_308 : decode cX8_raidOf 308 = .ok (.invokevirtual 231, 3) := by decide +kernel
theorem dX8_raidOf_311 : decode cX8_raidOf 311 = .ok (.iinc 2 1, 3) := by decide +kernel
theorem dX8_raidOf_314 : decode cX8_raidOf 314 = .ok (.goto (-54), 3) := by decide +kernel
theorem dX8_raidOf_317 : decode cX8_raidOf 317 = .ok (.aload_n 0, 1) := by decide +kernel
theorem dX8_raidOf_318 : decode cX8_raidOf 318 = .ok (.aload_n 0, 1) := by decide +kernel
theorem dX8_raidOf_319 : decode cX8_raidOf 319 = .ok (.getfield 219, 3) := by decide +kernel
theorem dX8_raidOf_322 : decode cX8_raidOf 322 = .ok (.invokevirtual 234, 3) := by decide +kernel
theorem dX8_raidOf_325 : decode cX8_raidOf 325 = .ok (.goto (-84), 3) := by decide +kernel
theorem dX8_raidOf_328 : decode cX8_raidOf 328 = .ok (.iconst 0, 1) := by decide +kernel
theorem dX8_raidOf_329 : decode cX8_raidOf 329 = .ok (.istore_n 2, 1) := by decide +kernel
theorem dX8_raidOf_330 : decode cX8_raidOf 330 = .ok (.iconst 0, 1) := by decide +kernel
theorem dX8_raidOf_331 : decode cX8_raidOf 331 = .ok (.istore_n 3, 1) := by decide +kernel
theorem dX8_raidOf_332 : decode cX8_raidOf 332 = .ok (.iload_n 3, 1) := by decide +kernel
theorem dX8_raidOf_333 : decode cX8_raidOf 333 = .ok (.iconst 4, 1) := by decide +kernel
theorem dX8_raidOf_334 : decode cX8_raidOf 334 = .ok (.if_icmp .ge 50, 3) := by decide +kernel
theorem dX8_raidOf_337 : decode cX8_raidOf 337 = .ok (.iload_n 2, 1) := by decide +kernel
theorem dX8_raidOf_338 : decode cX8_raidOf 338 = .ok (.aload_n 0, 1) := by decide +kernel
theorem dX8_raidOf_339 : decode cX8_raidOf 339 = .ok (.getfield 46, 3) := by decide +kernel
theorem dX8_raidOf_342 : decode cX8_raidOf 342 = .ok (.iload_n 3, 1) := by decide +kernel
theorem dX8_raidOf_343 : decode cX8_raidOf 343 = .ok (.iaload, 1) := by decide +kernel
theorem dX8_raidOf_344 : decode cX8_raidOf 344 = .ok (.iconst 5, 1) := by decide +kernel
theorem dX8_raidOf_345 : decode cX8_raidOf 345 = .ok (.if_icmp .ne 7, 3) := by decide +kernel
theorem dX8_raidOf_348 : decode cX8_raidOf 348 = .ok (.iconst 0, 1) := by decide +kernel
theorem dX8_raidOf_349 : decode cX8_raidOf 349 = .ok (.goto 27, 3) := by decide +kernel
theorem dX8_raidOf_352 : decode cX8_raidOf 352 = .ok (.aload_n 0, 1) := by decide +kernel
theorem dX8_raidOf_353 : decode cX8_raidOf 353 = .ok (.iload_n 3, 1) := by decide +kernel
theorem dX8_raidOf_354 : decode cX8_raidOf 354 = .ok (.invokevirtual 237, 3) := by decide +kernel
theorem dX8_raidOf_357 : decode cX8_raidOf 357 = .ok (.aload_n 0, 1) := by decide +kernel
theorem dX8_raidOf_358 : decode cX8_raidOf 358 = .ok (.getfield 19, 3) := by decide +kernel
theorem dX8_raidOf_361 : decode cX8_raidOf 361 = .ok (.bipush 17, 2) := by decide +kernel
theorem dX8_raidOf_363 : decode cX8_raidOf 363 = .ok (.iconst 3, 1) := by decide +kernel
theorem dX8_raidOf_364 : decode cX8_raidOf 364 = .ok (.aload_n 0, 1) := by decide +kernel
theorem dX8_raidOf_365 : decode cX8_raidOf 365 = .ok (.getfield 31, 3) := by decide +kernel
theorem dX8_raidOf_368 : decode cX8_raidOf 368 = .ok (.iload_n 3, 1) := by decide +kernel
theorem dX8_raidOf_369 : decode cX8_raidOf 369 = .ok (.iaload, 1) := by decide +kernel
theorem dX8_raidOf_370 : decode cX8_raidOf 370 = .ok (.imul, 1) := by decide +kernel
theorem dX8_raidOf_371 : decode cX8_raidOf 371 = .ok (.iadd, 1) := by decide +kernel
theorem dX8_raidOf_372 : decode cX8_raidOf 372 = .ok (.iconst 2, 1) := by decide +kernel
theorem dX8_raidOf_373 : decode cX8_raidOf 373 = .ok (.iadd, 1) := by decide +kernel
theorem dX8_raidOf_374 : decode cX8_raidOf 374 = .ok (.iaload, 1) := by decide +kernel
theorem dX8_raidOf_375 : decode cX8_raidOf 375 = .ok (.imul, 1) := by decide +kernel
theorem dX8_raidOf_376 : decode cX8_raidOf 376 = .ok (.iadd, 1) := by decide +kernel
theorem dX8_raidOf_377 : decode cX8_raidOf 377 = .ok (.istore_n 2, 1) := by decide +kernel
theorem dX8_raidOf_378 : decode cX8_raidOf 378 = .ok (.iinc 3 1, 3) := by decide +kernel
theorem dX8_raidOf_381 : decode cX8_raidOf 381 = .ok (.goto (-49), 3) := by decide +kernel
theorem dX8_raidOf_384 : decode cX8_raidOf 384 = .ok (.iload_n 2, 1) := by decide +kernel
theorem dX8_raidOf_385 : decode cX8_raidOf 385 = .ok (.ireturn, 1) := by decide +kernel
theorem dX8_kindNow_0 : decode cX8_kindNow 0 = .ok (.iload_n 1, 1) := by decide +kernel
theorem dX8_kindNow_1 : decode cX8_kindNow 1 = .ok (.aload_n 0, 1) := by decide +kernel
theorem dX8_kindNow_2 : decode cX8_kindNow 2 = .ok (.getfield 62, 3) := by decide +kernel
theorem dX8_kindNow_5 : decode cX8_kindNow 5 = .ok (.if_icmp .ne 7, 3) := by decide +kernel
theorem dX8_kindNow_8 : decode cX8_kindNow 8 = .ok (.iconst 4, 1) := by decide +kernel
theorem dX8_kindNow_9 : decode cX8_kindNow 9 = .ok (.goto 9, 3) := by decide +kernel
theorem dX8_kindNow_12 : decode cX8_kindNow 12 = .ok (.aload_n 0, 1) := by decide +kernel
theorem dX8_kindNow_13 : decode cX8_kindNow 13 = .ok (.iload_n 1, 1) := by decide +kernel
theorem dX8_kindNow_14 : decode cX8_kindNow 14 = .ok (.iconst 0, 1) := by decide +kernel
theorem dX8_kindNow_15 : decode cX8_kindNow 15 = .ok (.invokevirtual 188, 3) := by decide +kernel
theorem dX8_kindNow_18 : decode cX8_kindNow 18 = .ok (.ireturn, 1) := by decide +kernel
theorem dX8_gotOf_0 : decode cX8_gotOf 0 = .ok (.aload_n 0, 1) := by decide +kernel
theorem dX8_gotOf_1 : decode cX8_gotOf 1 = .ok (.getfield 46, 3) := by decide +kernel
theorem dX8_gotOf_4 : decode cX8_gotOf 4 = .ok (.iload_n 1, 1) := by decide +kernel
theorem dX8_gotOf_5 : decode cX8_gotOf 5 = .ok (.iaload, 1) := by decide +kernel
theorem dX8_gotOf_6 : decode cX8_gotOf 6 = .ok (.iconst 5, 1) := by decide +kernel
theorem dX8_gotOf_7 : decode cX8_gotOf 7 = .ok (.if_icmp .ne 7, 3) := by decide +kernel
theorem dX8_gotOf_10 : decode cX8_gotOf 10 = .ok (.iconst 0, 1) := by decide +kernel
theorem dX8_gotOf_11 : decode cX8_gotOf 11 = .ok (.goto 30, 3) := by decide +kernel
theorem dX8_gotOf_14 : decode cX8_gotOf 14 = .ok (.aload_n 0, 1) := by decide +kernel
theorem dX8_gotOf_15 : decode cX8_gotOf 15 = .ok (.getfield 55, 3) := by decide +kernel
theorem dX8_gotOf_18 : decode cX8_gotOf 18 = .ok (.iload_n 1, 1) := by decide +kernel
theorem dX8_gotOf_19 : decode cX8_gotOf 19 = .ok (.iaload, 1) := by decide +kernel
theorem dX8_gotOf_20 : decode cX8_gotOf 20 = .ok (.aload_n 0, 1) := by decide +kernel
theorem dX8_gotOf_21 : decode cX8_gotOf 21 = .ok (.getfield 46, 3) := by decide +kernel
theorem dX8_gotOf_24 : decode cX8_gotOf 24 = .ok (.iload_n 1, 1) := by decide +kernel
theorem dX8_gotOf_25 : decode cX8_gotOf 25 = .ok (.iaload, 1) := by decide +kernel
theorem dX8_gotOf_26 : decode cX8_gotOf 26 = .ok (.iconst 3, 1) := by decide +kernel
theorem dX8_gotOf_27 : decode cX8_gotOf 27 = .ok (.if_icmp .ne 12, 3) := by decide +kernel
theorem dX8_gotOf_30 : decode cX8_gotOf 30 = .ok (.aload_n 0, 1) := by decide +kernel
theorem dX8_gotOf_31 : decode cX8_gotOf 31 = .ok (.getfield 52, 3) := by decide +kernel
theorem dX8_gotOf_34 : decode cX8_gotOf 34 = .ok (.iload_n 1, 1) := by decide +kernel
theorem dX8_gotOf_35 : decode cX8_gotOf 35 = .ok (.iaload, 1) := by decide +kernel
theorem dX8_gotOf_36 : decode cX8_gotOf 36 = .ok (.goto 4, 3) := by decide +kernel
theorem dX8_gotOf_39 : decode cX8_gotOf 39 = .ok (.iconst 0, 1) := by decide +kernel
theorem dX8_gotOf_40 : decode cX8_gotOf 40 = .ok (.iadd, 1) := by decide +kernel
theorem dX8_gotOf_41 : decode cX8_gotOf 41 = .ok (.ireturn, 1) := by decide +kernel
theorem dX8_everybody_0 : decode cX8_everybody 0 = .ok (.iconst 1, 1) := by decide +kernel
theorem dX8_everybody_1 : decode cX8_everybody 1 = .ok (.aload_n 0, 1) := by decide +kernel
theorem dX8_everybody_2 : decode cX8_everybody 2 = .ok (.getfield 19, 3) := by decide +kernel
theorem dX8_everybody_5 : decode cX8_everybody 5 = .ok (.bipush 8, 2) := by decide +kernel
theorem dX8_everybody_7 : decode cX8_everybody 7 = .ok (.iaload, 1) := by decide +kernel
theorem dX8_everybody_8 : decode cX8_everybody 8 = .ok (.ishl, 1) := by decide +kernel
theorem dX8_everybody_9 : decode cX8_everybody 9 = .ok (.iconst 1, 1) := by decide +kernel
theorem dX8_everybody_10 : decode cX8_everybody 10 = .ok (.isub, 1) := by decide +kernel
theorem dX8_everybody_11 : decode cX8_everybody 11 = .ok (.ireturn, 1) := by decide +kernel
theorem dX8_raidNow_0 : decode cX8_raidNow 0 = .ok (.aload_n 0, 1) := by decide +kernel
theorem dX8_raidNow_1 : decode cX8_raidNow 1 = .ok (.invokevirtual 240, 3) := by decide +kernel
theorem dX8_raidNow_4 : decode cX8_raidNow 4 = .ok (.aload_n 0, 1) := by decide +kernel
theorem dX8_raidNow_5 : decode cX8_raidNow 5 = .ok (.aload_n 0, 1) := by decide +kernel
theorem dX8_raidNow_6 : decode cX8_raidNow 6 = .ok (.invokevirtual 243, 3) := by decide +kernel
theorem dX8_raidNow_9 : decode cX8_raidNow 9 = .ok (.invokevirtual 247, 3) := by decide +kernel
theorem dX8_raidNow_12 : decode cX8_raidNow 12 = .ok (.ireturn, 1) := by decide +kernel
theorem dX8_withPlans_0 : decode cX8_withPlans 0 = .ok (.iconst 0, 1) := by decide +kernel
theorem dX8_withPlans_1 : decode cX8_withPlans 1 = .ok (.istore_n 1, 1) := by decide +kernel
theorem dX8_withPlans_2 : decode cX8_withPlans 2 = .ok (.iconst 0, 1) := by decide +kernel
theorem dX8_withPlans_3 : decode cX8_withPlans 3 = .ok (.istore_n 2, 1) := by decide +kernel
theorem dX8_withPlans_4 : decode cX8_withPlans 4 = .ok (.iload_n 2, 1) := by decide +kernel
theorem dX8_withPlans_5 : decode cX8_withPlans 5 = .ok (.aload_n 0, 1) := by decide +kernel
theorem dX8_withPlans_6 : decode cX8_withPlans 6 = .ok (.getfield 19, 3) := by decide +kernel
theorem dX8_withPlans_9 : decode cX8_withPlans 9 = .ok (.bipush 8, 2) := by decide +kernel
theorem dX8_withPlans_11 : decode cX8_withPlans 11 = .ok (.iaload, 1) := by decide +kernel
theorem dX8_withPlans_12 : decode cX8_withPlans 12 = .ok (.if_icmp .ge 28, 3) := by decide +kernel
theorem dX8_withPlans_15 : decode cX8_withPlans 15 = .ok (.iload_n 1, 1) := by decide +kernel
theorem dX8_withPlans_16 : decode cX8_withPlans 16 = .ok (.aload_n 0, 1) := by decide +kernel
theorem dX8_withPlans_17 : decode cX8_withPlans 17 = .ok (.iload_n 2, 1) := by decide +kernel
theorem dX8_withPlans_18 : decode cX8_withPlans 18 = .ok (.iconst 2, 1) := by decide +kernel
theorem dX8_withPlans_19 : decode cX8_withPlans 19 = .ok (.invokevirtual 188, 3) := by decide +kernel
theorem dX8_withPlans_22 : decode cX8_withPlans 22 = .ok (.ifCond .lt 9, 3) := by decide +kernel
theorem dX8_withPlans_25 : decode cX8_withPlans 25 = .ok (.iconst 1, 1) := by decide +kernel
theorem dX8_withPlans_26 : decode cX8_withPlans 26 = .ok (.iload_n 2, 1) := by decide +kernel
theorem dX8_withPlans_27 : decode cX8_withPlans 27 = .ok (.ishl, 1) := by decide +kernel
theorem dX8_withPlans_28 : decode cX8_withPlans 28 = .ok (.goto 4, 3) := by decide +kernel
theorem dX8_withPlans_31 : decode cX8_withPlans 31 = .ok (.iconst 0, 1) := by decide +kernel
theorem dX8_withPlans_32 : decode cX8_withPlans 32 = .ok (.ior, 1) := by decide +kernel
theorem dX8_withPlans_33 : decode cX8_withPlans 33 = .ok (.istore_n 1, 1) := by decide +kernel
theorem dX8_withPlans_34 : decode cX8_withPlans 34 = .ok (.iinc 2 1, 3) := by decide +kernel
theorem dX8_withPlans_37 : decode cX8_withPlans 37 = .ok (.goto (-33), 3) := by decide +kernel
theorem dX8_withPlans_40 : decode cX8_withPlans 40 = .ok (.iload_n 1, 1) := by decide +kernel
theorem dX8_withPlans_41 : decode cX8_withPlans 41 = .ok (.ireturn, 1) := by decide +kernel
theorem dX8_keep_0 : decode cX8_keep 0 = .ok (.aload_n 0, 1) := by decide +kernel
theorem dX8_keep_1 : decode cX8_keep 1 = .ok (.getfield 183, 3) := by decide +kernel
theorem dX8_keep_4 : decode cX8_keep 4 = .ok (.bipush 24, 2) := by decide +kernel
theorem dX8_keep_6 : decode cX8_keep 6 = .ok (.if_icmp .ne 43, 3) := by decide +kernel
theorem dX8_keep_9 : decode cX8_keep 9 = .ok (.iconst 0, 1) := by decide +kernel
theorem dX8_keep_10 : decode cX8_keep 10 = .ok (.istore_n 1, 1) := by decide +kernel
theorem dX8_keep_11 : decode cX8_keep 11 = .ok (.iload_n 1, 1) := by decide +kernel
theorem dX8_keep_12 : decode cX8_keep 12 = .ok (.sipush 1357, 3) := by decide +kernel
theorem dX8_keep_15 : decode cX8_keep 15 = .ok (.if_icmp .ge 24, 3) := by decide +kernel
theorem dX8_keep_18 : decode cX8_keep 18 = .ok (.aload_n 0, 1) := by decide +kernel
theorem dX8_keep_19 : decode cX8_keep 19 = .ok (.getfield 25, 3) := by decide +kernel
theorem dX8_keep_22 : decode cX8_keep 22 = .ok (.iload_n 1, 1) := by decide +kernel
theorem dX8_keep_23 : decode cX8_keep 23 = .ok (.aload_n 0, 1) := by decide +kernel
theorem dX8_keep_24 : decode cX8_keep 24 = .ok (.getfield 25, 3) := by decide +kernel
theorem dX8_keep_27 : decode cX8_keep 27 = .ok (.iload_n 1, 1) := by decide +kernel
theorem dX8_keep_28 : decode cX8_keep 28 = .ok (.bipush 59, 2) := by decide +kernel
theorem dX8_keep_30 : decode cX8_keep 30 = .ok (.iadd, 1) := by decide +kernel
theorem dX8_keep_31 : decode cX8_keep 31 = .ok (.iaload, 1) := by decide +kernel
theorem dX8_keep_32 : decode cX8_keep 32 = .ok (.iastore, 1) := by decide +kernel
theorem dX8_keep_33 : decode cX8_keep 33 = .ok (.iinc 1 1, 3) := by decide +kernel
theorem dX8_keep_36 : decode cX8_keep 36 = .ok (.goto (-25), 3) := by decide +kernel
theorem dX8_keep_39 : decode cX8_keep 39 = .ok (.aload_n 0, 1) := by decide +kernel
theorem dX8_keep_40 : decode cX8_keep 40 = .ok (.dup, 1) := by decide +kernel
theorem dX8_keep_41 : decode cX8_keep 41 = .ok (.getfield 183, 3) := by decide +kernel
theorem dX8_keep_44 : decode cX8_keep 44 = .ok (.iconst 1, 1) := by decide +kernel
theorem dX8_keep_45 : decode cX8_keep 45 = .ok (.isub, 1) := by decide +kernel
theorem dX8_keep_46 : decode cX8_keep 46 = .ok (.putfield 183, 3) := by decide +kernel
theorem dX8_keep_49 : decode cX8_keep 49 = .ok (.iconst 0, 1) := by decide +kernel
theorem dX8_keep_50 : decode cX8_keep 50 = .ok (.istore_n 1, 1) := by decide +kernel
theorem dX8_keep_51 : decode cX8_keep 51 = .ok (.iload_n 1, 1) := by decide +kernel
theorem dX8_keep_52 : decode cX8_keep 52 = .ok (.bipush 59, 2) := by decide +kernel
theorem dX8_keep_54 : decode cX8_keep 54 = .ok (.if_icmp .ge 29, 3) := by decide +kernel
theorem dX8_keep_57 : decode cX8_keep 57 = .ok (.aload_n 0, 1) := by decide +kernel
theorem dX8_keep_58 : decode cX8_keep 58 = .ok (.getfield 25, 3) := by decide +kernel
theorem dX8_keep_61 : decode cX8_keep 61 = .ok (.bipush 59, 2) := by decide +kernel
theorem dX8_keep_63 : decode cX8_keep 63 = .ok (.aload_n 0, 1) := by decide +kernel
theorem dX8_keep_64 : decode cX8_keep 64 = .ok (.getfield 183, 3) := by decide +kernel
theorem dX8_keep_67 : decode cX8_keep 67 = .ok (.imul, 1) := by decide +kernel
theorem dX8_keep_68 : decode cX8_keep 68 = .ok (.iload_n 1, 1) := by decide +kernel
theorem dX8_keep_69 : decode cX8_keep 69 = .ok (.iadd, 1) := by decide +kernel
theorem dX8_keep_70 : decode cX8_keep 70 = .ok (.aload_n 0, 1) := by decide +kernel
theorem dX8_keep_71 : decode cX8_keep 71 = .ok (.getfield 19, 3) := by decide +kernel
theorem dX8_keep_74 : decode cX8_keep 74 = .ok (.iload_n 1, 1) := by decide +kernel
theorem dX8_keep_75 : decode cX8_keep 75 = .ok (.iaload, 1) := by decide +kernel
theorem dX8_keep_76 : decode cX8_keep 76 = .ok (.iastore, 1) := by decide +kernel
theorem dX8_keep_77 : decode cX8_keep 77 = .ok (.iinc 1 1, 3) := by decide +kernel
theorem dX8_keep_80 : decode cX8_keep 80 = .ok (.goto (-29), 3) := by decide +kernel
theorem dX8_keep_83 : decode cX8_keep 83 = .ok (.aload_n 0, 1) := by decide +kernel
theorem dX8_keep_84 : decode cX8_keep 84 = .ok (.dup, 1) := by decide +kernel
theorem dX8_keep_85 : decode cX8_keep 85 = .ok (.getfield 183, 3) := by decide +kernel
theorem dX8_keep_88 : decode cX8_keep 88 = .ok (.iconst 1, 1) := by decide +kernel
theorem dX8_keep_89 : decode cX8_keep 89 = .ok (.iadd, 1) := by decide +kernel
theorem dX8_keep_90 : decode cX8_keep 90 = .ok (.putfield 183, 3) := by decide +kernel
theorem dX8_keep_93 : decode cX8_keep 93 = .ok (.return_, 1) := by decide +kernel
theorem dX8_plan_0 : decode cX8_plan 0 = .ok (.aload_n 0, 1) := by decide +kernel
theorem dX8_plan_1 : decode cX8_plan 1 = .ok (.iconst 0, 1) := by decide +kernel
theorem dX8_plan_2 : decode cX8_plan 2 = .ok (.putfield 79, 3) := by decide +kernel
theorem dX8_plan_5 : decode cX8_plan 5 = .ok (.aload_n 0, 1) := by decide +kernel
theorem dX8_plan_6 : decode cX8_plan 6 = .ok (.iload_n 1, 1) := by decide +kernel
theorem dX8_plan_7 : decode cX8_plan 7 = .ok (.invokevirtual 250, 3) := by decide +kernel
theorem dX8_plan_10 : decode cX8_plan 10 = .ok (.ifCond .eq 39, 3) := by decide +kernel
theorem dX8_plan_13 : decode cX8_plan 13 = .ok (.iload_n 2, 1) := by decide +kernel
theorem dX8_plan_14 : decode cX8_plan 14 = .ok (.iconst (-1), 1) := by decide +kernel
theorem dX8_plan_15 : decode cX8_plan 15 = .ok (.if_icmp .eq 37, 3) := by decide +kernel
theorem dX8_plan_18 : decode cX8_plan 18 = .ok (.aload_n 0, 1) := by decide +kernel
theorem dX8_plan_19 : decode cX8_plan 19 = .ok (.iload_n 2, 1) := by decide +kernel
theorem dX8_plan_20 : decode cX8_plan 20 = .ok (.invokevirtual 253, 3) := by decide +kernel
theorem dX8_plan_23 : decode cX8_plan 23 = .ok (.ifCond .eq 26, 3) := by decide +kernel
theorem dX8_plan_26 : decode cX8_plan 26 = .ok (.iload_n 3, 1) := by decide +kernel
theorem dX8_plan_27 : decode cX8_plan 27 = .ok (.i2l, 1) := by decide +kernel
theorem dX8_plan_28 : decode cX8_plan 28 = .ok (.lconst 1, 1) := by decide +kernel
theorem dX8_plan_29 : decode cX8_plan 29 = .ok (.ldc2_w 256, 3) := by decide +kernel
theorem dX8_plan_32 : decode cX8_plan 32 = .ok (.invokestatic 88, 3) := by decide +kernel
theorem dX8_plan_35 : decode cX8_plan 35 = .ok (.ifCond .eq 14, 3) := by decide +kernel
theorem dX8_plan_38 : decode cX8_plan 38 = .ok (.iload 4, 2) := by decide +kernel
theorem dX8_plan_40 : decode cX8_plan 40 = .ok (.i2l, 1) := by decide +kernel
theorem dX8_plan_41 : decode cX8_plan 41 = .ok (.lconst 0, 1) := by decide +kernel
theorem dX8_plan_42 : decode cX8_plan 42 = .ok (.lconst 1, 1) := by decide +kernel
theorem dX8_plan_43 : decode cX8_plan 43 = .ok (.invokestatic 88, 3) := by decide +kernel
theorem dX8_plan_46 : decode cX8_plan 46 = .ok (.ifCond .ne 6, 3) := by decide +kernel
theorem dX8_plan_49 : decode cX8_plan 49 = .ok (.ldc 98, 2) := by decide +kernel
theorem dX8_plan_51 : decode cX8_plan 51 = .ok (.ireturn, 1) := by decide +kernel
theorem dX8_plan_52 : decode cX8_plan 52 = .ok (.aload_n 0, 1) := by decide +kernel
theorem dX8_plan_53 : decode cX8_plan 53 = .ok (.iload_n 1, 1) := by decide +kernel
theorem dX8_plan_54 : decode cX8_plan 54 = .ok (.invokevirtual 258, 3) := by decide +kernel
theorem dX8_plan_57 : decode cX8_plan 57 = .ok (.ifCond .eq 7, 3) := by decide +kernel
theorem dX8_plan_60 : decode cX8_plan 60 = .ok (.ldc_w 261, 3) := by decide +kernel
theorem dX8_plan_63 : decode cX8_plan 63 = .ok (.ireturn, 1) := by decide +kernel
theorem dX8_plan_64 : decode cX8_plan 64 = .ok (.aload_n 0, 1) := by decide +kernel
theorem dX8_plan_65 : decode cX8_plan 65 = .ok (.invokevirtual 262, 3) := by decide +kernel
theorem dX8_plan_68 : decode cX8_plan 68 = .ok (.bipush 35, 2) := by decide +kernel
theorem dX8_plan_70 : decode cX8_plan 70 = .ok (.bipush 6, 2) := by decide +kernel
theorem dX8_plan_72 : decode cX8_plan 72 = .ok (.iload_n 1, 1) := by decide +kernel
theorem dX8_plan_73 : decode cX8_plan 73 = .ok (.imul, 1) := by decide +kernel
theorem dX8_plan_74 : decode cX8_plan 74 = .ok (.iadd, 1) := by decide +kernel
theorem dX8_plan_75 : decode cX8_plan 75 = .ok (.istore 5, 2) := by decide +kernel
theorem dX8_plan_77 : decode cX8_plan 77 = .ok (.aload_n 0, 1) := by decide +kernel
theorem dX8_plan_78 : decode cX8_plan 78 = .ok (.getfield 19, 3) := by decide +kernel
theorem dX8_plan_81 : decode cX8_plan 81 = .ok (.iload 5, 2) := by decide +kernel
theorem dX8_plan_83 : decode cX8_plan 83 = .ok (.iconst 2, 1) := by decide +kernel
theorem dX8_plan_84 : decode cX8_plan 84 = .ok (.iadd, 1) := by decide +kernel
theorem dX8_plan_85 : decode cX8_plan 85 = .ok (.iaload, 1) := by decide +kernel
theorem dX8_plan_86 : decode cX8_plan 86 = .ok (.ifCond .lt 7, 3) := by decide +kernel
theorem dX8_plan_89 : decode cX8_plan 89 = .ok (.iconst 1, 1) := by decide +kernel
theorem dX8_plan_90 : decode cX8_plan 90 = .ok (.goto 4, 3) := by decide +kernel
theorem dX8_plan_93 : decode cX8_plan 93 = .ok (.iconst 0, 1) := by decide +kernel
theorem dX8_plan_94 : decode cX8_plan 94 = .ok (.istore 6, 2) := by decide +kernel
theorem dX8_plan_96 : decode cX8_plan 96 = .ok (.aload_n 0, 1) := by decide +kernel
theorem dX8_plan_97 : decode cX8_plan 97 = .ok (.getfield 19, 3) := by decide +kernel
theorem dX8_plan_100 : decode cX8_plan 100 = .ok (.iload 5, 2) := by decide +kernel
theorem dX8_plan_102 : decode cX8_plan 102 = .ok (.iconst 2, 1) := by decide +kernel
theorem dX8_plan_103 : decode cX8_plan 103 = .ok (.iadd, 1) := by decide +kernel
theorem dX8_plan_104 : decode cX8_plan 104 = .ok (.iload_n 2, 1) := by decide +kernel
theorem dX8_plan_105 : decode cX8_plan 105 = .ok (.iastore, 1) := by decide +kernel
theorem dX8_plan_106 : decode cX8_plan 106 = .ok (.aload_n 0, 1) := by decide +kernel
theorem dX8_plan_107 : decode cX8_plan 107 = .ok (.getfield 19, 3) := by decide +kernel
theorem dX8_plan_110 : decode cX8_plan 110 = .ok (.iload 5, 2) := by decide +kernel
theorem dX8_plan_112 : decode cX8_plan 112 = .ok (.iconst 3, 1) := by decide +kernel
theorem dX8_plan_113 : decode cX8_plan 113 = .ok (.iadd, 1) := by decide +kernel
theorem dX8_plan_114 : decode cX8_plan 114 = .ok (.iload_n 2, 1) := by decide +kernel
theorem dX8_plan_115 : decode cX8_plan 115 = .ok (.ifCond .ge 7, 3) := by decide +kernel
theorem dX8_plan_118 : decode cX8_plan 118 = .ok (.iconst 0, 1) := by decide +kernel
theorem dX8_plan_119 : decode cX8_plan 119 = .ok (.goto 4, 3) := by decide +kernel
theorem dX8_plan_122 : decode cX8_plan 122 = .ok (.iload_n 3, 1) := by decide +kernel
theorem dX8_plan_123 : decode cX8_plan 123 = .ok (.iastore, 1) := by decide +kernel
theorem dX8_plan_124 : decode cX8_plan 124 = .ok (.aload_n 0, 1) := by decide +kernel
theorem dX8_plan_125 : decode cX8_plan 125 = .ok (.getfield 19, 3) := by decide +kernel
theorem dX8_plan_128 : decode cX8_plan 128 = .ok (.iload 5, 2) := by decide +kernel
theorem dX8_plan_130 : decode cX8_plan 130 = .ok (.iconst 4, 1) := by decide +kernel
theorem dX8_plan_131 : decode cX8_plan 131 = .ok (.iadd, 1) := by decide +kernel
theorem dX8_plan_132 : decode cX8_plan 132 = .ok (.iload_n 2, 1) := by decide +kernel
theorem dX8_plan_133 : decode cX8_plan 133 = .ok (.ifCond .ge 7, 3) := by decide +kernel
theorem dX8_plan_136 : decode cX8_plan 136 = .ok (.iconst 0, 1) := by decide +kernel
theorem dX8_plan_137 : decode cX8_plan 137 = .ok (.goto 5, 3) := by decide +kernel
theorem dX8_plan_140 : decode cX8_plan 140 = .ok (.iload 4, 2) := by decide +kernel
theorem dX8_plan_142 : decode cX8_plan 142 = .ok (.iastore, 1) := by decide +kernel
theorem dX8_plan_143 : decode cX8_plan 143 = .ok (.iload 6, 2) := by decide +kernel
theorem dX8_plan_145 : decode cX8_plan 145 = .ok (.ireturn, 1) := by decide +kernel
end
section
theorem dX8_raid_0 : decode cX8_raid 0 = .ok (.aload_n 0, 1) := by decide +kernel
theorem dX8_raid_1 : decode cX8_raid 1 = .ok (.iconst 0, 1) := by decide +kernel
theorem dX8_raid_2 : decode cX8_raid 2 = .ok (.putfield 79, 3) := by decide +kernel
theorem dX8_raid_5 : decode cX8_raid 5 = .ok (.aload_n 0, 1) := by decide +kernel
theorem dX8_raid_6 : decode cX8_raid 6 = .ok (.invokevirtual 265, 3) := by decide +kernel
theorem dX8_raid_9 : decode cX8_raid 9 = .ok (.ifCond .eq 10, 3) := by decide +kernel
theorem dX8_raid_12 : decode cX8_raid 12 = .ok (.aload_n 0, 1) := by decide +kernel
theorem dX8_raid_13 : decode cX8_raid 13 = .ok (.invokevirtual 268, 3) := by decide +kernel
theorem dX8_raid_16 : decode cX8_raid 16 = .ok (.ifCond .ne 7, 3) := by decide +kernel
theorem dX8_raid_19 : decode cX8_raid 19 = .ok (.ldc_w 261, 3) := by decide +kernel
theorem dX8_raid_22 : decode cX8_raid 22 = .ok (.ireturn, 1) := by decide +kernel
theorem dX8_raid_23 : decode cX8_raid 23 = .ok (.aload_n 0, 1) := by decide +kernel
theorem dX8_raid_24 : decode cX8_raid 24 = .ok (.getfield 19, 3) := by decide +kernel
theorem dX8_raid_27 : decode cX8_raid 27 = .ok (.bipush 9, 2) := by decide +kernel
theorem dX8_raid_29 : decode cX8_raid 29 = .ok (.iaload, 1) := by decide +kernel
theorem dX8_raid_30 : decode cX8_raid 30 = .ok (.bipush 99, 2) := by decide +kernel
theorem dX8_raid_32 : decode cX8_raid 32 = .ok (.if_icmp .ne 6, 3) := by decide +kernel
theorem dX8_raid_35 : decode cX8_raid 35 = .ok (.ldc 108, 2) := by decide +kernel
theorem dX8_raid_37 : decode cX8_raid 37 = .ok (.ireturn, 1) := by decide +kernel
theorem dX8_raid_38 : decode cX8_raid 38 = .ok (.aload_n 0, 1) := by decide +kernel
theorem dX8_raid_39 : decode cX8_raid 39 = .ok (.invokevirtual 262, 3) := by decide +kernel
theorem dX8_raid_42 : decode cX8_raid 42 = .ok (.aload_n 0, 1) := by decide +kernel
theorem dX8_raid_43 : decode cX8_raid 43 = .ok (.invokevirtual 271, 3) := by decide +kernel
theorem dX8_raid_46 : decode cX8_raid 46 = .ok (.istore_n 1, 1) := by decide +kernel
theorem dX8_raid_47 : decode cX8_raid 47 = .ok (.iconst 0, 1) := by decide +kernel
theorem dX8_raid_48 : decode cX8_raid 48 = .ok (.istore_n 2, 1) := by decide +kernel
theorem dX8_raid_49 : decode cX8_raid 49 = .ok (.iload_n 2, 1) := by decide +kernel
theorem dX8_raid_50 : decode cX8_raid 50 = .ok (.aload_n 0, 1) := by decide +kernel
theorem dX8_raid_51 : decode cX8_raid 51 = .ok (.getfield 19, 3) := by decide +kernel
theorem dX8_raid_54 : decode cX8_raid 54 = .ok (.bipush 7, 2) := by decide +kernel
theorem dX8_raid_56 : decode cX8_raid 56 = .ok (.iaload, 1) := by decide +kernel
theorem dX8_raid_57 : decode cX8_raid 57 = .ok (.if_icmp .ge 28, 3) := by decide +kernel
theorem dX8_raid_60 : decode cX8_raid 60 = .ok (.aload_n 0, 1) := by decide +kernel
theorem dX8_raid_61 : decode cX8_raid 61 = .ok (.getfield 19, 3) := by decide +kernel
theorem dX8_raid_64 : decode cX8_raid 64 = .ok (.bipush 17, 2) := by decide +kernel
theorem dX8_raid_66 : decode cX8_raid 66 = .ok (.iconst 3, 1) := by decide +kernel
theorem dX8_raid_67 : decode cX8_raid 67 = .ok (.iload_n 2, 1) := by decide +kernel
theorem dX8_raid_68 : decode cX8_raid 68 = .ok (.imul, 1) := by decide +kernel
theorem dX8_raid_69 : decode cX8_raid 69 = .ok (.iadd, 1) := by decide +kernel
theorem dX8_raid_70 : decode cX8_raid 70 = .ok (.iconst 1, 1) := by decide +kernel
theorem dX8_raid_71 : decode cX8_raid 71 = .ok (.iadd, 1) := by decide +kernel
theorem dX8_raid_72 : decode cX8_raid 72 = .ok (.aload_n 0, 1) := by decide +kernel
theorem dX8_raid_73 : decode cX8_raid 73 = .ok (.getfield 40, 3) := by decide +kernel
theorem dX8_raid_76 : decode cX8_raid 76 = .ok (.iload_n 2, 1) := by decide +kernel
theorem dX8_raid_77 : decode cX8_raid 77 = .ok (.iaload, 1) := by decide +kernel
theorem dX8_raid_78 : decode cX8_raid 78 = .ok (.iastore, 1) := by decide +kernel
theorem dX8_raid_79 : decode cX8_raid 79 = .ok (.iinc 2 1, 3) := by decide +kernel
theorem dX8_raid_82 : decode cX8_raid 82 = .ok (.goto (-33), 3) := by decide +kernel
theorem dX8_raid_85 : decode cX8_raid 85 = .ok (.iconst 0, 1) := by decide +kernel
theorem dX8_raid_86 : decode cX8_raid 86 = .ok (.istore_n 2, 1) := by decide +kernel
theorem dX8_raid_87 : decode cX8_raid 87 = .ok (.iload_n 2, 1) := by decide +kernel
theorem dX8_raid_88 : decode cX8_raid 88 = .ok (.aload_n 0, 1) := by decide +kernel
theorem dX8_raid_89 : decode cX8_raid 89 = .ok (.getfield 19, 3) := by decide +kernel
theorem dX8_raid_92 : decode cX8_raid 92 = .ok (.bipush 8, 2) := by decide +kernel
theorem dX8_raid_94 : decode cX8_raid 94 = .ok (.iaload, 1) := by decide +kernel
theorem dX8_raid_95 : decode cX8_raid 95 = .ok (.if_icmp .ge 41, 3) := by decide +kernel
theorem dX8_raid_98 : decode cX8_raid 98 = .ok (.aload_n 0, 1) := by decide +kernel
theorem dX8_raid_99 : decode cX8_raid 99 = .ok (.getfield 19, 3) := by decide +kernel
theorem dX8_raid_102 : decode cX8_raid 102 = .ok (.bipush 35, 2) := by decide +kernel
theorem dX8_raid_104 : decode cX8_raid 104 = .ok (.bipush 6, 2) := by decide +kernel
theorem dX8_raid_106 : decode cX8_raid 106 = .ok (.iload_n 2, 1) := by decide +kernel
theorem dX8_raid_107 : decode cX8_raid 107 = .ok (.imul, 1) := by decide +kernel
theorem dX8_raid_108 : decode cX8_raid 108 = .ok (.iadd, 1) := by decide +kernel
theorem dX8_raid_109 : decode cX8_raid 109 = .ok (.iconst 5, 1) := by decide +kernel
theorem dX8_raid_110 : decode cX8_raid 110 = .ok (.iadd, 1) := by decide +kernel
theorem dX8_raid_111 : decode cX8_raid 111 = .ok (.dup2, 1) := by decide +kernel
theorem dX8_raid_112 : decode cX8_raid 112 = .ok (.iaload, 1) := by decide +kernel
theorem dX8_raid_113 : decode cX8_raid 113 = .ok (.aload_n 0, 1) := by decide +kernel
theorem dX8_raid_114 : decode cX8_raid 114 = .ok (.getfield 46, 3) := by decide +kernel
theorem dX8_raid_117 : decode cX8_raid 117 = .ok (.iload_n 2, 1) := by decide +kernel
theorem dX8_raid_118 : decode cX8_raid 118 = .ok (.iaload, 1) := by decide +kernel
theorem dX8_raid_119 : decode cX8_raid 119 = .ok (.iconst 4, 1) := by decide +kernel
theorem dX8_raid_120 : decode cX8_raid 120 = .ok (.if_icmp .ne 7, 3) := by decide +kernel
theorem dX8_raid_123 : decode cX8_raid 123 = .ok (.iconst 1, 1) := by decide +kernel
theorem dX8_raid_124 : decode cX8_raid 124 = .ok (.goto 4, 3) := by decide +kernel
theorem dX8_raid_127 : decode cX8_raid 127 = .ok (.iconst 0, 1) := by decide +kernel
theorem dX8_raid_128 : decode cX8_raid 128 = .ok (.iadd, 1) := by decide +kernel
theorem dX8_raid_129 : decode cX8_raid 129 = .ok (.iastore, 1) := by decide +kernel
theorem dX8_raid_130 : decode cX8_raid 130 = .ok (.iinc 2 1, 3) := by decide +kernel
theorem dX8_raid_133 : decode cX8_raid 133 = .ok (.goto (-46), 3) := by decide +kernel
theorem dX8_raid_136 : decode cX8_raid 136 = .ok (.aload_n 0, 1) := by decide +kernel
theorem dX8_raid_137 : decode cX8_raid 137 = .ok (.getfield 19, 3) := by decide +kernel
theorem dX8_raid_140 : decode cX8_raid 140 = .ok (.bipush 9, 2) := by decide +kernel
theorem dX8_raid_142 : decode cX8_raid 142 = .ok (.dup2, 1) := by decide +kernel
theorem dX8_raid_143 : decode cX8_raid 143 = .ok (.iaload, 1) := by decide +kernel
theorem dX8_raid_144 : decode cX8_raid 144 = .ok (.iconst 1, 1) := by decide +kernel
theorem dX8_raid_145 : decode cX8_raid 145 = .ok (.iadd, 1) := by decide +kernel
theorem dX8_raid_146 : decode cX8_raid 146 = .ok (.iastore, 1) := by decide +kernel
theorem dX8_raid_147 : decode cX8_raid 147 = .ok (.aload_n 0, 1) := by decide +kernel
theorem dX8_raid_148 : decode cX8_raid 148 = .ok (.getfield 19, 3) := by decide +kernel
theorem dX8_raid_151 : decode cX8_raid 151 = .ok (.bipush 10, 2) := by decide +kernel
theorem dX8_raid_153 : decode cX8_raid 153 = .ok (.dup2, 1) := by decide +kernel
theorem dX8_raid_154 : decode cX8_raid 154 = .ok (.iaload, 1) := by decide +kernel
theorem dX8_raid_155 : decode cX8_raid 155 = .ok (.iload_n 1, 1) := by decide +kernel
theorem dX8_raid_156 : decode cX8_raid 156 = .ok (.iadd, 1) := by decide +kernel
theorem dX8_raid_157 : decode cX8_raid 157 = .ok (.iastore, 1) := by decide +kernel
theorem dX8_raid_158 : decode cX8_raid 158 = .ok (.iload_n 1, 1) := by decide +kernel
theorem dX8_raid_159 : decode cX8_raid 159 = .ok (.ireturn, 1) := by decide +kernel
theorem dX8_grow_0 : decode cX8_grow 0 = .ok (.aload_n 0, 1) := by decide +kernel
theorem dX8_grow_1 : decode cX8_grow 1 = .ok (.iconst 0, 1) := by decide +kernel
theorem dX8_grow_2 : decode cX8_grow 2 = .ok (.putfield 79, 3) := by decide +kernel
theorem dX8_grow_5 : decode cX8_grow 5 = .ok (.aload_n 0, 1) := by decide +kernel
theorem dX8_grow_6 : decode cX8_grow 6 = .ok (.iload_n 1, 1) := by decide +kernel
theorem dX8_grow_7 : decode cX8_grow 7 = .ok (.invokevirtual 253, 3) := by decide +kernel
theorem dX8_grow_10 : decode cX8_grow 10 = .ok (.ifCond .eq 15, 3) := by decide +kernel
theorem dX8_grow_13 : decode cX8_grow 13 = .ok (.iload_n 2, 1) := by decide +kernel
theorem dX8_grow_14 : decode cX8_grow 14 = .ok (.i2l, 1) := by decide +kernel
theorem dX8_grow_15 : decode cX8_grow 15 = .ok (.lconst 1, 1) := by decide +kernel
theorem dX8_grow_16 : decode cX8_grow 16 = .ok (.ldc2_w 274, 3) := by decide +kernel
theorem dX8_grow_19 : decode cX8_grow 19 = .ok (.invokestatic 88, 3) := by decide +kernel
theorem dX8_grow_22 : decode cX8_grow 22 = .ok (.ifCond .ne 6, 3) := by decide +kernel
theorem dX8_grow_25 : decode cX8_grow 25 = .ok (.ldc 98, 2) := by decide +kernel
theorem dX8_grow_27 : decode cX8_grow 27 = .ok (.ireturn, 1) := by decide +kernel
theorem dX8_grow_28 : decode cX8_grow 28 = .ok (.bipush 17, 2) := by decide +kernel
theorem dX8_grow_30 : decode cX8_grow 30 = .ok (.iconst 3, 1) := by decide +kernel
theorem dX8_grow_31 : decode cX8_grow 31 = .ok (.iload_n 1, 1) := by decide +kernel
theorem dX8_grow_32 : decode cX8_grow 32 = .ok (.imul, 1) := by decide +kernel
theorem dX8_grow_33 : decode cX8_grow 33 = .ok (.iadd, 1) := by decide +kernel
theorem dX8_grow_34 : decode cX8_grow 34 = .ok (.iconst 1, 1) := by decide +kernel
theorem dX8_grow_35 : decode cX8_grow 35 = .ok (.iadd, 1) := by decide +kernel
theorem dX8_grow_36 : decode cX8_grow 36 = .ok (.istore_n 3, 1) := by decide +kernel
theorem dX8_grow_37 : decode cX8_grow 37 = .ok (.aload_n 0, 1) := by decide +kernel
theorem dX8_grow_38 : decode cX8_grow 38 = .ok (.getfield 19, 3) := by decide +kernel
theorem dX8_grow_41 : decode cX8_grow 41 = .ok (.iload_n 3, 1) := by decide +kernel
theorem dX8_grow_42 : decode cX8_grow 42 = .ok (.iaload, 1) := by decide +kernel
theorem dX8_grow_43 : decode cX8_grow 43 = .ok (.iload_n 2, 1) := by decide +kernel
theorem dX8_grow_44 : decode cX8_grow 44 = .ok (.iadd, 1) := by decide +kernel
theorem dX8_grow_45 : decode cX8_grow 45 = .ok (.bipush 60, 2) := by decide +kernel
theorem dX8_grow_47 : decode cX8_grow 47 = .ok (.if_icmp .le 6, 3) := by decide +kernel
theorem dX8_grow_50 : decode cX8_grow 50 = .ok (.ldc 108, 2) := by decide +kernel
theorem dX8_grow_52 : decode cX8_grow 52 = .ok (.ireturn, 1) := by decide +kernel
theorem dX8_grow_53 : decode cX8_grow 53 = .ok (.aload_n 0, 1) := by decide +kernel
theorem dX8_grow_54 : decode cX8_grow 54 = .ok (.invokevirtual 262, 3) := by decide +kernel
theorem dX8_grow_57 : decode cX8_grow 57 = .ok (.aload_n 0, 1) := by decide +kernel
theorem dX8_grow_58 : decode cX8_grow 58 = .ok (.getfield 19, 3) := by decide +kernel
theorem dX8_grow_61 : decode cX8_grow 61 = .ok (.iload_n 3, 1) := by decide +kernel
theorem dX8_grow_62 : decode cX8_grow 62 = .ok (.dup2, 1) := by decide +kernel
theorem dX8_grow_63 : decode cX8_grow 63 = .ok (.iaload, 1) := by decide +kernel
theorem dX8_grow_64 : decode cX8_grow 64 = .ok (.iload_n 2, 1) := by decide +kernel
theorem dX8_grow_65 : decode cX8_grow 65 = .ok (.iadd, 1) := by decide +kernel
theorem dX8_grow_66 : decode cX8_grow 66 = .ok (.iastore, 1) := by decide +kernel
theorem dX8_grow_67 : decode cX8_grow 67 = .ok (.aload_n 0, 1) := by decide +kernel
theorem dX8_grow_68 : decode cX8_grow 68 = .ok (.getfield 19, 3) := by decide +kernel
theorem dX8_grow_71 : decode cX8_grow 71 = .ok (.iload_n 3, 1) := by decide +kernel
theorem dX8_grow_72 : decode cX8_grow 72 = .ok (.iaload, 1) := by decide +kernel
theorem dX8_grow_73 : decode cX8_grow 73 = .ok (.ireturn, 1) := by decide +kernel
theorem dX8_undo_0 : decode cX8_undo 0 = .ok (.aload_n 0, 1) := by decide +kernel
theorem dX8_undo_1 : decode cX8_undo 1 = .ok (.iconst 0, 1) := by decide +kernel
theorem dX8_undo_2 : decode cX8_undo 2 = .ok (.putfield 79, 3) := by decide +kernel
theorem dX8_undo_5 : decode cX8_undo 5 = .ok (.aload_n 0, 1) := by decide +kernel
theorem dX8_undo_6 : decode cX8_undo 6 = .ok (.getfield 183, 3) := by decide +kernel
theorem dX8_undo_9 : decode cX8_undo 9 = .ok (.ifCond .ne 7, 3) := by decide +kernel
theorem dX8_undo_12 : decode cX8_undo 12 = .ok (.ldc_w 261, 3) := by decide +kernel
theorem dX8_undo_15 : decode cX8_undo 15 = .ok (.ireturn, 1) := by decide +kernel
theorem dX8_undo_16 : decode cX8_undo 16 = .ok (.aload_n 0, 1) := by decide +kernel
theorem dX8_undo_17 : decode cX8_undo 17 = .ok (.dup, 1) := by decide +kernel
theorem dX8_undo_18 : decode cX8_undo 18 = .ok (.getfield 183, 3) := by decide +kernel
theorem dX8_undo_21 : decode cX8_undo 21 = .ok (.iconst 1, 1) := by decide +kernel
theorem dX8_undo_22 : decode cX8_undo 22 = .ok (.isub, 1) := by decide +kernel
theorem dX8_undo_23 : decode cX8_undo 23 = .ok (.putfield 183, 3) := by decide +kernel
theorem dX8_undo_26 : decode cX8_undo 26 = .ok (.iconst 0, 1) := by decide +kernel
theorem dX8_undo_27 : decode cX8_undo 27 = .ok (.istore_n 1, 1) := by decide +kernel
theorem dX8_undo_28 : decode cX8_undo 28 = .ok (.iload_n 1, 1) := by decide +kernel
theorem dX8_undo_29 : decode cX8_undo 29 = .ok (.bipush 59, 2) := by decide +kernel
theorem dX8_undo_31 : decode cX8_undo 31 = .ok (.if_icmp .ge 29, 3) := by decide +kernel
theorem dX8_undo_34 : decode cX8_undo 34 = .ok (.aload_n 0, 1) := by decide +kernel
theorem dX8_undo_35 : decode cX8_undo 35 = .ok (.getfield 19, 3) := by decide +kernel
theorem dX8_undo_38 : decode cX8_undo 38 = .ok (.iload_n 1, 1) := by decide +kernel
theorem dX8_undo_39 : decode cX8_undo 39 = .ok (.aload_n 0, 1) := by decide +kernel
theorem dX8_undo_40 : decode cX8_undo 40 = .ok (.getfield 25, 3) := by decide +kernel
theorem dX8_undo_43 : decode cX8_undo 43 = .ok (.bipush 59, 2) := by decide +kernel
theorem dX8_undo_45 : decode cX8_undo 45 = .ok (.aload_n 0, 1) := by decide +kernel
theorem dX8_undo_46 : decode cX8_undo 46 = .ok (.getfield 183, 3) := by decide +kernel
theorem dX8_undo_49 : decode cX8_undo 49 = .ok (.imul, 1) := by decide +kernel
theorem dX8_undo_50 : decode cX8_undo 50 = .ok (.iload_n 1, 1) := by decide +kernel
theorem dX8_undo_51 : decode cX8_undo 51 = .ok (.iadd, 1) := by decide +kernel
theorem dX8_undo_52 : decode cX8_undo 52 = .ok (.iaload, 1) := by decide +kernel
theorem dX8_undo_53 : decode cX8_undo 53 = .ok (.iastore, 1) := by decide +kernel
theorem dX8_undo_54 : decode cX8_undo 54 = .ok (.iinc 1 1, 3) := by decide +kernel
theorem dX8_undo_57 : decode cX8_undo 57 = .ok (.goto (-29), 3) := by decide +kernel
theorem dX8_undo_60 : decode cX8_undo 60 = .ok (.aload_n 0, 1) := by decide +kernel
theorem dX8_undo_61 : decode cX8_undo 61 = .ok (.getfield 183, 3) := by decide +kernel
theorem dX8_undo_64 : decode cX8_undo 64 = .ok (.ireturn, 1) := by decide +kernel
theorem dX8_write_0 : decode cX8_write 0 = .ok (.aload_n 0, 1) := by decide +kernel
theorem dX8_write_1 : decode cX8_write 1 = .ok (.iconst 0, 1) := by decide +kernel
theorem dX8_write_2 : decode cX8_write 2 = .ok (.putfield 79, 3) := by decide +kernel
theorem dX8_write_5 : decode cX8_write 5 = .ok (.iload_n 1, 1) := by decide +kernel
theorem dX8_write_6 : decode cX8_write 6 = .ok (.i2l, 1) := by decide +kernel
theorem dX8_write_7 : decode cX8_write 7 = .ok (.lconst 0, 1) := by decide +kernel
theorem dX8_write_8 : decode cX8_write 8 = .ok (.ldc2_w 186, 3) := by decide +kernel
theorem dX8_write_11 : decode cX8_write 11 = .ok (.invokestatic 88, 3) := by decide +kernel
theorem dX8_write_14 : decode cX8_write 14 = .ok (.ifCond .eq 13, 3) := by decide +kernel
theorem dX8_write_17 : decode cX8_write 17 = .ok (.iload_n 2, 1) := by decide +kernel
theorem dX8_write_18 : decode cX8_write 18 = .ok (.i2l, 1) := by decide +kernel
theorem dX8_write_19 : decode cX8_write 19 = .ok (.lconst 0, 1) := by decide +kernel
theorem dX8_write_20 : decode cX8_write 20 = .ok (.lconst 1, 1) := by decide +kernel
theorem dX8_write_21 : decode cX8_write 21 = .ok (.invokestatic 88, 3) := by decide +kernel
theorem dX8_write_24 : decode cX8_write 24 = .ok (.ifCond .ne 6, 3) := by decide +kernel
theorem dX8_write_27 : decode cX8_write 27 = .ok (.ldc 98, 2) := by decide +kernel
theorem dX8_write_29 : decode cX8_write 29 = .ok (.ireturn, 1) := by decide +kernel
theorem dX8_write_30 : decode cX8_write 30 = .ok (.aload_n 0, 1) := by decide +kernel
theorem dX8_write_31 : decode cX8_write 31 = .ok (.getfield 276, 3) := by decide +kernel
theorem dX8_write_34 : decode cX8_write 34 = .ok (.bipush 16, 2) := by decide +kernel
theorem dX8_write_36 : decode cX8_write 36 = .ok (.if_icmp .ne 6, 3) := by decide +kernel
theorem dX8_write_39 : decode cX8_write 39 = .ok (.ldc 108, 2) := by decide +kernel
theorem dX8_write_41 : decode cX8_write 41 = .ok (.ireturn, 1) := by decide +kernel
theorem dX8_write_42 : decode cX8_write 42 = .ok (.aload_n 0, 1) := by decide +kernel
theorem dX8_write_43 : decode cX8_write 43 = .ok (.getfield 66, 3) := by decide +kernel
theorem dX8_write_46 : decode cX8_write 46 = .ok (.iconst 2, 1) := by decide +kernel
theorem dX8_write_47 : decode cX8_write 47 = .ok (.aload_n 0, 1) := by decide +kernel
theorem dX8_write_48 : decode cX8_write 48 = .ok (.getfield 276, 3) := by decide +kernel
theorem dX8_write_51 : decode cX8_write 51 = .ok (.imul, 1) := by decide +kernel
theorem dX8_write_52 : decode cX8_write 52 = .ok (.iload_n 1, 1) := by decide +kernel
theorem dX8_write_53 : decode cX8_write 53 = .ok (.iastore, 1) := by decide +kernel
theorem dX8_write_54 : decode cX8_write 54 = .ok (.aload_n 0, 1) := by decide +kernel
theorem dX8_write_55 : decode cX8_write 55 = .ok (.getfield 66, 3) := by decide +kernel
theorem dX8_write_58 : decode cX8_write 58 = .ok (.iconst 2, 1) := by decide +kernel
theorem dX8_write_59 : decode cX8_write 59 = .ok (.aload_n 0, 1) := by decide +kernel
theorem dX8_write_60 : decode cX8_write 60 = .ok (.getfield 276, 3) := by decide +kernel
theorem dX8_write_63 : decode cX8_write 63 = .ok (.imul, 1) := by decide +kernel
theorem dX8_write_64 : decode cX8_write 64 = .ok (.iconst 1, 1) := by decide +kernel
theorem dX8_write_65 : decode cX8_write 65 = .ok (.iadd, 1) := by decide +kernel
theorem dX8_write_66 : decode cX8_write 66 = .ok (.iload_n 2, 1) := by decide +kernel
theorem dX8_write_67 : decode cX8_write 67 = .ok (.iastore, 1) := by decide +kernel
theorem dX8_write_68 : decode cX8_write 68 = .ok (.aload_n 0, 1) := by decide +kernel
theorem dX8_write_69 : decode cX8_write 69 = .ok (.dup, 1) := by decide +kernel
theorem dX8_write_70 : decode cX8_write 70 = .ok (.getfield 276, 3) := by decide +kernel
theorem dX8_write_73 : decode cX8_write 73 = .ok (.iconst 1, 1) := by decide +kernel
theorem dX8_write_74 : decode cX8_write 74 = .ok (.iadd, 1) := by decide +kernel
theorem dX8_write_75 : decode cX8_write 75 = .ok (.putfield 276, 3) := by decide +kernel
theorem dX8_write_78 : decode cX8_write 78 = .ok (.aload_n 0, 1) := by decide +kernel
theorem dX8_write_79 : decode cX8_write 79 = .ok (.getfield 276, 3) := by decide +kernel
theorem dX8_write_82 : decode cX8_write 82 = .ok (.ireturn, 1) := by decide +kernel
theorem dX8_tear_0 : decode cX8_tear 0 = .ok (.aload_n 0, 1) := by decide +kernel
theorem dX8_tear_1 : decode cX8_tear 1 = .ok (.iconst 0, 1) := by decide +kernel
theorem dX8_tear_2 : decode cX8_tear 2 = .ok (.putfield 79, 3) := by decide +kernel
theorem dX8_tear_5 : decode cX8_tear 5 = .ok (.aload_n 0, 1) := by decide +kernel
theorem dX8_tear_6 : decode cX8_tear 6 = .ok (.getfield 276, 3) := by decide +kernel
theorem dX8_tear_9 : decode cX8_tear 9 = .ok (.istore_n 1, 1) := by decide +kernel
theorem dX8_tear_10 : decode cX8_tear 10 = .ok (.aload_n 0, 1) := by decide +kernel
theorem dX8_tear_11 : decode cX8_tear 11 = .ok (.iconst 0, 1) := by decide +kernel
theorem dX8_tear_12 : decode cX8_tear 12 = .ok (.putfield 276, 3) := by decide +kernel
theorem dX8_tear_15 : decode cX8_tear 15 = .ok (.iload_n 1, 1) := by decide +kernel
theorem dX8_tear_16 : decode cX8_tear 16 = .ok (.ireturn, 1) := by decide +kernel
theorem dX8_linesOf_0 : decode cX8_linesOf 0 = .ok (.iconst 0, 1) := by decide +kernel
theorem dX8_linesOf_1 : decode cX8_linesOf 1 = .ok (.istore_n 3, 1) := by decide +kernel
theorem dX8_linesOf_2 : decode cX8_linesOf 2 = .ok (.iconst 0, 1) := by decide +kernel
theorem dX8_linesOf_3 : decode cX8_linesOf 3 = .ok (.istore 4, 2) := by decide +kernel
theorem dX8_linesOf_5 : decode cX8_linesOf 5 = .ok (.iload 4, 2) := by decide +kernel
theorem dX8_linesOf_7 : decode cX8_linesOf 7 = .ok (.aload_n 0, 1) := by decide +kernel
theorem dX8_linesOf_8 : decode cX8_linesOf 8 = .ok (.getfield 276, 3) := by decide +kernel
theorem dX8_linesOf_11 : decode cX8_linesOf 11 = .ok (.if_icmp .ge 49, 3) := by decide +kernel
theorem dX8_linesOf_14 : decode cX8_linesOf 14 = .ok (.iload_n 3, 1) := by decide +kernel
theorem dX8_linesOf_15 : decode cX8_linesOf 15 = .ok (.aload_n 0, 1) := by decide +kernel
theorem dX8_linesOf_16 : decode cX8_linesOf 16 = .ok (.getfield 66, 3) := by decide +kernel
theorem dX8_linesOf_19 : decode cX8_linesOf 19 = .ok (.iconst 2, 1) := by decide +kernel
theorem dX8_linesOf_20 : decode cX8_linesOf 20 = .ok (.iload 4, 2) := by decide +kernel
theorem dX8_linesOf_22 : decode cX8_linesOf 22 = .ok (.imul, 1) := by decide +kernel
theorem dX8_linesOf_23 : decode cX8_linesOf 23 = .ok (.iaload, 1) := by decide +kernel
theorem dX8_linesOf_24 : decode cX8_linesOf 24 = .ok (.iload_n 1, 1) := by decide +kernel
theorem dX8_linesOf_25 : decode cX8_linesOf 25 = .ok (.if_icmp .ne 26, 3) := by decide +kernel
theorem dX8_linesOf_28 : decode cX8_linesOf 28 = .ok (.iload_n 2, 1) := by decide +kernel
theorem dX8_linesOf_29 : decode cX8_linesOf 29 = .ok (.ifCond .eq 18, 3) := by decide +kernel
theorem dX8_linesOf_32 : decode cX8_linesOf 32 = .ok (.aload_n 0, 1) := by decide +kernel
theorem dX8_linesOf_33 : decode cX8_linesOf 33 = .ok (.getfield 66, 3) := by decide +kernel
theorem dX8_linesOf_36 : decode cX8_linesOf 36 = .ok (.iconst 2, 1) := by decide +kernel
theorem dX8_linesOf_37 : decode cX8_linesOf 37 = .ok (.iload 4, 2) := by decide +kernel
theorem dX8_linesOf_39 : decode cX8_linesOf 39 = .ok (.imul, 1) := by decide +kernel
theorem dX8_linesOf_40 : decode cX8_linesOf 40 = .ok (.iconst 1, 1) := by decide +kernel
theorem dX8_linesOf_41 : decode cX8_linesOf 41 = .ok (.iadd, 1) := by decide +kernel
theorem dX8_linesOf_42 : decode cX8_linesOf 42 = .ok (.iaload, 1) := by decide +kernel
theorem dX8_linesOf_43 : decode cX8_linesOf 43 = .ok (.iconst 1, 1) := by decide +kernel
theorem dX8_linesOf_44 : decode cX8_linesOf 44 = .ok (.if_icmp .ne 7, 3) := by decide +kernel
theorem dX8_linesOf_47 : decode cX8_linesOf 47 = .ok (.iconst 1, 1) := by decide +kernel
theorem dX8_linesOf_48 : decode cX8_linesOf 48 = .ok (.goto 4, 3) := by decide +kernel
theorem dX8_linesOf_51 : decode cX8_linesOf 51 = .ok (.iconst 0, 1) := by decide +kernel
theorem dX8_linesOf_52 : decode cX8_linesOf 52 = .ok (.iadd, 1) := by decide +kernel
theorem dX8_linesOf_53 : decode cX8_linesOf 53 = .ok (.istore_n 3, 1) := by decide +kernel
theorem dX8_linesOf_54 : decode cX8_linesOf 54 = .ok (.iinc 4 1, 3) := by decide +kernel
theorem dX8_linesOf_57 : decode cX8_linesOf 57 = .ok (.goto (-52), 3) := by decide +kernel
theorem dX8_linesOf_60 : decode cX8_linesOf 60 = .ok (.iload_n 3, 1) := by decide +kernel
theorem dX8_linesOf_61 : decode cX8_linesOf 61 = .ok (.ireturn, 1) := by decide +kernel
theorem dX8_common_0 : decode cX8_common 0 = .ok (.lload_n 0, 1) := by decide +kernel
theorem dX8_common_1 : decode cX8_common 1 = .ok (.lconst 0, 1) := by decide +kernel
theorem dX8_common_2 : decode cX8_common 2 = .ok (.lcmp, 1) := by decide +kernel
theorem dX8_common_3 : decode cX8_common 3 = .ok (.ifCond .ge 8, 3) := by decide +kernel
theorem dX8_common_6 : decode cX8_common 6 = .ok (.lload_n 0, 1) := by decide +kernel
theorem dX8_common_7 : decode cX8_common 7 = .ok (.lneg, 1) := by decide +kernel
theorem dX8_common_8 : decode cX8_common 8 = .ok (.goto 4, 3) := by decide +kernel
theorem dX8_common_11 : decode cX8_common 11 = .ok (.lload_n 0, 1) := by decide +kernel
theorem dX8_common_12 : decode cX8_common 12 = .ok (.lstore 4, 2) := by decide +kernel
theorem dX8_common_14 : decode cX8_common 14 = .ok (.lload_n 2, 1) := by decide +kernel
theorem dX8_common_15 : decode cX8_common 15 = .ok (.lstore 6, 2) := by decide +kernel
theorem dX8_common_17 : decode cX8_common 17 = .ok (.lload 6, 2) := by decide +kernel
theorem dX8_common_19 : decode cX8_common 19 = .ok (.lconst 0, 1) := by decide +kernel
theorem dX8_common_20 : decode cX8_common 20 = .ok (.lcmp, 1) := by decide +kernel
theorem dX8_common_21 : decode cX8_common 21 = .ok (.ifCond .eq 21, 3) := by decide +kernel
theorem dX8_common_24 : decode cX8_common 24 = .ok (.lload 4, 2) := by decide +kernel
theorem dX8_common_26 : decode cX8_common 26 = .ok (.lload 6, 2) := by decide +kernel
theorem dX8_common_28 : decode cX8_common 28 = .ok (.lrem, 1) := by decide +kernel
theorem dX8_common_29 : decode cX8_common 29 = .ok (.lstore 8, 2) := by decide +kernel
theorem dX8_common_31 : decode cX8_common 31 = .ok (.lload 6, 2) := by decide +kernel
theorem dX8_common_33 : decode cX8_common 33 = .ok (.lstore 4, 2) := by decide +kernel
theorem dX8_common_35 : decode cX8_common 35 = .ok (.lload 8, 2) := by decide +kernel
theorem dX8_common_37 : decode cX8_common 37 = .ok (.lstore 6, 2) := by decide +kernel
theorem dX8_common_39 : decode cX8_common 39 = .ok (.goto (-22), 3) := by decide +kernel
theorem dX8_common_42 : decode cX8_common 42 = .ok (.lload 4, 2) := by decide +kernel
theorem dX8_common_44 : decode cX8_common 44 = .ok (.lreturn, 1) := by decide +kernel
theorem dX8_sleep_0 : decode cX8_sleep 0 = .ok (.aload_n 0, 1) := by decide +kernel
theorem dX8_sleep_1 : decode cX8_sleep 1 = .ok (.iconst 0, 1) := by decide +kernel
theorem dX8_sleep_2 : decode cX8_sleep 2 = .ok (.putfield 79, 3) := by decide +kernel
theorem dX8_sleep_5 : decode cX8_sleep 5 = .ok (.iload_n 1, 1) := by decide +kernel
theorem dX8_sleep_6 : decode cX8_sleep 6 = .ok (.i2l, 1) := by decide +kernel
theorem dX8_sleep_7 : decode cX8_sleep 7 = .ok (.lconst 0, 1) := by decide +kernel
theorem dX8_sleep_8 : decode cX8_sleep 8 = .ok (.ldc2_w 186, 3) := by decide +kernel
theorem dX8_sleep_11 : decode cX8_sleep 11 = .ok (.invokestatic 88, 3) := by decide +kernel
theorem dX8_sleep_14 : decode cX8_sleep 14 = .ok (.ifCond .eq 13, 3) := by decide +kernel
theorem dX8_sleep_17 : decode cX8_sleep 17 = .ok (.iload_n 2, 1) := by decide +kernel
theorem dX8_sleep_18 : decode cX8_sleep 18 = .ok (.i2l, 1) := by decide +kernel
theorem dX8_sleep_19 : decode cX8_sleep 19 = .ok (.lconst 0, 1) := by decide +kernel
theorem dX8_sleep_20 : decode cX8_sleep 20 = .ok (.lconst 1, 1) := by decide +kernel
theorem dX8_sleep_21 : decode cX8_sleep 21 = .ok (.invokestatic 88, 3) := by decide +kernel
theorem dX8_sleep_24 : decode cX8_sleep 24 = .ok (.ifCond .ne 6, 3) := by decide +kernel
theorem dX8_sleep_27 : decode cX8_sleep 27 = .ok (.ldc 98, 2) := by decide +kernel
theorem dX8_sleep_29 : decode cX8_sleep 29 = .ok (.ireturn, 1) := by decide +kernel
theorem dX8_sleep_30 : decode cX8_sleep 30 = .ok (.aload_n 0, 1) := by decide +kernel
theorem dX8_sleep_31 : decode cX8_sleep 31 = .ok (.iload_n 1, 1) := by decide +kernel
theorem dX8_sleep_32 : decode cX8_sleep 32 = .ok (.iconst 0, 1) := by decide +kernel
theorem dX8_sleep_33 : decode cX8_sleep 33 = .ok (.invokevirtual 279, 3) := by decide +kernel
theorem dX8_sleep_36 : decode cX8_sleep 36 = .ok (.istore_n 3, 1) := by decide +kernel
theorem dX8_sleep_37 : decode cX8_sleep 37 = .ok (.iload_n 3, 1) := by decide +kernel
theorem dX8_sleep_38 : decode cX8_sleep 38 = .ok (.ifCond .ne 6, 3) := by decide +kernel
theorem dX8_sleep_41 : decode cX8_sleep 41 = .ok (.ldc 61, 2) := by decide +kernel
theorem dX8_sleep_43 : decode cX8_sleep 43 = .ok (.ireturn, 1) := by decide +kernel
theorem dX8_sleep_44 : decode cX8_sleep 44 = .ok (.aload_n 0, 1) := by decide +kernel
theorem dX8_sleep_45 : decode cX8_sleep 45 = .ok (.iload_n 1, 1) := by decide +kernel
theorem dX8_sleep_46 : decode cX8_sleep 46 = .ok (.iconst 1, 1) := by decide +kernel
theorem dX8_sleep_47 : decode cX8_sleep 47 = .ok (.invokevirtual 279, 3) := by decide +kernel
theorem dX8_sleep_50 : decode cX8_sleep 50 = .ok (.istore 4, 2) := by decide +kernel
theorem dX8_sleep_52 : decode cX8_sleep 52 = .ok (.iload_n 2, 1) := by decide +kernel
theorem dX8_sleep_53 : decode cX8_sleep 53 = .ok (.ifCond .ne 8, 3) := by decide +kernel
theorem dX8_sleep_56 : decode cX8_sleep 56 = .ok (.iload 4, 2) := by decide +kernel
theorem dX8_sleep_58 : decode cX8_sleep 58 = .ok (.goto 4, 3) := by decide +kernel
theorem dX8_sleep_61 : decode cX8_sleep 61 = .ok (.iload_n 3, 1) := by decide +kernel
theorem dX8_sleep_62 : decode cX8_sleep 62 = .ok (.i2l, 1) := by decide +kernel
theorem dX8_sleep_63 : decode cX8_sleep 63 = .ok (.iload 4, 2) := by decide +kernel
theorem dX8_sleep_65 : decode cX8_sleep 65 = .ok (.i2l, 1) := by decide +kernel
theorem dX8_sleep_66 : decode cX8_sleep 66 = .ok (.iload_n 3, 1) := by decide +kernel
theorem dX8_sleep_67 : decode cX8_sleep 67 = .ok (.i2l, 1) := by decide +kernel
theorem dX8_sleep_68 : decode cX8_sleep 68 = .ok (.invokestatic 283, 3) := by decide +kernel
theorem dX8_sleep_71 : decode cX8_sleep 71 = .ok (.ldiv, 1) := by decide +kernel
theorem dX8_sleep_72 : decode cX8_sleep 72 = .ok (.l2i, 1) := by decide +kernel
theorem dX8_sleep_73 : decode cX8_sleep 73 = .ok (.ireturn, 1) := by decide +kernel
theorem dX8_quietest_0 : decode cX8_quietest 0 = .ok (.aload_n 0, 1) := by decide +kernel
theorem dX8_quietest_1 : decode cX8_quietest 1 = .ok (.iconst 0, 1) := by decide +kernel
theorem dX8_quietest_2 : decode cX8_quietest 2 = .ok (.putfield 79, 3) := by decide +kernel
theorem dX8_quietest_5 : decode cX8_quietest 5 = .ok (.ldc 61, 2) := by decide +kernel
theorem dX8_quietest_7 : decode cX8_quietest 7 = .ok (.istore_n 1, 1) := by decide +kernel
theorem dX8_quietest_8 : decode cX8_quietest 8 = .ok (.iconst 0, 1) := by decide +kernel
theorem dX8_quietest_9 : decode cX8_quietest 9 = .ok (.istore_n 2, 1) := by decide +kernel
theorem dX8_quietest_10 : decode cX8_quietest 10 = .ok (.iload_n 2, 1) := by decide +kernel
theorem dX8_quietest_11 : decode cX8_quietest 11 = .ok (.bipush 24, 2) := by decide +kernel
theorem dX8_quietest_13 : decode cX8_quietest 13 = .ok (.if_icmp .ge 68, 3) := by decide +kernel
theorem dX8_quietest_16 : decode cX8_quietest 16 = .ok (.aload_n 0, 1) := by decide +kernel
theorem dX8_quietest_17 : decode cX8_quietest 17 = .ok (.iload_n 2, 1) := by decide +kernel
theorem dX8_quietest_18 : decode cX8_quietest 18 = .ok (.iconst 0, 1) := by decide +kernel
theorem dX8_quietest_19 : decode cX8_quietest 19 = .ok (.invokevirtual 279, 3) := by decide +kernel
theorem dX8_quietest_22 : decode cX8_quietest 22 = .ok (.istore_n 3, 1) := by decide +kernel
theorem dX8_quietest_23 : decode cX8_quietest 23 = .ok (.iload_n 3, 1) := by decide +kernel
theorem dX8_quietest_24 : decode cX8_quietest 24 = .ok (.ifCond .le 37, 3) := by decide +kernel
theorem dX8_quietest_27 : decode cX8_quietest 27 = .ok (.iload_n 1, 1) := by decide +kernel
theorem dX8_quietest_28 : decode cX8_quietest 28 = .ok (.ldc 61, 2) := by decide +kernel
theorem dX8_quietest_30 : decode cX8_quietest 30 = .ok (.if_icmp .eq 27, 3) := by decide +kernel
theorem dX8_quietest_33 : decode cX8_quietest 33 = .ok (.aload_n 0, 1) := by decide +kernel
theorem dX8_quietest_34 : decode cX8_quietest 34 = .ok (.iload_n 2, 1) := by decide +kernel
theorem dX8_quietest_35 : decode cX8_quietest 35 = .ok (.iconst 1, 1) := by decide +kernel
theorem dX8_quietest_36 : decode cX8_quietest 36 = .ok (.invokevirtual 279, 3) := by decide +kernel
theorem dX8_quietest_39 : decode cX8_quietest 39 = .ok (.aload_n 0, 1) := by decide +kernel
theorem dX8_quietest_40 : decode cX8_quietest 40 = .ok (.iload_n 1, 1) := by decide +kernel
theorem dX8_quietest_41 : decode cX8_quietest 41 = .ok (.iconst 0, 1) := by decide +kernel
theorem dX8_quietest_42 : decode cX8_quietest 42 = .ok (.invokevirtual 279, 3) := by decide +kernel
theorem dX8_quietest_45 : decode cX8_quietest 45 = .ok (.imul, 1) := by decide +kernel
theorem dX8_quietest_46 : decode cX8_quietest 46 = .ok (.aload_n 0, 1) := by decide +kernel
theorem dX8_quietest_47 : decode cX8_quietest 47 = .ok (.iload_n 1, 1) := by decide +kernel
theorem dX8_quietest_48 : decode cX8_quietest 48 = .ok (.iconst 1, 1) := by decide +kernel
theorem dX8_quietest_49 : decode cX8_quietest 49 = .ok (.invokevirtual 279, 3) := by decide +kernel
theorem dX8_quietest_52 : decode cX8_quietest 52 = .ok (.iload_n 3, 1) := by decide +kernel
theorem dX8_quietest_53 : decode cX8_quietest 53 = .ok (.imul, 1) := by decide +kernel
theorem dX8_quietest_54 : decode cX8_quietest 54 = .ok (.if_icmp .le 7, 3) := by decide +kernel
theorem dX8_quietest_57 : decode cX8_quietest 57 = .ok (.iconst 1, 1) := by decide +kernel
theorem dX8_quietest_58 : decode cX8_quietest 58 = .ok (.goto 4, 3) := by decide +kernel
theorem dX8_quietest_61 : decode cX8_quietest 61 = .ok (.iconst 0, 1) := by decide +kernel
theorem dX8_quietest_62 : decode cX8_quietest 62 = .ok (.istore 4, 2) := by decide +kernel
theorem dX8_quietest_64 : decode cX8_quietest 64 = .ok (.iload 4, 2) := by decide +kernel
theorem dX8_quietest_66 : decode cX8_quietest 66 = .ok (.ifCond .eq 7, 3) := by decide +kernel
theorem dX8_quietest_69 : decode cX8_quietest 69 = .ok (.iload_n 2, 1) := by decide +kernel
theorem dX8_quietest_70 : decode cX8_quietest 70 = .ok (.goto 4, 3) := by decide +kernel
theorem dX8_quietest_73 : decode cX8_quietest 73 = .ok (.iload_n 1, 1) := by decide +kernel
theorem dX8_quietest_74 : decode cX8_quietest 74 = .ok (.istore_n 1, 1) := by decide +kernel
theorem dX8_quietest_75 : decode cX8_quietest 75 = .ok (.iinc 2 1, 3) := by decide +kernel
theorem dX8_quietest_78 : decode cX8_quietest 78 = .ok (.goto (-68), 3) := by decide +kernel
theorem dX8_quietest_81 : decode cX8_quietest 81 = .ok (.iload_n 1, 1) := by decide +kernel
theorem dX8_quietest_82 : decode cX8_quietest 82 = .ok (.ireturn, 1) := by decide +kernel
theorem dX8_raider_0 : decode cX8_raider 0 = .ok (.aload_n 0, 1) := by decide +kernel
theorem dX8_raider_1 : decode cX8_raider 1 = .ok (.iconst 0, 1) := by decide +kernel
theorem dX8_raider_2 : decode cX8_raider 2 = .ok (.putfield 79, 3) := by decide +kernel
theorem dX8_raider_5 : decode cX8_raider 5 = .ok (.aload_n 0, 1) := by decide +kernel
theorem dX8_raider_6 : decode cX8_raider 6 = .ok (.iload_n 1, 1) := by decide +kernel
theorem dX8_raider_7 : decode cX8_raider 7 = .ok (.invokevirtual 250, 3) := by decide +kernel
theorem dX8_raider_10 : decode cX8_raider 10 = .ok (.ifCond .eq 26, 3) := by decide +kernel
theorem dX8_raider_13 : decode cX8_raider 13 = .ok (.iload_n 2, 1) := by decide +kernel
theorem dX8_raider_14 : decode cX8_raider 14 = .ok (.i2l, 1) := by decide +kernel
theorem dX8_raider_15 : decode cX8_raider 15 = .ok (.lconst 0, 1) := by decide +kernel
theorem dX8_raider_16 : decode cX8_raider 16 = .ok (.ldc2_w 287, 3) := by decide +kernel
theorem dX8_raider_19 : decode cX8_raider 19 = .ok (.invokestatic 88, 3) := by decide +kernel
theorem dX8_raider_22 : decode cX8_raider 22 = .ok (.ifCond .eq 14, 3) := by decide +kernel
theorem dX8_raider_25 : decode cX8_raider 25 = .ok (.aload_n 0, 1) := by decide +kernel
theorem dX8_raider_26 : decode cX8_raider 26 = .ok (.iload_n 1, 1) := by decide +kernel
theorem dX8_raider_27 : decode cX8_raider 27 = .ok (.iconst 1, 1) := by decide +kernel
theorem dX8_raider_28 : decode cX8_raider 28 = .ok (.iload_n 2, 1) := by decide +kernel
theorem dX8_raider_29 : decode cX8_raider 29 = .ok (.iadd, 1) := by decide +kernel
theorem dX8_raider_30 : decode cX8_raider 30 = .ok (.invokevirtual 188, 3) := by decide +kernel
theorem dX8_raider_33 : decode cX8_raider 33 = .ok (.goto 5, 3) := by decide +kernel
theorem dX8_raider_36 : decode cX8_raider 36 = .ok (.ldc 98, 2) := by decide +kernel
theorem dX8_raider_38 : decode cX8_raider 38 = .ok (.ireturn, 1) := by decide +kernel
theorem dX8_tree_0 : decode cX8_tree 0 = .ok (.aload_n 0, 1) := by decide +kernel
theorem dX8_tree_1 : decode cX8_tree 1 = .ok (.iconst 0, 1) := by decide +kernel
theorem dX8_tree_2 : decode cX8_tree 2 = .ok (.putfield 79, 3) := by decide +kernel
theorem dX8_tree_5 : decode cX8_tree 5 = .ok (.aload_n 0, 1) := by decide +kernel
theorem dX8_tree_6 : decode cX8_tree 6 = .ok (.iload_n 1, 1) := by decide +kernel
theorem dX8_tree_7 : decode cX8_tree 7 = .ok (.invokevirtual 253, 3) := by decide +kernel
theorem dX8_tree_10 : decode cX8_tree 10 = .ok (.ifCond .eq 31, 3) := by decide +kernel
theorem dX8_tree_13 : decode cX8_tree 13 = .ok (.iload_n 2, 1) := by decide +kernel
theorem dX8_tree_14 : decode cX8_tree 14 = .ok (.i2l, 1) := by decide +kernel
theorem dX8_tree_15 : decode cX8_tree 15 = .ok (.lconst 0, 1) := by decide +kernel
theorem dX8_tree_16 : decode cX8_tree 16 = .ok (.ldc2_w 96, 3) := by decide +kernel
theorem dX8_tree_19 : decode cX8_tree 19 = .ok (.invokestatic 88, 3) := by decide +kernel
theorem dX8_tree_22 : decode cX8_tree 22 = .ok (.ifCond .eq 19, 3) := by decide +kernel
theorem dX8_tree_25 : decode cX8_tree 25 = .ok (.aload_n 0, 1) := by decide +kernel
theorem dX8_tree_26 : decode cX8_tree 26 = .ok (.getfield 19, 3) := by decide +kernel
theorem dX8_tree_29 : decode cX8_tree 29 = .ok (.bipush 17, 2) := by decide +kernel
theorem dX8_tree_31 : decode cX8_tree 31 = .ok (.iconst 3, 1) := by decide +kernel
theorem dX8_tree_32 : decode cX8_tree 32 = .ok (.iload_n 1, 1) := by decide +kernel
theorem dX8_tree_33 : decode cX8_tree 33 = .ok (.imul, 1) := by decide +kernel
theorem dX8_tree_34 : decode cX8_tree 34 = .ok (.iadd, 1) := by decide +kernel
theorem dX8_tree_35 : decode cX8_tree 35 = .ok (.iload_n 2, 1) := by decide +kernel
theorem dX8_tree_36 : decode cX8_tree 36 = .ok (.iadd, 1) := by decide +kernel
theorem dX8_tree_37 : decode cX8_tree 37 = .ok (.iaload, 1) := by decide +kernel
theorem dX8_tree_38 : decode cX8_tree 38 = .ok (.goto 5, 3) := by decide +kernel
theorem dX8_tree_41 : decode cX8_tree 41 = .ok (.ldc 98, 2) := by decide +kernel
theorem dX8_tree_43 : decode cX8_tree 43 = .ok (.ireturn, 1) := by decide +kernel
theorem dX8_far_0 : decode cX8_far 0 = .ok (.aload_n 0, 1) := by decide +kernel
theorem dX8_far_1 : decode cX8_far 1 = .ok (.iconst 0, 1) := by decide +kernel
theorem dX8_far_2 : decode cX8_far 2 = .ok (.putfield 79, 3) := by decide +kernel
theorem dX8_far_5 : decode cX8_far 5 = .ok (.iload_n 1, 1) := by decide +kernel
theorem dX8_far_6 : decode cX8_far 6 = .ok (.invokestatic 289, 3) := by decide +kernel
theorem dX8_far_9 : decode cX8_far 9 = .ok (.ifCond .eq 18, 3) := by decide +kernel
theorem dX8_far_12 : decode cX8_far 12 = .ok (.iload_n 2, 1) := by decide +kernel
theorem dX8_far_13 : decode cX8_far 13 = .ok (.invokestatic 289, 3) := by decide +kernel
theorem dX8_far_16 : decode cX8_far 16 = .ok (.ifCond .eq 11, 3) := by decide +kernel
theorem dX8_far_19 : decode cX8_far 19 = .ok (.iload_n 1, 1) := by decide +kernel
theorem dX8_far_20 : decode cX8_far 20 = .ok (.iload_n 2, 1) := by decide +kernel
theorem dX8_far_21 : decode cX8_far 21 = .ok (.invokestatic 197, 3) := by decide +kernel
theorem dX8_far_24 : decode cX8_far 24 = .ok (.goto 5, 3) := by decide +kernel
theorem dX8_far_27 : decode cX8_far 27 = .ok (.ldc 98, 2) := by decide +kernel
theorem dX8_far_29 : decode cX8_far 29 = .ok (.ireturn, 1) := by decide +kernel
theorem dX8_ahead_0 : decode cX8_ahead 0 = .ok (.aload_n 0, 1) := by decide +kernel
theorem dX8_ahead_1 : decode cX8_ahead 1 = .ok (.iconst 0, 1) := by decide +kernel
theorem dX8_ahead_2 : decode cX8_ahead 2 = .ok (.putfield 79, 3) := by decide +kernel
theorem dX8_ahead_5 : decode cX8_ahead 5 = .ok (.aload_n 0, 1) := by decide +kernel
theorem dX8_ahead_6 : decode cX8_ahead 6 = .ok (.invokevirtual 265, 3) := by decide +kernel
theorem dX8_ahead_9 : decode cX8_ahead 9 = .ok (.ifCond .ne 7, 3) := by decide +kernel
theorem dX8_ahead_12 : decode cX8_ahead 12 = .ok (.ldc_w 261, 3) := by decide +kernel
theorem dX8_ahead_15 : decode cX8_ahead 15 = .ok (.ireturn, 1) := by decide +kernel
theorem dX8_ahead_16 : decode cX8_ahead 16 = .ok (.iload_n 1, 1) := by decide +kernel
theorem dX8_ahead_17 : decode cX8_ahead 17 = .ok (.i2l, 1) := by decide +kernel
theorem dX8_ahead_18 : decode cX8_ahead 18 = .ok (.lconst 0, 1) := by decide +kernel
theorem dX8_ahead_19 : decode cX8_ahead 19 = .ok (.ldc2_w 292, 3) := by decide +kernel
theorem dX8_ahead_22 : decode cX8_ahead 22 = .ok (.invokestatic 88, 3) := by decide +kernel
theorem dX8_ahead_25 : decode cX8_ahead 25 = .ok (.ifCond .ne 6, 3) := by decide +kernel
theorem dX8_ahead_28 : decode cX8_ahead 28 = .ok (.ldc 98, 2) := by decide +kernel
theorem dX8_ahead_30 : decode cX8_ahead 30 = .ok (.ireturn, 1) := by decide +kernel
theorem dX8_ahead_31 : decode cX8_ahead 31 = .ok (.aload_n 0, 1) := by decide +kernel
theorem dX8_ahead_32 : decode cX8_ahead 32 = .ok (.invokevirtual 271, 3) := by decide +kernel
theorem dX8_ahead_35 : decode cX8_ahead 35 = .ok (.istore_n 2, 1) := by decide +kernel
theorem dX8_ahead_36 : decode cX8_ahead 36 = .ok (.iconst 0, 1) := by decide +kernel
theorem dX8_ahead_37 : decode cX8_ahead 37 = .ok (.istore_n 3, 1) := by decide +kernel
theorem dX8_ahead_38 : decode cX8_ahead 38 = .ok (.iconst 0, 1) := by decide +kernel
theorem dX8_ahead_39 : decode cX8_ahead 39 = .ok (.istore 4, 2) := by decide +kernel
theorem dX8_ahead_41 : decode cX8_ahead 41 = .ok (.iload 4, 2) := by decide +kernel
theorem dX8_ahead_43 : decode cX8_ahead 43 = .ok (.iconst 4, 1) := by decide +kernel
theorem dX8_ahead_44 : decode cX8_ahead 44 = .ok (.if_icmp .ge 31, 3) := by decide +kernel
theorem dX8_ahead_47 : decode cX8_ahead 47 = .ok (.iload_n 3, 1) := by decide +kernel
theorem dX8_ahead_48 : decode cX8_ahead 48 = .ok (.aload_n 0, 1) := by decide +kernel
theorem dX8_ahead_49 : decode cX8_ahead 49 = .ok (.getfield 46, 3) := by decide +kernel
theorem dX8_ahead_52 : decode cX8_ahead 52 = .ok (.iload 4, 2) := by decide +kernel
theorem dX8_ahead_54 : decode cX8_ahead 54 = .ok (.iaload, 1) := by decide +kernel
theorem dX8_ahead_55 : decode cX8_ahead 55 = .ok (.iconst 4, 1) := by decide +kernel
theorem dX8_ahead_56 : decode cX8_ahead 56 = .ok (.if_icmp .ne 10, 3) := by decide +kernel
theorem dX8_ahead_59 : decode cX8_ahead 59 = .ok (.iconst 1, 1) := by decide +kernel
theorem dX8_ahead_60 : decode cX8_ahead 60 = .ok (.iload 4, 2) := by decide +kernel
theorem dX8_ahead_62 : decode cX8_ahead 62 = .ok (.ishl, 1) := by decide +kernel
theorem dX8_ahead_63 : decode cX8_ahead 63 = .ok (.goto 4, 3) := by decide +kernel
theorem dX8_ahead_66 : decode cX8_ahead 66 = .ok (.iconst 0, 1) := by decide +kernel
theorem dX8_ahead_67 : decode cX8_ahead 67 = .ok (.ior, 1) := by decide +kernel
theorem dX8_ahead_68 : decode cX8_ahead 68 = .ok (.istore_n 3, 1) := by decide +kernel
theorem dX8_ahead_69 : decode cX8_ahead 69 = .ok (.iinc 4 1, 3) := by decide +kernel
theorem dX8_ahead_72 : decode cX8_ahead 72 = .ok (.goto (-31), 3) := by decide +kernel
theorem dX8_ahead_75 : decode cX8_ahead 75 = .ok (.iload_n 1, 1) := by decide +kernel
theorem dX8_ahead_76 : decode cX8_ahead 76 = .ok (.ifCond .ne 7, 3) := by decide +kernel
theorem dX8_ahead_79 : decode cX8_ahead 79 = .ok (.iload_n 2, 1) := by decide +kernel
theorem dX8_ahead_80 : decode cX8_ahead 80 = .ok (.goto 28, 3) := by decide +kernel
theorem dX8_ahead_83 : decode cX8_ahead 83 = .ok (.iload_n 1, 1) := by decide +kernel
theorem dX8_ahead_84 : decode cX8_ahead 84 = .ok (.iconst 1, 1) := by decide +kernel
theorem dX8_ahead_85 : decode cX8_ahead 85 = .ok (.if_icmp .ne 7, 3) := by decide +kernel
theorem dX8_ahead_88 : decode cX8_ahead 88 = .ok (.iload_n 3, 1) := by decide +kernel
theorem dX8_ahead_89 : decode cX8_ahead 89 = .ok (.goto 19, 3) := by decide +kernel
theorem dX8_ahead_92 : decode cX8_ahead 92 = .ok (.iload_n 1, 1) := by decide +kernel
theorem dX8_ahead_93 : decode cX8_ahead 93 = .ok (.iconst 2, 1) := by decide +kernel
theorem dX8_ahead_94 : decode cX8_ahead 94 = .ok (.if_icmp .ne 10, 3) := by decide +kernel
theorem dX8_ahead_97 : decode cX8_ahead 97 = .ok (.aload_n 0, 1) := by decide +kernel
theorem dX8_ahead_98 : decode cX8_ahead 98 = .ok (.getfield 213, 3) := by decide +kernel
theorem dX8_ahead_101 : decode cX8_ahead 101 = .ok (.goto 7, 3) := by decide +kernel
theorem dX8_ahead_104 : decode cX8_ahead 104 = .ok (.aload_n 0, 1) := by decide +kernel
theorem dX8_ahead_105 : decode cX8_ahead 105 = .ok (.getfield 219, 3) := by decide +kernel
theorem dX8_ahead_108 : decode cX8_ahead 108 = .ok (.ireturn, 1) := by decide +kernel
theorem dX8_raiderAhead_0 : decode cX8_raiderAhead 0 = .ok (.aload_n 0, 1) := by decide +kernel
theorem dX8_raiderAhead_1 : decode cX8_raiderAhead 1 = .ok (.iconst 0, 1) := by decide +kernel
theorem dX8_raiderAhead_2 : decode cX8_raiderAhead 2 = .ok (.putfield 79, 3) := by decide +kernel
theorem dX8_raiderAhead_5 : decode cX8_raiderAhead 5 = .ok (.aload_n 0, 1) := by decide +kernel
theorem dX8_raiderAhead_6 : decode cX8_raiderAhead 6 = .ok (.iload_n 1, 1) := by decide +kernel
theorem dX8_raiderAhead_7 : decode cX8_raiderAhead 7 = .ok (.invokevirtual 250, 3) := by decide +kernel
theorem dX8_raiderAhead_10 : decode cX8_raiderAhead 10 = .ok (.ifCond .eq 13, 3) := by decide +kernel
theorem dX8_raiderAhead_13 : decode cX8_raiderAhead 13 = .ok (.iload_n 2, 1) := by decide +kernel
theorem dX8_raiderAhead_14 : decode cX8_raiderAhead 14 = .ok (.i2l, 1) := by decide +kernel
theorem dX8_raiderAhead_15 : decode cX8_raiderAhead 15 = .ok (.lconst 0, 1) := by decide +kernel
theorem dX8_raiderAhead_16 : decode cX8_raiderAhead 16 = .ok (.lconst 1, 1) := by decide +kernel
theorem dX8_raiderAhead_17 : decode cX8_raiderAhead 17 = .ok (.invokestatic 88, 3) := by decide +kernel
theorem dX8_raiderAhead_20 : decode cX8_raiderAhead 20 = .ok (.ifCond .ne 6, 3) := by decide +kernel
theorem dX8_raiderAhead_23 : decode cX8_raiderAhead 23 = .ok (.ldc 98, 2) := by decide +kernel
theorem dX8_raiderAhead_25 : decode cX8_raiderAhead 25 = .ok (.ireturn, 1) := by decide +kernel
theorem dX8_raiderAhead_26 : decode cX8_raiderAhead 26 = .ok (.aload_n 0, 1) := by decide +kernel
theorem dX8_raiderAhead_27 : decode cX8_raiderAhead 27 = .ok (.invokevirtual 271, 3) := by decide +kernel
theorem dX8_raiderAhead_30 : decode cX8_raiderAhead 30 = .ok (.istore_n 3, 1) := by decide +kernel
theorem dX8_raiderAhead_31 : decode cX8_raiderAhead 31 = .ok (.iload_n 2, 1) := by decide +kernel
theorem dX8_raiderAhead_32 : decode cX8_raiderAhead 32 = .ok (.ifCond .ne 12, 3) := by decide +kernel
theorem dX8_raiderAhead_35 : decode cX8_raiderAhead 35 = .ok (.aload_n 0, 1) := by decide +kernel
theorem dX8_raiderAhead_36 : decode cX8_raiderAhead 36 = .ok (.getfield 58, 3) := by decide +kernel
theorem dX8_raiderAhead_39 : decode cX8_raiderAhead 39 = .ok (.iload_n 1, 1) := by decide +kernel
theorem dX8_raiderAhead_40 : decode cX8_raiderAhead 40 = .ok (.iaload, 1) := by decide +kernel
theorem dX8_raiderAhead_41 : decode cX8_raiderAhead 41 = .ok (.goto 16, 3) := by decide +kernel
theorem dX8_raiderAhead_44 : decode cX8_raiderAhead 44 = .ok (.iload_n 3, 1) := by decide +kernel
theorem dX8_raiderAhead_45 : decode cX8_raiderAhead 45 = .ok (.ifCond .ge 7, 3) := by decide +kernel
theorem dX8_raiderAhead_48 : decode cX8_raiderAhead 48 = .ok (.iload_n 3, 1) := by decide +kernel
theorem dX8_raiderAhead_49 : decode cX8_raiderAhead 49 = .ok (.goto 8, 3) := by decide +kernel
theorem dX8_raiderAhead_52 : decode cX8_raiderAhead 52 = .ok (.aload_n 0, 1) := by decide +kernel
theorem dX8_raiderAhead_53 : decode cX8_raiderAhead 53 = .ok (.iload_n 1, 1) := by decide +kernel
theorem dX8_raiderAhead_54 : decode cX8_raiderAhead 54 = .ok (.invokevirtual 237, 3) := by decide +kernel
theorem dX8_raiderAhead_57 : decode cX8_raiderAhead 57 = .ok (.ireturn, 1) := by decide +kernel
theorem dX8_aloneOf_0 : decode cX8_aloneOf 0 = .ok (.aload_n 0, 1) := by decide +kernel
theorem dX8_aloneOf_1 : decode cX8_aloneOf 1 = .ok (.invokevirtual 191, 3) := by decide +kernel
theorem dX8_aloneOf_4 : decode cX8_aloneOf 4 = .ok (.aload_n 0, 1) := by decide +kernel
theorem dX8_aloneOf_5 : decode cX8_aloneOf 5 = .ok (.getfield 31, 3) := by decide +kernel
theorem dX8_aloneOf_8 : decode cX8_aloneOf 8 = .ok (.iload_n 1, 1) := by decide +kernel
theorem dX8_aloneOf_9 : decode cX8_aloneOf 9 = .ok (.iload_n 2, 1) := by decide +kernel
theorem dX8_aloneOf_10 : decode cX8_aloneOf 10 = .ok (.iastore, 1) := by decide +kernel
theorem dX8_aloneOf_11 : decode cX8_aloneOf 11 = .ok (.aload_n 0, 1) := by decide +kernel
theorem dX8_aloneOf_12 : decode cX8_aloneOf 12 = .ok (.getfield 34, 3) := by decide +kernel
theorem dX8_aloneOf_15 : decode cX8_aloneOf 15 = .ok (.iload_n 1, 1) := by decide +kernel
theorem dX8_aloneOf_16 : decode cX8_aloneOf 16 = .ok (.iload_n 3, 1) := by decide +kernel
theorem dX8_aloneOf_17 : decode cX8_aloneOf 17 = .ok (.iastore, 1) := by decide +kernel
theorem dX8_aloneOf_18 : decode cX8_aloneOf 18 = .ok (.aload_n 0, 1) := by decide +kernel
theorem dX8_aloneOf_19 : decode cX8_aloneOf 19 = .ok (.getfield 37, 3) := by decide +kernel
theorem dX8_aloneOf_22 : decode cX8_aloneOf 22 = .ok (.iload_n 1, 1) := by decide +kernel
theorem dX8_aloneOf_23 : decode cX8_aloneOf 23 = .ok (.iload 4, 2) := by decide +kernel
theorem dX8_aloneOf_25 : decode cX8_aloneOf 25 = .ok (.iastore, 1) := by decide +kernel
theorem dX8_aloneOf_26 : decode cX8_aloneOf 26 = .ok (.aload_n 0, 1) := by decide +kernel
theorem dX8_aloneOf_27 : decode cX8_aloneOf 27 = .ok (.iconst 1, 1) := by decide +kernel
theorem dX8_aloneOf_28 : decode cX8_aloneOf 28 = .ok (.iload_n 1, 1) := by decide +kernel
theorem dX8_aloneOf_29 : decode cX8_aloneOf 29 = .ok (.ishl, 1) := by decide +kernel
theorem dX8_aloneOf_30 : decode cX8_aloneOf 30 = .ok (.invokevirtual 247, 3) := by decide +kernel
theorem dX8_aloneOf_33 : decode cX8_aloneOf 33 = .ok (.istore 5, 2) := by decide +kernel
theorem dX8_aloneOf_35 : decode cX8_aloneOf 35 = .ok (.aload_n 0, 1) := by decide +kernel
theorem dX8_aloneOf_36 : decode cX8_aloneOf 36 = .ok (.getfield 46, 3) := by decide +kernel
theorem dX8_aloneOf_39 : decode cX8_aloneOf 39 = .ok (.iload_n 1, 1) := by decide +kernel
theorem dX8_aloneOf_40 : decode cX8_aloneOf 40 = .ok (.iaload, 1) := by decide +kernel
theorem dX8_aloneOf_41 : decode cX8_aloneOf 41 = .ok (.iconst 4, 1) := by decide +kernel
theorem dX8_aloneOf_42 : decode cX8_aloneOf 42 = .ok (.if_icmp .ne 8, 3) := by decide +kernel
theorem dX8_aloneOf_45 : decode cX8_aloneOf 45 = .ok (.ldc 61, 2) := by decide +kernel
theorem dX8_aloneOf_47 : decode cX8_aloneOf 47 = .ok (.goto 5, 3) := by decide +kernel
theorem dX8_aloneOf_50 : decode cX8_aloneOf 50 = .ok (.iload 5, 2) := by decide +kernel
theorem dX8_aloneOf_52 : decode cX8_aloneOf 52 = .ok (.ireturn, 1) := by decide +kernel
theorem dX8_safe_0 : decode cX8_safe 0 = .ok (.aload_n 0, 1) := by decide +kernel
theorem dX8_safe_1 : decode cX8_safe 1 = .ok (.iconst 0, 1) := by decide +kernel
theorem dX8_safe_2 : decode cX8_safe 2 = .ok (.putfield 79, 3) := by decide +kernel
theorem dX8_safe_5 : decode cX8_safe 5 = .ok (.aload_n 0, 1) := by decide +kernel
theorem dX8_safe_6 : decode cX8_safe 6 = .ok (.iload_n 1, 1) := by decide +kernel
theorem dX8_safe_7 : decode cX8_safe 7 = .ok (.invokevirtual 250, 3) := by decide +kernel
theorem dX8_safe_10 : decode cX8_safe 10 = .ok (.ifCond .eq 21, 3) := by decide +kernel
theorem dX8_safe_13 : decode cX8_safe 13 = .ok (.aload_n 0, 1) := by decide +kernel
theorem dX8_safe_14 : decode cX8_safe 14 = .ok (.iload_n 2, 1) := by decide +kernel
theorem dX8_safe_15 : decode cX8_safe 15 = .ok (.invokevirtual 253, 3) := by decide +kernel
theorem dX8_safe_18 : decode cX8_safe 18 = .ok (.ifCond .eq 13, 3) := by decide +kernel
theorem dX8_safe_21 : decode cX8_safe 21 = .ok (.iload_n 3, 1) := by decide +kernel
theorem dX8_safe_22 : decode cX8_safe 22 = .ok (.i2l, 1) := by decide +kernel
theorem dX8_safe_23 : decode cX8_safe 23 = .ok (.lconst 0, 1) := by decide +kernel
theorem dX8_safe_24 : decode cX8_safe 24 = .ok (.lconst 1, 1) := by decide +kernel
theorem dX8_safe_25 : decode cX8_safe 25 = .ok (.invokestatic 88, 3) := by decide +kernel
theorem dX8_safe_28 : decode cX8_safe 28 = .ok (.ifCond .ne 6, 3) := by decide +kernel
theorem dX8_safe_31 : decode cX8_safe 31 = .ok (.ldc 98, 2) := by decide +kernel
theorem dX8_safe_33 : decode cX8_safe 33 = .ok (.ireturn, 1) := by decide +kernel
theorem dX8_safe_34 : decode cX8_safe 34 = .ok (.aload_n 0, 1) := by decide +kernel
theorem dX8_safe_35 : decode cX8_safe 35 = .ok (.iload_n 1, 1) := by decide +kernel
theorem dX8_safe_36 : decode cX8_safe 36 = .ok (.invokevirtual 258, 3) := by decide +kernel
theorem dX8_safe_39 : decode cX8_safe 39 = .ok (.ifCond .eq 7, 3) := by decide +kernel
theorem dX8_safe_42 : decode cX8_safe 42 = .ok (.ldc_w 261, 3) := by decide +kernel
theorem dX8_safe_45 : decode cX8_safe 45 = .ok (.ireturn, 1) := by decide +kernel
theorem dX8_safe_46 : decode cX8_safe 46 = .ok (.iconst 0, 1) := by decide +kernel
theorem dX8_safe_47 : decode cX8_safe 47 = .ok (.istore 4, 2) := by decide +kernel
theorem dX8_safe_49 : decode cX8_safe 49 = .ok (.iconst 1, 1) := by decide +kernel
theorem dX8_safe_50 : decode cX8_safe 50 = .ok (.istore 5, 2) := by decide +kernel
theorem dX8_safe_52 : decode cX8_safe 52 = .ok (.iload 5, 2) := by decide +kernel
theorem dX8_safe_54 : decode cX8_safe 54 = .ok (.bipush 20, 2) := by decide +kernel
theorem dX8_safe_56 : decode cX8_safe 56 = .ok (.if_icmp .gt 32, 3) := by decide +kernel
theorem dX8_safe_59 : decode cX8_safe 59 = .ok (.aload_n 0, 1) := by decide +kernel
theorem dX8_safe_60 : decode cX8_safe 60 = .ok (.iload_n 1, 1) := by decide +kernel
theorem dX8_safe_61 : decode cX8_safe 61 = .ok (.iload_n 2, 1) := by decide +kernel
theorem dX8_safe_62 : decode cX8_safe 62 = .ok (.iload 5, 2) := by decide +kernel
theorem dX8_safe_64 : decode cX8_safe 64 = .ok (.iload_n 3, 1) := by decide +kernel
theorem dX8_safe_65 : decode cX8_safe 65 = .ok (.invokevirtual 294, 3) := by decide +kernel
theorem dX8_safe_68 : decode cX8_safe 68 = .ok (.ldc 61, 2) := by decide +kernel
theorem dX8_safe_70 : decode cX8_safe 70 = .ok (.if_icmp .eq 8, 3) := by decide +kernel
theorem dX8_safe_73 : decode cX8_safe 73 = .ok (.iload 5, 2) := by decide +kernel
theorem dX8_safe_75 : decode cX8_safe 75 = .ok (.goto 5, 3) := by decide +kernel
theorem dX8_safe_78 : decode cX8_safe 78 = .ok (.iload 4, 2) := by decide +kernel
theorem dX8_safe_80 : decode cX8_safe 80 = .ok (.istore 4, 2) := by decide +kernel
theorem dX8_safe_82 : decode cX8_safe 82 = .ok (.iinc 5 1, 3) := by decide +kernel
theorem dX8_safe_85 : decode cX8_safe 85 = .ok (.goto (-33), 3) := by decide +kernel
theorem dX8_safe_88 : decode cX8_safe 88 = .ok (.iload 4, 2) := by decide +kernel
theorem dX8_safe_90 : decode cX8_safe 90 = .ok (.ireturn, 1) := by decide +kernel
theorem dX8_bestAlone_0 : decode cX8_bestAlone 0 = .ok (.aload_n 0, 1) := by decide +kernel
theorem dX8_bestAlone_1 : decode cX8_bestAlone 1 = .ok (.iconst 0, 1) := by decide +kernel
theorem dX8_bestAlone_2 : decode cX8_bestAlone 2 = .ok (.putfield 79, 3) := by decide +kernel
theorem dX8_bestAlone_5 : decode cX8_bestAlone 5 = .ok (.aload_n 0, 1) := by decide +kernel
theorem dX8_bestAlone_6 : decode cX8_bestAlone 6 = .ok (.iload_n 1, 1) := by decide +kernel
theorem dX8_bestAlone_7 : decode cX8_bestAlone 7 = .ok (.invokevirtual 250, 3) := by decide +kernel
theorem dX8_bestAlone_10 : decode cX8_bestAlone 10 = .ok (.ifCond .eq 15, 3) := by decide +kernel
theorem dX8_bestAlone_13 : decode cX8_bestAlone 13 = .ok (.iload_n 2, 1) := by decide +kernel
theorem dX8_bestAlone_14 : decode cX8_bestAlone 14 = .ok (.i2l, 1) := by decide +kernel
theorem dX8_bestAlone_15 : decode cX8_bestAlone 15 = .ok (.lconst 0, 1) := by decide +kernel
theorem dX8_bestAlone_16 : decode cX8_bestAlone 16 = .ok (.ldc2_w 292, 3) := by decide +kernel
theorem dX8_bestAlone_19 : decode cX8_bestAlone 19 = .ok (.invokestatic 88, 3) := by decide +kernel
theorem dX8_bestAlone_22 : decode cX8_bestAlone 22 = .ok (.ifCond .ne 6, 3) := by decide +kernel
theorem dX8_bestAlone_25 : decode cX8_bestAlone 25 = .ok (.ldc 98, 2) := by decide +kernel
theorem dX8_bestAlone_27 : decode cX8_bestAlone 27 = .ok (.ireturn, 1) := by decide +kernel
theorem dX8_bestAlone_28 : decode cX8_bestAlone 28 = .ok (.aload_n 0, 1) := by decide +kernel
theorem dX8_bestAlone_29 : decode cX8_bestAlone 29 = .ok (.iload_n 1, 1) := by decide +kernel
theorem dX8_bestAlone_30 : decode cX8_bestAlone 30 = .ok (.invokevirtual 258, 3) := by decide +kernel
theorem dX8_bestAlone_33 : decode cX8_bestAlone 33 = .ok (.ifCond .eq 7, 3) := by decide +kernel
theorem dX8_bestAlone_36 : decode cX8_bestAlone 36 = .ok (.ldc_w 261, 3) := by decide +kernel
theorem dX8_bestAlone_39 : decode cX8_bestAlone 39 = .ok (.ireturn, 1) := by decide +kernel
theorem dX8_bestAlone_40 : decode cX8_bestAlone 40 = .ok (.ldc 61, 2) := by decide +kernel
theorem dX8_bestAlone_42 : decode cX8_bestAlone 42 = .ok (.istore_n 3, 1) := by decide +kernel
theorem dX8_bestAlone_43 : decode cX8_bestAlone 43 = .ok (.ldc 61, 2) := by decide +kernel
theorem dX8_bestAlone_45 : decode cX8_bestAlone 45 = .ok (.istore 4, 2) := by decide +kernel
theorem dX8_bestAlone_47 : decode cX8_bestAlone 47 = .ok (.iconst 0, 1) := by decide +kernel
theorem dX8_bestAlone_48 : decode cX8_bestAlone 48 = .ok (.istore 5, 2) := by decide +kernel
theorem dX8_bestAlone_50 : decode cX8_bestAlone 50 = .ok (.iload 5, 2) := by decide +kernel
theorem dX8_bestAlone_52 : decode cX8_bestAlone 52 = .ok (.bipush 40, 2) := by decide +kernel
theorem dX8_bestAlone_54 : decode cX8_bestAlone 54 = .ok (.aload_n 0, 1) := by decide +kernel
theorem dX8_bestAlone_55 : decode cX8_bestAlone 55 = .ok (.getfield 19, 3) := by decide +kernel
theorem dX8_bestAlone_58 : decode cX8_bestAlone 58 = .ok (.bipush 7, 2) := by decide +kernel
theorem dX8_bestAlone_60 : decode cX8_bestAlone 60 = .ok (.iaload, 1) := by decide +kernel
theorem dX8_bestAlone_61 : decode cX8_bestAlone 61 = .ok (.imul, 1) := by decide +kernel
theorem dX8_bestAlone_62 : decode cX8_bestAlone 62 = .ok (.if_icmp .ge 64, 3) := by decide +kernel
theorem dX8_bestAlone_65 : decode cX8_bestAlone 65 = .ok (.aload_n 0, 1) := by decide +kernel
theorem dX8_bestAlone_66 : decode cX8_bestAlone 66 = .ok (.iload_n 1, 1) := by decide +kernel
theorem dX8_bestAlone_67 : decode cX8_bestAlone 67 = .ok (.iload 5, 2) := by decide +kernel
theorem dX8_bestAlone_69 : decode cX8_bestAlone 69 = .ok (.bipush 40, 2) := by decide +kernel
theorem dX8_bestAlone_71 : decode cX8_bestAlone 71 = .ok (.idiv, 1) := by decide +kernel
theorem dX8_bestAlone_72 : decode cX8_bestAlone 72 = .ok (.iconst 1, 1) := by decide +kernel
theorem dX8_bestAlone_73 : decode cX8_bestAlone 73 = .ok (.iload 5, 2) := by decide +kernel
theorem dX8_bestAlone_75 : decode cX8_bestAlone 75 = .ok (.bipush 40, 2) := by decide +kernel
theorem dX8_bestAlone_77 : decode cX8_bestAlone 77 = .ok (.irem, 1) := by decide +kernel
theorem dX8_bestAlone_78 : decode cX8_bestAlone 78 = .ok (.iconst 2, 1) := by decide +kernel
theorem dX8_bestAlone_79 : decode cX8_bestAlone 79 = .ok (.idiv, 1) := by decide +kernel
theorem dX8_bestAlone_80 : decode cX8_bestAlone 80 = .ok (.iadd, 1) := by decide +kernel
theorem dX8_bestAlone_81 : decode cX8_bestAlone 81 = .ok (.iload 5, 2) := by decide +kernel
theorem dX8_bestAlone_83 : decode cX8_bestAlone 83 = .ok (.iconst 2, 1) := by decide +kernel
theorem dX8_bestAlone_84 : decode cX8_bestAlone 84 = .ok (.irem, 1) := by decide +kernel
theorem dX8_bestAlone_85 : decode cX8_bestAlone 85 = .ok (.invokevirtual 294, 3) := by decide +kernel
theorem dX8_bestAlone_88 : decode cX8_bestAlone 88 = .ok (.istore 6, 2) := by decide +kernel
theorem dX8_bestAlone_90 : decode cX8_bestAlone 90 = .ok (.iload 6, 2) := by decide +kernel
theorem dX8_bestAlone_92 : decode cX8_bestAlone 92 = .ok (.iload 4, 2) := by decide +kernel
theorem dX8_bestAlone_94 : decode cX8_bestAlone 94 = .ok (.if_icmp .le 8, 3) := by decide +kernel
theorem dX8_bestAlone_97 : decode cX8_bestAlone 97 = .ok (.iload 5, 2) := by decide +kernel
theorem dX8_bestAlone_99 : decode cX8_bestAlone 99 = .ok (.goto 4, 3) := by decide +kernel
theorem dX8_bestAlone_102 : decode cX8_bestAlone 102 = .ok (.iload_n 3, 1) := by decide +kernel
theorem dX8_bestAlone_103 : decode cX8_bestAlone 103 = .ok (.istore_n 3, 1) := by decide +kernel
theorem dX8_bestAlone_104 : decode cX8_bestAlone 104 = .ok (.iload 6, 2) := by decide +kernel
theorem dX8_bestAlone_106 : decode cX8_bestAlone 106 = .ok (.iload 4, 2) := by decide +kernel
theorem dX8_bestAlone_108 : decode cX8_bestAlone 108 = .ok (.if_icmp .le 8, 3) := by decide +kernel
theorem dX8_bestAlone_111 : decode cX8_bestAlone 111 = .ok (.iload 6, 2) := by decide +kernel
theorem dX8_bestAlone_113 : decode cX8_bestAlone 113 = .ok (.goto 5, 3) := by decide +kernel
theorem dX8_bestAlone_116 : decode cX8_bestAlone 116 = .ok (.iload 4, 2) := by decide +kernel
theorem dX8_bestAlone_118 : decode cX8_bestAlone 118 = .ok (.istore 4, 2) := by decide +kernel
theorem dX8_bestAlone_120 : decode cX8_bestAlone 120 = .ok (.iinc 5 1, 3) := by decide +kernel
theorem dX8_bestAlone_123 : decode cX8_bestAlone 123 = .ok (.goto (-73), 3) := by decide +kernel
theorem dX8_bestAlone_126 : decode cX8_bestAlone 126 = .ok (.iload_n 3, 1) := by decide +kernel
theorem dX8_bestAlone_127 : decode cX8_bestAlone 127 = .ok (.ldc 61, 2) := by decide +kernel
theorem dX8_bestAlone_129 : decode cX8_bestAlone 129 = .ok (.if_icmp .eq 8, 3) := by decide +kernel
theorem dX8_bestAlone_132 : decode cX8_bestAlone 132 = .ok (.iload_n 2, 1) := by decide +kernel
theorem dX8_bestAlone_133 : decode cX8_bestAlone 133 = .ok (.iconst 3, 1) := by decide +kernel
theorem dX8_bestAlone_134 : decode cX8_bestAlone 134 = .ok (.if_icmp .ne 6, 3) := by decide +kernel
theorem dX8_bestAlone_137 : decode cX8_bestAlone 137 = .ok (.iload 4, 2) := by decide +kernel
theorem dX8_bestAlone_139 : decode cX8_bestAlone 139 = .ok (.ireturn, 1) := by decide +kernel
theorem dX8_bestAlone_140 : decode cX8_bestAlone 140 = .ok (.iload_n 2, 1) := by decide +kernel
theorem dX8_bestAlone_141 : decode cX8_bestAlone 141 = .ok (.ifCond .ne 10, 3) := by decide +kernel
theorem dX8_bestAlone_144 : decode cX8_bestAlone 144 = .ok (.iload_n 3, 1) := by decide +kernel
theorem dX8_bestAlone_145 : decode cX8_bestAlone 145 = .ok (.bipush 40, 2) := by decide +kernel
theorem dX8_bestAlone_147 : decode cX8_bestAlone 147 = .ok (.idiv, 1) := by decide +kernel
theorem dX8_bestAlone_148 : decode cX8_bestAlone 148 = .ok (.goto 22, 3) := by decide +kernel
theorem dX8_bestAlone_151 : decode cX8_bestAlone 151 = .ok (.iload_n 2, 1) := by decide +kernel
theorem dX8_bestAlone_152 : decode cX8_bestAlone 152 = .ok (.iconst 1, 1) := by decide +kernel
theorem dX8_bestAlone_153 : decode cX8_bestAlone 153 = .ok (.if_icmp .ne 14, 3) := by decide +kernel
theorem dX8_bestAlone_156 : decode cX8_bestAlone 156 = .ok (.iconst 1, 1) := by decide +kernel
theorem dX8_bestAlone_157 : decode cX8_bestAlone 157 = .ok (.iload_n 3, 1) := by decide +kernel
theorem dX8_bestAlone_158 : decode cX8_bestAlone 158 = .ok (.bipush 40, 2) := by decide +kernel
theorem dX8_bestAlone_160 : decode cX8_bestAlone 160 = .ok (.irem, 1) := by decide +kernel
theorem dX8_bestAlone_161 : decode cX8_bestAlone 161 = .ok (.iconst 2, 1) := by decide +kernel
theorem dX8_bestAlone_162 : decode cX8_bestAlone 162 = .ok (.idiv, 1) := by decide +kernel
theorem dX8_bestAlone_163 : decode cX8_bestAlone 163 = .ok (.iadd, 1) := by decide +kernel
theorem dX8_bestAlone_164 : decode cX8_bestAlone 164 = .ok (.goto 6, 3) := by decide +kernel
theorem dX8_bestAlone_167 : decode cX8_bestAlone 167 = .ok (.iload_n 3, 1) := by decide +kernel
theorem dX8_bestAlone_168 : decode cX8_bestAlone 168 = .ok (.iconst 2, 1) := by decide +kernel
theorem dX8_bestAlone_169 : decode cX8_bestAlone 169 = .ok (.irem, 1) := by decide +kernel
theorem dX8_bestAlone_170 : decode cX8_bestAlone 170 = .ok (.ireturn, 1) := by decide +kernel
theorem dX8_watch_0 : decode cX8_watch 0 = .ok (.aload_n 0, 1) := by decide +kernel
theorem dX8_watch_1 : decode cX8_watch 1 = .ok (.iconst 0, 1) := by decide +kernel
theorem dX8_watch_2 : decode cX8_watch 2 = .ok (.putfield 79, 3) := by decide +kernel
theorem dX8_watch_5 : decode cX8_watch 5 = .ok (.aload_n 0, 1) := by decide +kernel
theorem dX8_watch_6 : decode cX8_watch 6 = .ok (.iload_n 1, 1) := by decide +kernel
theorem dX8_watch_7 : decode cX8_watch 7 = .ok (.invokevirtual 250, 3) := by decide +kernel
theorem dX8_watch_10 : decode cX8_watch 10 = .ok (.ifCond .ne 6, 3) := by decide +kernel
theorem dX8_watch_13 : decode cX8_watch 13 = .ok (.ldc 98, 2) := by decide +kernel
theorem dX8_watch_15 : decode cX8_watch 15 = .ok (.ireturn, 1) := by decide +kernel
theorem dX8_watch_16 : decode cX8_watch 16 = .ok (.aload_n 0, 1) := by decide +kernel
theorem dX8_watch_17 : decode cX8_watch 17 = .ok (.iload_n 1, 1) := by decide +kernel
theorem dX8_watch_18 : decode cX8_watch 18 = .ok (.iconst 2, 1) := by decide +kernel
theorem dX8_watch_19 : decode cX8_watch 19 = .ok (.invokevirtual 188, 3) := by decide +kernel
theorem dX8_watch_22 : decode cX8_watch 22 = .ok (.ifCond .ge 7, 3) := by decide +kernel
theorem dX8_watch_25 : decode cX8_watch 25 = .ok (.ldc_w 261, 3) := by decide +kernel
theorem dX8_watch_28 : decode cX8_watch 28 = .ok (.ireturn, 1) := by decide +kernel
theorem dX8_watch_29 : decode cX8_watch 29 = .ok (.aload_n 0, 1) := by decide +kernel
theorem dX8_watch_30 : decode cX8_watch 30 = .ok (.invokevirtual 271, 3) := by decide +kernel
theorem dX8_watch_33 : decode cX8_watch 33 = .ok (.istore_n 2, 1) := by decide +kernel
theorem dX8_watch_34 : decode cX8_watch 34 = .ok (.aload_n 0, 1) := by decide +kernel
theorem dX8_watch_35 : decode cX8_watch 35 = .ok (.invokevirtual 240, 3) := by decide +kernel
theorem dX8_watch_38 : decode cX8_watch 38 = .ok (.aload_n 0, 1) := by decide +kernel
theorem dX8_watch_39 : decode cX8_watch 39 = .ok (.getfield 31, 3) := by decide +kernel
theorem dX8_watch_42 : decode cX8_watch 42 = .ok (.iload_n 1, 1) := by decide +kernel
theorem dX8_watch_43 : decode cX8_watch 43 = .ok (.iconst (-1), 1) := by decide +kernel
theorem dX8_watch_44 : decode cX8_watch 44 = .ok (.iastore, 1) := by decide +kernel
theorem dX8_watch_45 : decode cX8_watch 45 = .ok (.aload_n 0, 1) := by decide +kernel
theorem dX8_watch_46 : decode cX8_watch 46 = .ok (.iload_n 1, 1) := by decide +kernel
theorem dX8_watch_47 : decode cX8_watch 47 = .ok (.putfield 62, 3) := by decide +kernel
theorem dX8_watch_50 : decode cX8_watch 50 = .ok (.aload_n 0, 1) := by decide +kernel
theorem dX8_watch_51 : decode cX8_watch 51 = .ok (.aload_n 0, 1) := by decide +kernel
theorem dX8_watch_52 : decode cX8_watch 52 = .ok (.invokevirtual 243, 3) := by decide +kernel
theorem dX8_watch_55 : decode cX8_watch 55 = .ok (.invokevirtual 247, 3) := by decide +kernel
theorem dX8_watch_58 : decode cX8_watch 58 = .ok (.istore_n 3, 1) := by decide +kernel
theorem dX8_watch_59 : decode cX8_watch 59 = .ok (.aload_n 0, 1) := by decide +kernel
theorem dX8_watch_60 : decode cX8_watch 60 = .ok (.ldc 61, 2) := by decide +kernel
theorem dX8_watch_62 : decode cX8_watch 62 = .ok (.putfield 62, 3) := by decide +kernel
theorem dX8_watch_65 : decode cX8_watch 65 = .ok (.iload_n 3, 1) := by decide +kernel
theorem dX8_watch_66 : decode cX8_watch 66 = .ok (.iload_n 2, 1) := by decide +kernel
theorem dX8_watch_67 : decode cX8_watch 67 = .ok (.isub, 1) := by decide +kernel
theorem dX8_watch_68 : decode cX8_watch 68 = .ok (.ireturn, 1) := by decide +kernel
theorem dX8_layValue_0 : decode cX8_layValue 0 = .ok (.lconst 1, 1) := by decide +kernel
theorem dX8_layValue_1 : decode cX8_layValue 1 = .ok (.lstore 4, 2) := by decide +kernel
theorem dX8_layValue_3 : decode cX8_layValue 3 = .ok (.iconst 0, 1) := by decide +kernel
theorem dX8_layValue_4 : decode cX8_layValue 4 = .ok (.istore 6, 2) := by decide +kernel
theorem dX8_layValue_6 : decode cX8_layValue 6 = .ok (.iconst 0, 1) := by decide +kernel
theorem dX8_layValue_7 : decode cX8_layValue 7 = .ok (.istore 7, 2) := by decide +kernel
theorem dX8_layValue_9 : decode cX8_layValue 9 = .ok (.iload 7, 2) := by decide +kernel
theorem dX8_layValue_11 : decode cX8_layValue 11 = .ok (.bipush 6, 2) := by decide +kernel
theorem dX8_layValue_13 : decode cX8_layValue 13 = .ok (.if_icmp .ge 51, 3) := by decide +kernel
theorem dX8_layValue_16 : decode cX8_layValue 16 = .ok (.lload 4, 2) := by decide +kernel
theorem dX8_layValue_18 : decode cX8_layValue 18 = .ok (.iload_n 3, 1) := by decide +kernel
theorem dX8_layValue_19 : decode cX8_layValue 19 = .ok (.iload 7, 2) := by decide +kernel
theorem dX8_layValue_21 : decode cX8_layValue 21 = .ok (.ishr, 1) := by decide +kernel
theorem dX8_layValue_22 : decode cX8_layValue 22 = .ok (.iconst 1, 1) := by decide +kernel
theorem dX8_layValue_23 : decode cX8_layValue 23 = .ok (.iand, 1) := by decide +kernel
theorem dX8_layValue_24 : decode cX8_layValue 24 = .ok (.iconst 1, 1) := by decide +kernel
theorem dX8_layValue_25 : decode cX8_layValue 25 = .ok (.if_icmp .ne 18, 3) := by decide +kernel
theorem dX8_layValue_28 : decode cX8_layValue 28 = .ok (.aload_n 0, 1) := by decide +kernel
theorem dX8_layValue_29 : decode cX8_layValue 29 = .ok (.getfield 16, 3) := by decide +kernel
theorem dX8_layValue_32 : decode cX8_layValue 32 = .ok (.iload_n 1, 1) := by decide +kernel
theorem dX8_layValue_33 : decode cX8_layValue 33 = .ok (.iload 7, 2) := by decide +kernel
theorem dX8_layValue_35 : decode cX8_layValue 35 = .ok (.iadd, 1) := by decide +kernel
theorem dX8_layValue_36 : decode cX8_layValue 36 = .ok (.iaload, 1) := by decide +kernel
theorem dX8_layValue_37 : decode cX8_layValue 37 = .ok (.iload_n 2, 1) := by decide +kernel
theorem dX8_layValue_38 : decode cX8_layValue 38 = .ok (.iadd, 1) := by decide +kernel
theorem dX8_layValue_39 : decode cX8_layValue 39 = .ok (.i2l, 1) := by decide +kernel
theorem dX8_layValue_40 : decode cX8_layValue 40 = .ok (.goto 4, 3) := by decide +kernel
theorem dX8_layValue_43 : decode cX8_layValue 43 = .ok (.lconst 1, 1) := by decide +kernel
theorem dX8_layValue_44 : decode cX8_layValue 44 = .ok (.lmul, 1) := by decide +kernel
theorem dX8_layValue_45 : decode cX8_layValue 45 = .ok (.lstore 4, 2) := by decide +kernel
theorem dX8_layValue_47 : decode cX8_layValue 47 = .ok (.iload 6, 2) := by decide +kernel
theorem dX8_layValue_49 : decode cX8_layValue 49 = .ok (.iload_n 3, 1) := by decide +kernel
theorem dX8_layValue_50 : decode cX8_layValue 50 = .ok (.iload 7, 2) := by decide +kernel
theorem dX8_layValue_52 : decode cX8_layValue 52 = .ok (.ishr, 1) := by decide +kernel
theorem dX8_layValue_53 : decode cX8_layValue 53 = .ok (.iconst 1, 1) := by decide +kernel
theorem dX8_layValue_54 : decode cX8_layValue 54 = .ok (.iand, 1) := by decide +kernel
theorem dX8_layValue_55 : decode cX8_layValue 55 = .ok (.iadd, 1) := by decide +kernel
theorem dX8_layValue_56 : decode cX8_layValue 56 = .ok (.istore 6, 2) := by decide +kernel
theorem dX8_layValue_58 : decode cX8_layValue 58 = .ok (.iinc 7 1, 3) := by decide +kernel
theorem dX8_layValue_61 : decode cX8_layValue 61 = .ok (.goto (-52), 3) := by decide +kernel
theorem dX8_layValue_64 : decode cX8_layValue 64 = .ok (.aload_n 0, 1) := by decide +kernel
theorem dX8_layValue_65 : decode cX8_layValue 65 = .ok (.iload_n 1, 1) := by decide +kernel
theorem dX8_layValue_66 : decode cX8_layValue 66 = .ok (.iload_n 2, 1) := by decide +kernel
theorem dX8_layValue_67 : decode cX8_layValue 67 = .ok (.iload_n 3, 1) := by decide +kernel
theorem dX8_layValue_68 : decode cX8_layValue 68 = .ok (.lload 4, 2) := by decide +kernel
theorem dX8_layValue_70 : decode cX8_layValue 70 = .ok (.invokevirtual 298, 3) := by decide +kernel
theorem dX8_layValue_73 : decode cX8_layValue 73 = .ok (.lstore 7, 2) := by decide +kernel
theorem dX8_layValue_75 : decode cX8_layValue 75 = .ok (.aload_n 0, 1) := by decide +kernel
theorem dX8_layValue_76 : decode cX8_layValue 76 = .ok (.iload 6, 2) := by decide +kernel
theorem dX8_layValue_78 : decode cX8_layValue 78 = .ok (.iconst 1, 1) := by decide +kernel
theorem dX8_layValue_79 : decode cX8_layValue 79 = .ok (.isub, 1) := by decide +kernel
theorem dX8_layValue_80 : decode cX8_layValue 80 = .ok (.i2l, 1) := by decide +kernel
theorem dX8_layValue_81 : decode cX8_layValue 81 = .ok (.lload 4, 2) := by decide +kernel
theorem dX8_layValue_83 : decode cX8_layValue 83 = .ok (.lmul, 1) := by decide +kernel
theorem dX8_layValue_84 : decode cX8_layValue 84 = .ok (.iload_n 2, 1) := by decide +kernel
theorem dX8_layValue_85 : decode cX8_layValue 85 = .ok (.i2l, 1) := by decide +kernel
theorem dX8_layValue_86 : decode cX8_layValue 86 = .ok (.lload 7, 2) := by decide +kernel
theorem dX8_layValue_88 : decode cX8_layValue 88 = .ok (.lmul, 1) := by decide +kernel
theorem dX8_layValue_89 : decode cX8_layValue 89 = .ok (.lsub, 1) := by decide +kernel
theorem dX8_layValue_90 : decode cX8_layValue 90 = .ok (.putfield 302, 3) := by decide +kernel
theorem dX8_layValue_93 : decode cX8_layValue 93 = .ok (.aload_n 0, 1) := by decide +kernel
theorem dX8_layValue_94 : decode cX8_layValue 94 = .ok (.lload 7, 2) := by decide +kernel
theorem dX8_layValue_96 : decode cX8_layValue 96 = .ok (.putfield 306, 3) := by decide +kernel
theorem dX8_layValue_99 : decode cX8_layValue 99 = .ok (.aload_n 0, 1) := by decide +kernel
theorem dX8_layValue_100 : decode cX8_layValue 100 = .ok (.getfield 302, 3) := by decide +kernel
theorem dX8_layValue_103 : decode cX8_layValue 103 = .ok (.aload_n 0, 1) := by decide +kernel
theorem dX8_layValue_104 : decode cX8_layValue 104 = .ok (.getfield 306, 3) := by decide +kernel
theorem dX8_layValue_107 : decode cX8_layValue 107 = .ok (.invokestatic 283, 3) := by decide +kernel
theorem dX8_layValue_110 : decode cX8_layValue 110 = .ok (.lstore 9, 2) := by decide +kernel
theorem dX8_layValue_112 : decode cX8_layValue 112 = .ok (.aload_n 0, 1) := by decide +kernel
theorem dX8_layValue_113 : decode cX8_layValue 113 = .ok (.dup, 1) := by decide +kernel
theorem dX8_layValue_114 : decode cX8_layValue 114 = .ok (.getfield 302, 3) := by decide +kernel
theorem dX8_layValue_117 : decode cX8_layValue 117 = .ok (.lload 9, 2) := by decide +kernel
theorem dX8_layValue_119 : decode cX8_layValue 119 = .ok (.ldiv, 1) := by decide +kernel
theorem dX8_layValue_120 : decode cX8_layValue 120 = .ok (.putfield 302, 3) := by decide +kernel
theorem dX8_layValue_123 : decode cX8_layValue 123 = .ok (.aload_n 0, 1) := by decide +kernel
theorem dX8_layValue_124 : decode cX8_layValue 124 = .ok (.dup, 1) := by decide +kernel
theorem dX8_layValue_125 : decode cX8_layValue 125 = .ok (.getfield 306, 3) := by decide +kernel
theorem dX8_layValue_128 : decode cX8_layValue 128 = .ok (.lload 9, 2) := by decide +kernel
theorem dX8_layValue_130 : decode cX8_layValue 130 = .ok (.ldiv, 1) := by decide +kernel
theorem dX8_layValue_131 : decode cX8_layValue 131 = .ok (.putfield 306, 3) := by decide +kernel
theorem dX8_layValue_134 : decode cX8_layValue 134 = .ok (.return_, 1) := by decide +kernel
theorem dX8_partsOf_0 : decode cX8_partsOf 0 = .ok (.lconst 0, 1) := by decide +kernel
theorem dX8_partsOf_1 : decode cX8_partsOf 1 = .ok (.lstore 6, 2) := by decide +kernel
theorem dX8_partsOf_3 : decode cX8_partsOf 3 = .ok (.iconst 0, 1) := by decide +kernel
theorem dX8_partsOf_4 : decode cX8_partsOf 4 = .ok (.istore 8, 2) := by decide +kernel
theorem dX8_partsOf_6 : decode cX8_partsOf 6 = .ok (.iload 8, 2) := by decide +kernel
theorem dX8_partsOf_8 : decode cX8_partsOf 8 = .ok (.bipush 6, 2) := by decide +kernel
theorem dX8_partsOf_10 : decode cX8_partsOf 10 = .ok (.if_icmp .ge 43, 3) := by decide +kernel
theorem dX8_partsOf_13 : decode cX8_partsOf 13 = .ok (.lload 6, 2) := by decide +kernel
theorem dX8_partsOf_15 : decode cX8_partsOf 15 = .ok (.iload_n 3, 1) := by decide +kernel
theorem dX8_partsOf_16 : decode cX8_partsOf 16 = .ok (.iload 8, 2) := by decide +kernel
theorem dX8_partsOf_18 : decode cX8_partsOf 18 = .ok (.ishr, 1) := by decide +kernel
theorem dX8_partsOf_19 : decode cX8_partsOf 19 = .ok (.iconst 1, 1) := by decide +kernel
theorem dX8_partsOf_20 : decode cX8_partsOf 20 = .ok (.iand, 1) := by decide +kernel
theorem dX8_partsOf_21 : decode cX8_partsOf 21 = .ok (.iconst 1, 1) := by decide +kernel
theorem dX8_partsOf_22 : decode cX8_partsOf 22 = .ok (.if_icmp .ne 21, 3) := by decide +kernel
theorem dX8_partsOf_25 : decode cX8_partsOf 25 = .ok (.lload 4, 2) := by decide +kernel
theorem dX8_partsOf_27 : decode cX8_partsOf 27 = .ok (.aload_n 0, 1) := by decide +kernel
theorem dX8_partsOf_28 : decode cX8_partsOf 28 = .ok (.getfield 16, 3) := by decide +kernel
theorem dX8_partsOf_31 : decode cX8_partsOf 31 = .ok (.iload_n 1, 1) := by decide +kernel
theorem dX8_partsOf_32 : decode cX8_partsOf 32 = .ok (.iload 8, 2) := by decide +kernel
theorem dX8_partsOf_34 : decode cX8_partsOf 34 = .ok (.iadd, 1) := by decide +kernel
theorem dX8_partsOf_35 : decode cX8_partsOf 35 = .ok (.iaload, 1) := by decide +kernel
theorem dX8_partsOf_36 : decode cX8_partsOf 36 = .ok (.iload_n 2, 1) := by decide +kernel
theorem dX8_partsOf_37 : decode cX8_partsOf 37 = .ok (.iadd, 1) := by decide +kernel
theorem dX8_partsOf_38 : decode cX8_partsOf 38 = .ok (.i2l, 1) := by decide +kernel
theorem dX8_partsOf_39 : decode cX8_partsOf 39 = .ok (.ldiv, 1) := by decide +kernel
theorem dX8_partsOf_40 : decode cX8_partsOf 40 = .ok (.goto 4, 3) := by decide +kernel
theorem dX8_partsOf_43 : decode cX8_partsOf 43 = .ok (.lconst 0, 1) := by decide +kernel
theorem dX8_partsOf_44 : decode cX8_partsOf 44 = .ok (.ladd, 1) := by decide +kernel
theorem dX8_partsOf_45 : decode cX8_partsOf 45 = .ok (.lstore 6, 2) := by decide +kernel
theorem dX8_partsOf_47 : decode cX8_partsOf 47 = .ok (.iinc 8 1, 3) := by decide +kernel
theorem dX8_partsOf_50 : decode cX8_partsOf 50 = .ok (.goto (-44), 3) := by decide +kernel
theorem dX8_partsOf_53 : decode cX8_partsOf 53 = .ok (.lload 6, 2) := by decide +kernel
theorem dX8_partsOf_55 : decode cX8_partsOf 55 = .ok (.lreturn, 1) := by decide +kernel
theorem dX8_bestDays_0 : decode cX8_bestDays 0 = .ok (.iconst 0, 1) := by decide +kernel
theorem dX8_bestDays_1 : decode cX8_bestDays 1 = .ok (.istore_n 3, 1) := by decide +kernel
theorem dX8_bestDays_2 : decode cX8_bestDays 2 = .ok (.lconst 0, 1) := by decide +kernel
theorem dX8_bestDays_3 : decode cX8_bestDays 3 = .ok (.lstore 4, 2) := by decide +kernel
theorem dX8_bestDays_5 : decode cX8_bestDays 5 = .ok (.lconst 1, 1) := by decide +kernel
theorem dX8_bestDays_6 : decode cX8_bestDays 6 = .ok (.lstore 6, 2) := by decide +kernel
theorem dX8_bestDays_8 : decode cX8_bestDays 8 = .ok (.iconst 1, 1) := by decide +kernel
theorem dX8_bestDays_9 : decode cX8_bestDays 9 = .ok (.istore 8, 2) := by decide +kernel
theorem dX8_bestDays_11 : decode cX8_bestDays 11 = .ok (.iload 8, 2) := by decide +kernel
theorem dX8_bestDays_13 : decode cX8_bestDays 13 = .ok (.bipush 64, 2) := by decide +kernel
theorem dX8_bestDays_15 : decode cX8_bestDays 15 = .ok (.if_icmp .ge 54, 3) := by decide +kernel
theorem dX8_bestDays_18 : decode cX8_bestDays 18 = .ok (.aload_n 0, 1) := by decide +kernel
theorem dX8_bestDays_19 : decode cX8_bestDays 19 = .ok (.iload_n 1, 1) := by decide +kernel
theorem dX8_bestDays_20 : decode cX8_bestDays 20 = .ok (.iload_n 2, 1) := by decide +kernel
theorem dX8_bestDays_21 : decode cX8_bestDays 21 = .ok (.iload 8, 2) := by decide +kernel
theorem dX8_bestDays_23 : decode cX8_bestDays 23 = .ok (.invokevirtual 309, 3) := by decide +kernel
theorem dX8_bestDays_26 : decode cX8_bestDays 26 = .ok (.iload_n 3, 1) := by decide +kernel
theorem dX8_bestDays_27 : decode cX8_bestDays 27 = .ok (.ifCond .eq 21, 3) := by decide +kernel
theorem dX8_bestDays_30 : decode cX8_bestDays 30 = .ok (.aload_n 0, 1) := by decide +kernel
theorem dX8_bestDays_31 : decode cX8_bestDays 31 = .ok (.getfield 302, 3) := by decide +kernel
theorem dX8_bestDays_34 : decode cX8_bestDays 34 = .ok (.lload 6, 2) := by decide +kernel
theorem dX8_bestDays_36 : decode cX8_bestDays 36 = .ok (.lmul, 1) := by decide +kernel
theorem dX8_bestDays_37 : decode cX8_bestDays 37 = .ok (.lload 4, 2) := by decide +kernel
theorem dX8_bestDays_39 : decode cX8_bestDays 39 = .ok (.aload_n 0, 1) := by decide +kernel
theorem dX8_bestDays_40 : decode cX8_bestDays 40 = .ok (.getfield 306, 3) := by decide +kernel
theorem dX8_bestDays_43 : decode cX8_bestDays 43 = .ok (.lmul, 1) := by decide +kernel
theorem dX8_bestDays_44 : decode cX8_bestDays 44 = .ok (.lcmp, 1) := by decide +kernel
theorem dX8_bestDays_45 : decode cX8_bestDays 45 = .ok (.ifCond .le 18, 3) := by decide +kernel
theorem dX8_bestDays_48 : decode cX8_bestDays 48 = .ok (.iload 8, 2) := by decide +kernel
theorem dX8_bestDays_50 : decode cX8_bestDays 50 = .ok (.istore_n 3, 1) := by decide +kernel
theorem dX8_bestDays_51 : decode cX8_bestDays 51 = .ok (.aload_n 0, 1) := by decide +kernel
theorem dX8_bestDays_52 : decode cX8_bestDays 52 = .ok (.getfield 302, 3) := by decide +kernel
theorem dX8_bestDays_55 : decode cX8_bestDays 55 = .ok (.lstore 4, 2) := by decide +kernel
theorem dX8_bestDays_57 : decode cX8_bestDays 57 = .ok (.aload_n 0, 1) := by decide +kernel
theorem dX8_bestDays_58 : decode cX8_bestDays 58 = .ok (.getfield 306, 3) := by decide +kernel
theorem dX8_bestDays_61 : decode cX8_bestDays 61 = .ok (.lstore 6, 2) := by decide +kernel
theorem dX8_bestDays_63 : decode cX8_bestDays 63 = .ok (.iinc 8 1, 3) := by decide +kernel
theorem dX8_bestDays_66 : decode cX8_bestDays 66 = .ok (.goto (-55), 3) := by decide +kernel
theorem dX8_bestDays_69 : decode cX8_bestDays 69 = .ok (.iload_n 3, 1) := by decide +kernel
theorem dX8_bestDays_70 : decode cX8_bestDays 70 = .ok (.ireturn, 1) := by decide +kernel
theorem dX8_noDays_0 : decode cX8_noDays 0 = .ok (.aload_n 0, 1) := by decide +kernel
theorem dX8_noDays_1 : decode cX8_noDays 1 = .ok (.getfield 7, 3) := by decide +kernel
theorem dX8_noDays_4 : decode cX8_noDays 4 = .ok (.iload_n 1, 1) := by decide +kernel
theorem dX8_noDays_5 : decode cX8_noDays 5 = .ok (.iaload, 1) := by decide +kernel
theorem dX8_noDays_6 : decode cX8_noDays 6 = .ok (.ifCond .ge 9, 3) := by decide +kernel
theorem dX8_noDays_9 : decode cX8_noDays 9 = .ok (.aload_n 0, 1) := by decide +kernel
theorem dX8_noDays_10 : decode cX8_noDays 10 = .ok (.iconst 1, 1) := by decide +kernel
theorem dX8_noDays_11 : decode cX8_noDays 11 = .ok (.invokevirtual 99, 3) := by decide +kernel
theorem dX8_noDays_14 : decode cX8_noDays 14 = .ok (.ireturn, 1) := by decide +kernel
theorem dX8_noDays_15 : decode cX8_noDays 15 = .ok (.iload_n 2, 1) := by decide +kernel
theorem dX8_noDays_16 : decode cX8_noDays 16 = .ok (.ifCond .lt 20, 3) := by decide +kernel
theorem dX8_noDays_19 : decode cX8_noDays 19 = .ok (.iload_n 2, 1) := by decide +kernel
theorem dX8_noDays_20 : decode cX8_noDays 20 = .ok (.i2l, 1) := by decide +kernel
theorem dX8_noDays_21 : decode cX8_noDays 21 = .ok (.ldc2_w 313, 3) := by decide +kernel
theorem dX8_noDays_24 : decode cX8_noDays 24 = .ok (.ladd, 1) := by decide +kernel
theorem dX8_noDays_25 : decode cX8_noDays 25 = .ok (.aload_n 0, 1) := by decide +kernel
theorem dX8_noDays_26 : decode cX8_noDays 26 = .ok (.getfield 13, 3) := by decide +kernel
theorem dX8_noDays_29 : decode cX8_noDays 29 = .ok (.iload_n 1, 1) := by decide +kernel
theorem dX8_noDays_30 : decode cX8_noDays 30 = .ok (.iaload, 1) := by decide +kernel
theorem dX8_noDays_31 : decode cX8_noDays 31 = .ok (.i2l, 1) := by decide +kernel
theorem dX8_noDays_32 : decode cX8_noDays 32 = .ok (.lcmp, 1) := by decide +kernel
theorem dX8_noDays_33 : decode cX8_noDays 33 = .ok (.ifCond .le 9, 3) := by decide +kernel
theorem dX8_noDays_36 : decode cX8_noDays 36 = .ok (.aload_n 0, 1) := by decide +kernel
theorem dX8_noDays_37 : decode cX8_noDays 37 = .ok (.iconst 2, 1) := by decide +kernel
theorem dX8_noDays_38 : decode cX8_noDays 38 = .ok (.invokevirtual 99, 3) := by decide +kernel
theorem dX8_noDays_41 : decode cX8_noDays 41 = .ok (.ireturn, 1) := by decide +kernel
theorem dX8_noDays_42 : decode cX8_noDays 42 = .ok (.iconst 0, 1) := by decide +kernel
theorem dX8_noDays_43 : decode cX8_noDays 43 = .ok (.istore_n 3, 1) := by decide +kernel
theorem dX8_noDays_44 : decode cX8_noDays 44 = .ok (.iload_n 3, 1) := by decide +kernel
theorem dX8_noDays_45 : decode cX8_noDays 45 = .ok (.bipush 6, 2) := by decide +kernel
theorem dX8_noDays_47 : decode cX8_noDays 47 = .ok (.if_icmp .ge 36, 3) := by decide +kernel
theorem dX8_noDays_50 : decode cX8_noDays 50 = .ok (.aload_n 0, 1) := by decide +kernel
theorem dX8_noDays_51 : decode cX8_noDays 51 = .ok (.getfield 16, 3) := by decide +kernel
theorem dX8_noDays_54 : decode cX8_noDays 54 = .ok (.bipush 40, 2) := by decide +kernel
theorem dX8_noDays_56 : decode cX8_noDays 56 = .ok (.iload_n 1, 1) := by decide +kernel
theorem dX8_noDays_57 : decode cX8_noDays 57 = .ok (.imul, 1) := by decide +kernel
theorem dX8_noDays_58 : decode cX8_noDays 58 = .ok (.iload_n 2, 1) := by decide +kernel
theorem dX8_noDays_59 : decode cX8_noDays 59 = .ok (.iadd, 1) := by decide +kernel
theorem dX8_noDays_60 : decode cX8_noDays 60 = .ok (.iload_n 3, 1) := by decide +kernel
theorem dX8_noDays_61 : decode cX8_noDays 61 = .ok (.iadd, 1) := by decide +kernel
theorem dX8_noDays_62 : decode cX8_noDays 62 = .ok (.iaload, 1) := by decide +kernel
theorem dX8_noDays_63 : decode cX8_noDays 63 = .ok (.i2l, 1) := by decide +kernel
theorem dX8_noDays_64 : decode cX8_noDays 64 = .ok (.lconst 0, 1) := by decide +kernel
theorem dX8_noDays_65 : decode cX8_noDays 65 = .ok (.ldc2_w 256, 3) := by decide +kernel
theorem dX8_noDays_68 : decode cX8_noDays 68 = .ok (.invokestatic 88, 3) := by decide +kernel
theorem dX8_noDays_71 : decode cX8_noDays 71 = .ok (.ifCond .ne 6, 3) := by decide +kernel
theorem dX8_noDays_74 : decode cX8_noDays 74 = .ok (.ldc 98, 2) := by decide +kernel
theorem dX8_noDays_76 : decode cX8_noDays 76 = .ok (.ireturn, 1) := by decide +kernel
theorem dX8_noDays_77 : decode cX8_noDays 77 = .ok (.iinc 3 1, 3) := by decide +kernel
theorem dX8_noDays_80 : decode cX8_noDays 80 = .ok (.goto (-36), 3) := by decide +kernel
theorem dX8_noDays_83 : decode cX8_noDays 83 = .ok (.aload_n 0, 1) := by decide +kernel
theorem dX8_noDays_84 : decode cX8_noDays 84 = .ok (.iconst 0, 1) := by decide +kernel
theorem dX8_noDays_85 : decode cX8_noDays 85 = .ok (.putfield 82, 3) := by decide +kernel
theorem dX8_noDays_88 : decode cX8_noDays 88 = .ok (.iconst 0, 1) := by decide +kernel
theorem dX8_noDays_89 : decode cX8_noDays 89 = .ok (.ireturn, 1) := by decide +kernel
theorem dX8_days_0 : decode cX8_days 0 = .ok (.aload_n 0, 1) := by decide +kernel
theorem dX8_days_1 : decode cX8_days 1 = .ok (.iconst 0, 1) := by decide +kernel
theorem dX8_days_2 : decode cX8_days 2 = .ok (.putfield 79, 3) := by decide +kernel
theorem dX8_days_5 : decode cX8_days 5 = .ok (.iload_n 1, 1) := by decide +kernel
theorem dX8_days_6 : decode cX8_days 6 = .ok (.invokestatic 92, 3) := by decide +kernel
theorem dX8_days_9 : decode cX8_days 9 = .ok (.ifCond .eq 15, 3) := by decide +kernel
theorem dX8_days_12 : decode cX8_days 12 = .ok (.iload_n 3, 1) := by decide +kernel
theorem dX8_days_13 : decode cX8_days 13 = .ok (.i2l, 1) := by decide +kernel
theorem dX8_days_14 : decode cX8_days 14 = .ok (.lconst 1, 1) := by decide +kernel
theorem dX8_days_15 : decode cX8_days 15 = .ok (.ldc2_w 256, 3) := by decide +kernel
theorem dX8_days_18 : decode cX8_days 18 = .ok (.invokestatic 88, 3) := by decide +kernel
theorem dX8_days_21 : decode cX8_days 21 = .ok (.ifCond .ne 6, 3) := by decide +kernel
theorem dX8_days_24 : decode cX8_days 24 = .ok (.ldc 98, 2) := by decide +kernel
theorem dX8_days_26 : decode cX8_days 26 = .ok (.ireturn, 1) := by decide +kernel
theorem dX8_days_27 : decode cX8_days 27 = .ok (.aload_n 0, 1) := by decide +kernel
theorem dX8_days_28 : decode cX8_days 28 = .ok (.iload_n 1, 1) := by decide +kernel
theorem dX8_days_29 : decode cX8_days 29 = .ok (.iload_n 2, 1) := by decide +kernel
theorem dX8_days_30 : decode cX8_days 30 = .ok (.invokevirtual 315, 3) := by decide +kernel
theorem dX8_days_33 : decode cX8_days 33 = .ok (.istore 4, 2) := by decide +kernel
theorem dX8_days_35 : decode cX8_days 35 = .ok (.iload 4, 2) := by decide +kernel
theorem dX8_days_37 : decode cX8_days 37 = .ok (.ifCond .ge 8, 3) := by decide +kernel
theorem dX8_days_40 : decode cX8_days 40 = .ok (.iload 4, 2) := by decide +kernel
theorem dX8_days_42 : decode cX8_days 42 = .ok (.goto 14, 3) := by decide +kernel
theorem dX8_days_45 : decode cX8_days 45 = .ok (.aload_n 0, 1) := by decide +kernel
theorem dX8_days_46 : decode cX8_days 46 = .ok (.bipush 40, 2) := by decide +kernel
theorem dX8_days_48 : decode cX8_days 48 = .ok (.iload_n 1, 1) := by decide +kernel
theorem dX8_days_49 : decode cX8_days 49 = .ok (.imul, 1) := by decide +kernel
theorem dX8_days_50 : decode cX8_days 50 = .ok (.iload_n 2, 1) := by decide +kernel
theorem dX8_days_51 : decode cX8_days 51 = .ok (.iadd, 1) := by decide +kernel
theorem dX8_days_52 : decode cX8_days 52 = .ok (.iload_n 3, 1) := by decide +kernel
theorem dX8_days_53 : decode cX8_days 53 = .ok (.invokevirtual 318, 3) := by decide +kernel
theorem dX8_days_56 : decode cX8_days 56 = .ok (.ireturn, 1) := by decide +kernel
theorem dX8_daysValue_0 : decode cX8_daysValue 0 = .ok (.aload_n 0, 1) := by decide +kernel
theorem dX8_daysValue_1 : decode cX8_daysValue 1 = .ok (.iconst 0, 1) := by decide +kernel
theorem dX8_daysValue_2 : decode cX8_daysValue 2 = .ok (.putfield 79, 3) := by decide +kernel
theorem dX8_daysValue_5 : decode cX8_daysValue 5 = .ok (.iload_n 1, 1) := by decide +kernel
theorem dX8_daysValue_6 : decode cX8_daysValue 6 = .ok (.invokestatic 92, 3) := by decide +kernel
theorem dX8_daysValue_9 : decode cX8_daysValue 9 = .ok (.ifCond .eq 41, 3) := by decide +kernel
theorem dX8_daysValue_12 : decode cX8_daysValue 12 = .ok (.iload_n 3, 1) := by decide +kernel
theorem dX8_daysValue_13 : decode cX8_daysValue 13 = .ok (.i2l, 1) := by decide +kernel
theorem dX8_daysValue_14 : decode cX8_daysValue 14 = .ok (.lconst 1, 1) := by decide +kernel
theorem dX8_daysValue_15 : decode cX8_daysValue 15 = .ok (.ldc2_w 256, 3) := by decide +kernel
theorem dX8_daysValue_18 : decode cX8_daysValue 18 = .ok (.invokestatic 88, 3) := by decide +kernel
theorem dX8_daysValue_21 : decode cX8_daysValue 21 = .ok (.ifCond .eq 29, 3) := by decide +kernel
theorem dX8_daysValue_24 : decode cX8_daysValue 24 = .ok (.iload 4, 2) := by decide +kernel
theorem dX8_daysValue_26 : decode cX8_daysValue 26 = .ok (.i2l, 1) := by decide +kernel
theorem dX8_daysValue_27 : decode cX8_daysValue 27 = .ok (.ldc2_w 321, 3) := by decide +kernel
theorem dX8_daysValue_30 : decode cX8_daysValue 30 = .ok (.ldc2_w 323, 3) := by decide +kernel
theorem dX8_daysValue_33 : decode cX8_daysValue 33 = .ok (.invokestatic 88, 3) := by decide +kernel
theorem dX8_daysValue_36 : decode cX8_daysValue 36 = .ok (.ifCond .eq 14, 3) := by decide +kernel
theorem dX8_daysValue_39 : decode cX8_daysValue 39 = .ok (.iload 5, 2) := by decide +kernel
theorem dX8_daysValue_41 : decode cX8_daysValue 41 = .ok (.i2l, 1) := by decide +kernel
theorem dX8_daysValue_42 : decode cX8_daysValue 42 = .ok (.lconst 0, 1) := by decide +kernel
theorem dX8_daysValue_43 : decode cX8_daysValue 43 = .ok (.lconst 1, 1) := by decide +kernel
theorem dX8_daysValue_44 : decode cX8_daysValue 44 = .ok (.invokestatic 88, 3) := by decide +kernel
theorem dX8_daysValue_47 : decode cX8_daysValue 47 = .ok (.ifCond .ne 7, 3) := by decide +kernel
theorem dX8_daysValue_50 : decode cX8_daysValue 50 = .ok (.ldc2_w 325, 3) := by decide +kernel
theorem dX8_daysValue_53 : decode cX8_daysValue 53 = .ok (.lreturn, 1) := by decide +kernel
theorem dX8_daysValue_54 : decode cX8_daysValue 54 = .ok (.aload_n 0, 1) := by decide +kernel
theorem dX8_daysValue_55 : decode cX8_daysValue 55 = .ok (.iload_n 1, 1) := by decide +kernel
theorem dX8_daysValue_56 : decode cX8_daysValue 56 = .ok (.iload_n 2, 1) := by decide +kernel
theorem dX8_daysValue_57 : decode cX8_daysValue 57 = .ok (.invokevirtual 315, 3) := by decide +kernel
theorem dX8_daysValue_60 : decode cX8_daysValue 60 = .ok (.istore 6, 2) := by decide +kernel
theorem dX8_daysValue_62 : decode cX8_daysValue 62 = .ok (.iload 6, 2) := by decide +kernel
theorem dX8_daysValue_64 : decode cX8_daysValue 64 = .ok (.ifCond .ge 7, 3) := by decide +kernel
theorem dX8_daysValue_67 : decode cX8_daysValue 67 = .ok (.iload 6, 2) := by decide +kernel
theorem dX8_daysValue_69 : decode cX8_daysValue 69 = .ok (.i2l, 1) := by decide +kernel
theorem dX8_daysValue_70 : decode cX8_daysValue 70 = .ok (.lreturn, 1) := by decide +kernel
theorem dX8_daysValue_71 : decode cX8_daysValue 71 = .ok (.bipush 40, 2) := by decide +kernel
theorem dX8_daysValue_73 : decode cX8_daysValue 73 = .ok (.iload_n 1, 1) := by decide +kernel
theorem dX8_daysValue_74 : decode cX8_daysValue 74 = .ok (.imul, 1) := by decide +kernel
theorem dX8_daysValue_75 : decode cX8_daysValue 75 = .ok (.iload_n 2, 1) := by decide +kernel
theorem dX8_daysValue_76 : decode cX8_daysValue 76 = .ok (.iadd, 1) := by decide +kernel
theorem dX8_daysValue_77 : decode cX8_daysValue 77 = .ok (.istore 7, 2) := by decide +kernel
theorem dX8_daysValue_79 : decode cX8_daysValue 79 = .ok (.aload_n 0, 1) := by decide +kernel
theorem dX8_daysValue_80 : decode cX8_daysValue 80 = .ok (.iload 7, 2) := by decide +kernel
theorem dX8_daysValue_82 : decode cX8_daysValue 82 = .ok (.iload_n 3, 1) := by decide +kernel
theorem dX8_daysValue_83 : decode cX8_daysValue 83 = .ok (.invokevirtual 318, 3) := by decide +kernel
theorem dX8_daysValue_86 : decode cX8_daysValue 86 = .ok (.istore 8, 2) := by decide +kernel
theorem dX8_daysValue_88 : decode cX8_daysValue 88 = .ok (.iload 4, 2) := by decide +kernel
theorem dX8_daysValue_90 : decode cX8_daysValue 90 = .ok (.ifCond .ge 29, 3) := by decide +kernel
theorem dX8_daysValue_93 : decode cX8_daysValue 93 = .ok (.aload_n 0, 1) := by decide +kernel
theorem dX8_daysValue_94 : decode cX8_daysValue 94 = .ok (.iload 7, 2) := by decide +kernel
theorem dX8_daysValue_96 : decode cX8_daysValue 96 = .ok (.iload_n 3, 1) := by decide +kernel
theorem dX8_daysValue_97 : decode cX8_daysValue 97 = .ok (.iload 8, 2) := by decide +kernel
theorem dX8_daysValue_99 : decode cX8_daysValue 99 = .ok (.invokevirtual 309, 3) := by decide +kernel
theorem dX8_daysValue_102 : decode cX8_daysValue 102 = .ok (.iload 5, 2) := by decide +kernel
theorem dX8_daysValue_104 : decode cX8_daysValue 104 = .ok (.ifCond .ne 10, 3) := by decide +kernel
theorem dX8_daysValue_107 : decode cX8_daysValue 107 = .ok (.aload_n 0, 1) := by decide +kernel
theorem dX8_daysValue_108 : decode cX8_daysValue 108 = .ok (.getfield 302, 3) := by decide +kernel
theorem dX8_daysValue_111 : decode cX8_daysValue 111 = .ok (.goto 7, 3) := by decide +kernel
theorem dX8_daysValue_114 : decode cX8_daysValue 114 = .ok (.aload_n 0, 1) := by decide +kernel
theorem dX8_daysValue_115 : decode cX8_daysValue 115 = .ok (.getfield 306, 3) := by decide +kernel
theorem dX8_daysValue_118 : decode cX8_daysValue 118 = .ok (.lreturn, 1) := by decide +kernel
theorem dX8_daysValue_119 : decode cX8_daysValue 119 = .ok (.iload 8, 2) := by decide +kernel
theorem dX8_daysValue_121 : decode cX8_daysValue 121 = .ok (.iload 4, 2) := by decide +kernel
theorem dX8_daysValue_123 : decode cX8_daysValue 123 = .ok (.ishr, 1) := by decide +kernel
theorem dX8_daysValue_124 : decode cX8_daysValue 124 = .ok (.iconst 1, 1) := by decide +kernel
theorem dX8_daysValue_125 : decode cX8_daysValue 125 = .ok (.iand, 1) := by decide +kernel
theorem dX8_daysValue_126 : decode cX8_daysValue 126 = .ok (.ifCond .ne 7, 3) := by decide +kernel
theorem dX8_daysValue_129 : decode cX8_daysValue 129 = .ok (.iload 5, 2) := by decide +kernel
theorem dX8_daysValue_131 : decode cX8_daysValue 131 = .ok (.i2l, 1) := by decide +kernel
theorem dX8_daysValue_132 : decode cX8_daysValue 132 = .ok (.lreturn, 1) := by decide +kernel
theorem dX8_daysValue_133 : decode cX8_daysValue 133 = .ok (.lconst 1, 1) := by decide +kernel
theorem dX8_daysValue_134 : decode cX8_daysValue 134 = .ok (.lstore 9, 2) := by decide +kernel
theorem dX8_daysValue_136 : decode cX8_daysValue 136 = .ok (.iconst 0, 1) := by decide +kernel
theorem dX8_daysValue_137 : decode cX8_daysValue 137 = .ok (.istore 11, 2) := by decide +kernel
theorem dX8_daysValue_139 : decode cX8_daysValue 139 = .ok (.iload 11, 2) := by decide +kernel
theorem dX8_daysValue_141 : decode cX8_daysValue 141 = .ok (.bipush 6, 2) := by decide +kernel
theorem dX8_daysValue_143 : decode cX8_daysValue 143 = .ok (.if_icmp .ge 42, 3) := by decide +kernel
theorem dX8_daysValue_146 : decode cX8_daysValue 146 = .ok (.lload 9, 2) := by decide +kernel
theorem dX8_daysValue_148 : decode cX8_daysValue 148 = .ok (.iload 8, 2) := by decide +kernel
theorem dX8_daysValue_150 : decode cX8_daysValue 150 = .ok (.iload 11, 2) := by decide +kernel
theorem dX8_daysValue_152 : decode cX8_daysValue 152 = .ok (.ishr, 1) := by decide +kernel
theorem dX8_daysValue_153 : decode cX8_daysValue 153 = .ok (.iconst 1, 1) := by decide +kernel
theorem dX8_daysValue_154 : decode cX8_daysValue 154 = .ok (.iand, 1) := by decide +kernel
theorem dX8_daysValue_155 : decode cX8_daysValue 155 = .ok (.iconst 1, 1) := by decide +kernel
theorem dX8_daysValue_156 : decode cX8_daysValue 156 = .ok (.if_icmp .ne 19, 3) := by decide +kernel
theorem dX8_daysValue_159 : decode cX8_daysValue 159 = .ok (.aload_n 0, 1) := by decide +kernel
theorem dX8_daysValue_160 : decode cX8_daysValue 160 = .ok (.getfield 16, 3) := by decide +kernel
theorem dX8_daysValue_163 : decode cX8_daysValue 163 = .ok (.iload 7, 2) := by decide +kernel
theorem dX8_daysValue_165 : decode cX8_daysValue 165 = .ok (.iload 11, 2) := by decide +kernel
theorem dX8_daysValue_167 : decode cX8_daysValue 167 = .ok (.iadd, 1) := by decide +kernel
theorem dX8_daysValue_168 : decode cX8_daysValue 168 = .ok (.iaload, 1) := by decide +kernel
theorem dX8_daysValue_169 : decode cX8_daysValue 169 = .ok (.iload_n 3, 1) := by decide +kernel
theorem dX8_daysValue_170 : decode cX8_daysValue 170 = .ok (.iadd, 1) := by decide +kernel
theorem dX8_daysValue_171 : decode cX8_daysValue 171 = .ok (.i2l, 1) := by decide +kernel
theorem dX8_daysValue_172 : decode cX8_daysValue 172 = .ok (.goto 4, 3) := by decide +kernel
theorem dX8_daysValue_175 : decode cX8_daysValue 175 = .ok (.lconst 1, 1) := by decide +kernel
theorem dX8_daysValue_176 : decode cX8_daysValue 176 = .ok (.lmul, 1) := by decide +kernel
theorem dX8_daysValue_177 : decode cX8_daysValue 177 = .ok (.lstore 9, 2) := by decide +kernel
theorem dX8_daysValue_179 : decode cX8_daysValue 179 = .ok (.iinc 11 1, 3) := by decide +kernel
theorem dX8_daysValue_182 : decode cX8_daysValue 182 = .ok (.goto (-43), 3) := by decide +kernel
theorem dX8_daysValue_185 : decode cX8_daysValue 185 = .ok (.lload 9, 2) := by decide +kernel
theorem dX8_daysValue_187 : decode cX8_daysValue 187 = .ok (.aload_n 0, 1) := by decide +kernel
theorem dX8_daysValue_188 : decode cX8_daysValue 188 = .ok (.getfield 16, 3) := by decide +kernel
theorem dX8_daysValue_191 : decode cX8_daysValue 191 = .ok (.iload 7, 2) := by decide +kernel
theorem dX8_daysValue_193 : decode cX8_daysValue 193 = .ok (.iload 4, 2) := by decide +kernel
theorem dX8_daysValue_195 : decode cX8_daysValue 195 = .ok (.iadd, 1) := by decide +kernel
theorem dX8_daysValue_196 : decode cX8_daysValue 196 = .ok (.iaload, 1) := by decide +kernel
theorem dX8_daysValue_197 : decode cX8_daysValue 197 = .ok (.iload_n 3, 1) := by decide +kernel
theorem dX8_daysValue_198 : decode cX8_daysValue 198 = .ok (.iadd, 1) := by decide +kernel
theorem dX8_daysValue_199 : decode cX8_daysValue 199 = .ok (.i2l, 1) := by decide +kernel
theorem dX8_daysValue_200 : decode cX8_daysValue 200 = .ok (.ldiv, 1) := by decide +kernel
theorem dX8_daysValue_201 : decode cX8_daysValue 201 = .ok (.lstore 11, 2) := by decide +kernel
theorem dX8_daysValue_203 : decode cX8_daysValue 203 = .ok (.aload_n 0, 1) := by decide +kernel
theorem dX8_daysValue_204 : decode cX8_daysValue 204 = .ok (.iload 7, 2) := by decide +kernel
theorem dX8_daysValue_206 : decode cX8_daysValue 206 = .ok (.iload_n 3, 1) := by decide +kernel
theorem dX8_daysValue_207 : decode cX8_daysValue 207 = .ok (.iload 8, 2) := by decide +kernel
theorem dX8_daysValue_209 : decode cX8_daysValue 209 = .ok (.lload 9, 2) := by decide +kernel
theorem dX8_daysValue_211 : decode cX8_daysValue 211 = .ok (.invokevirtual 298, 3) := by decide +kernel
theorem dX8_daysValue_214 : decode cX8_daysValue 214 = .ok (.lstore 13, 2) := by decide +kernel
theorem dX8_daysValue_216 : decode cX8_daysValue 216 = .ok (.iload 5, 2) := by decide +kernel
theorem dX8_daysValue_218 : decode cX8_daysValue 218 = .ok (.ifCond .ne 8, 3) := by decide +kernel
theorem dX8_daysValue_221 : decode cX8_daysValue 221 = .ok (.lload 11, 2) := by decide +kernel
theorem dX8_daysValue_223 : decode cX8_daysValue 223 = .ok (.goto 5, 3) := by decide +kernel
theorem dX8_daysValue_226 : decode cX8_daysValue 226 = .ok (.lload 13, 2) := by decide +kernel
theorem dX8_daysValue_228 : decode cX8_daysValue 228 = .ok (.lload 11, 2) := by decide +kernel
theorem dX8_daysValue_230 : decode cX8_daysValue 230 = .ok (.lload 13, 2) := by decide +kernel
theorem dX8_daysValue_232 : decode cX8_daysValue 232 = .ok (.invokestatic 283, 3) := by decide +kernel
theorem dX8_daysValue_235 : decode cX8_daysValue 235 = .ok (.ldiv, 1) := by decide +kernel
theorem dX8_daysValue_236 : decode cX8_daysValue 236 = .ok (.lreturn, 1) := by decide +kernel
theorem dX8_shares_0 : decode cX8_shares 0 = .ok (.aload_n 0, 1) := by decide +kernel
theorem dX8_shares_1 : decode cX8_shares 1 = .ok (.iconst 0, 1) := by decide +kernel
theorem dX8_shares_2 : decode cX8_shares 2 = .ok (.putfield 79, 3) := by decide +kernel
theorem dX8_shares_5 : decode cX8_shares 5 = .ok (.aload_n 0, 1) := by decide +kernel
theorem dX8_shares_6 : decode cX8_shares 6 = .ok (.invokevirtual 265, 3) := by decide +kernel
theorem dX8_shares_9 : decode cX8_shares 9 = .ok (.ifCond .ne 7, 3) := by decide +kernel
theorem dX8_shares_12 : decode cX8_shares 12 = .ok (.ldc_w 261, 3) := by decide +kernel
theorem dX8_shares_15 : decode cX8_shares 15 = .ok (.ireturn, 1) := by decide +kernel
theorem dX8_shares_16 : decode cX8_shares 16 = .ok (.iload_n 1, 1) := by decide +kernel
theorem dX8_shares_17 : decode cX8_shares 17 = .ok (.invokestatic 92, 3) := by decide +kernel
theorem dX8_shares_20 : decode cX8_shares 20 = .ok (.ifCond .ne 6, 3) := by decide +kernel
theorem dX8_shares_23 : decode cX8_shares 23 = .ok (.ldc 98, 2) := by decide +kernel
theorem dX8_shares_25 : decode cX8_shares 25 = .ok (.ireturn, 1) := by decide +kernel
theorem dX8_shares_26 : decode cX8_shares 26 = .ok (.aload_n 0, 1) := by decide +kernel
theorem dX8_shares_27 : decode cX8_shares 27 = .ok (.getfield 7, 3) := by decide +kernel
theorem dX8_shares_30 : decode cX8_shares 30 = .ok (.iload_n 1, 1) := by decide +kernel
theorem dX8_shares_31 : decode cX8_shares 31 = .ok (.iaload, 1) := by decide +kernel
theorem dX8_shares_32 : decode cX8_shares 32 = .ok (.ifCond .ge 9, 3) := by decide +kernel
theorem dX8_shares_35 : decode cX8_shares 35 = .ok (.aload_n 0, 1) := by decide +kernel
theorem dX8_shares_36 : decode cX8_shares 36 = .ok (.iconst 1, 1) := by decide +kernel
theorem dX8_shares_37 : decode cX8_shares 37 = .ok (.invokevirtual 99, 3) := by decide +kernel
theorem dX8_shares_40 : decode cX8_shares 40 = .ok (.ireturn, 1) := by decide +kernel
theorem dX8_shares_41 : decode cX8_shares 41 = .ok (.iload_n 2, 1) := by decide +kernel
theorem dX8_shares_42 : decode cX8_shares 42 = .ok (.ifCond .lt 25, 3) := by decide +kernel
theorem dX8_shares_45 : decode cX8_shares 45 = .ok (.iload_n 2, 1) := by decide +kernel
theorem dX8_shares_46 : decode cX8_shares 46 = .ok (.i2l, 1) := by decide +kernel
theorem dX8_shares_47 : decode cX8_shares 47 = .ok (.aload_n 0, 1) := by decide +kernel
theorem dX8_shares_48 : decode cX8_shares 48 = .ok (.getfield 19, 3) := by decide +kernel
theorem dX8_shares_51 : decode cX8_shares 51 = .ok (.bipush 8, 2) := by decide +kernel
theorem dX8_shares_53 : decode cX8_shares 53 = .ok (.iaload, 1) := by decide +kernel
theorem dX8_shares_54 : decode cX8_shares 54 = .ok (.i2l, 1) := by decide +kernel
theorem dX8_shares_55 : decode cX8_shares 55 = .ok (.ladd, 1) := by decide +kernel
theorem dX8_shares_56 : decode cX8_shares 56 = .ok (.aload_n 0, 1) := by decide +kernel
theorem dX8_shares_57 : decode cX8_shares 57 = .ok (.getfield 13, 3) := by decide +kernel
theorem dX8_shares_60 : decode cX8_shares 60 = .ok (.iload_n 1, 1) := by decide +kernel
theorem dX8_shares_61 : decode cX8_shares 61 = .ok (.iaload, 1) := by decide +kernel
theorem dX8_shares_62 : decode cX8_shares 62 = .ok (.i2l, 1) := by decide +kernel
theorem dX8_shares_63 : decode cX8_shares 63 = .ok (.lcmp, 1) := by decide +kernel
theorem dX8_shares_64 : decode cX8_shares 64 = .ok (.ifCond .le 9, 3) := by decide +kernel
theorem dX8_shares_67 : decode cX8_shares 67 = .ok (.aload_n 0, 1) := by decide +kernel
theorem dX8_shares_68 : decode cX8_shares 68 = .ok (.iconst 2, 1) := by decide +kernel
theorem dX8_shares_69 : decode cX8_shares 69 = .ok (.invokevirtual 99, 3) := by decide +kernel
theorem dX8_shares_72 : decode cX8_shares 72 = .ok (.ireturn, 1) := by decide +kernel
theorem dX8_shares_73 : decode cX8_shares 73 = .ok (.aload_n 0, 1) := by decide +kernel
theorem dX8_shares_74 : decode cX8_shares 74 = .ok (.iconst 0, 1) := by decide +kernel
theorem dX8_shares_75 : decode cX8_shares 75 = .ok (.putfield 82, 3) := by decide +kernel
theorem dX8_shares_78 : decode cX8_shares 78 = .ok (.bipush 40, 2) := by decide +kernel
theorem dX8_shares_80 : decode cX8_shares 80 = .ok (.iload_n 1, 1) := by decide +kernel
theorem dX8_shares_81 : decode cX8_shares 81 = .ok (.imul, 1) := by decide +kernel
theorem dX8_shares_82 : decode cX8_shares 82 = .ok (.iload_n 2, 1) := by decide +kernel
theorem dX8_shares_83 : decode cX8_shares 83 = .ok (.iadd, 1) := by decide +kernel
theorem dX8_shares_84 : decode cX8_shares 84 = .ok (.istore_n 3, 1) := by decide +kernel
theorem dX8_shares_85 : decode cX8_shares 85 = .ok (.lconst 0, 1) := by decide +kernel
theorem dX8_shares_86 : decode cX8_shares 86 = .ok (.lstore 4, 2) := by decide +kernel
theorem dX8_shares_88 : decode cX8_shares 88 = .ok (.iconst 0, 1) := by decide +kernel
theorem dX8_shares_89 : decode cX8_shares 89 = .ok (.istore 6, 2) := by decide +kernel
theorem dX8_shares_91 : decode cX8_shares 91 = .ok (.iload 6, 2) := by decide +kernel
theorem dX8_shares_93 : decode cX8_shares 93 = .ok (.aload_n 0, 1) := by decide +kernel
theorem dX8_shares_94 : decode cX8_shares 94 = .ok (.getfield 19, 3) := by decide +kernel
theorem dX8_shares_97 : decode cX8_shares 97 = .ok (.bipush 8, 2) := by decide +kernel
theorem dX8_shares_99 : decode cX8_shares 99 = .ok (.iaload, 1) := by decide +kernel
theorem dX8_shares_100 : decode cX8_shares 100 = .ok (.if_icmp .ge 24, 3) := by decide +kernel
theorem dX8_shares_103 : decode cX8_shares 103 = .ok (.lload 4, 2) := by decide +kernel
theorem dX8_shares_105 : decode cX8_shares 105 = .ok (.aload_n 0, 1) := by decide +kernel
theorem dX8_shares_106 : decode cX8_shares 106 = .ok (.getfield 16, 3) := by decide +kernel
theorem dX8_shares_109 : decode cX8_shares 109 = .ok (.iload_n 3, 1) := by decide +kernel
theorem dX8_shares_110 : decode cX8_shares 110 = .ok (.iload 6, 2) := by decide +kernel
theorem dX8_shares_112 : decode cX8_shares 112 = .ok (.iadd, 1) := by decide +kernel
theorem dX8_shares_113 : decode cX8_shares 113 = .ok (.iaload, 1) := by decide +kernel
theorem dX8_shares_114 : decode cX8_shares 114 = .ok (.i2l, 1) := by decide +kernel
theorem dX8_shares_115 : decode cX8_shares 115 = .ok (.ladd, 1) := by decide +kernel
theorem dX8_shares_116 : decode cX8_shares 116 = .ok (.lstore 4, 2) := by decide +kernel
theorem dX8_shares_118 : decode cX8_shares 118 = .ok (.iinc 6 1, 3) := by decide +kernel
theorem dX8_shares_121 : decode cX8_shares 121 = .ok (.goto (-30), 3) := by decide +kernel
theorem dX8_shares_124 : decode cX8_shares 124 = .ok (.lload 4, 2) := by decide +kernel
theorem dX8_shares_126 : decode cX8_shares 126 = .ok (.aload_n 0, 1) := by decide +kernel
theorem dX8_shares_127 : decode cX8_shares 127 = .ok (.invokevirtual 271, 3) := by decide +kernel
theorem dX8_shares_130 : decode cX8_shares 130 = .ok (.i2l, 1) := by decide +kernel
theorem dX8_shares_131 : decode cX8_shares 131 = .ok (.lcmp, 1) := by decide +kernel
theorem dX8_shares_132 : decode cX8_shares 132 = .ok (.ifCond .eq 6, 3) := by decide +kernel
theorem dX8_shares_135 : decode cX8_shares 135 = .ok (.ldc 61, 2) := by decide +kernel
theorem dX8_shares_137 : decode cX8_shares 137 = .ok (.ireturn, 1) := by decide +kernel
theorem dX8_shares_138 : decode cX8_shares 138 = .ok (.iconst 1, 1) := by decide +kernel
theorem dX8_shares_139 : decode cX8_shares 139 = .ok (.istore 6, 2) := by decide +kernel
theorem dX8_shares_141 : decode cX8_shares 141 = .ok (.iload 6, 2) := by decide +kernel
theorem dX8_shares_143 : decode cX8_shares 143 = .ok (.aload_n 0, 1) := by decide +kernel
theorem dX8_shares_144 : decode cX8_shares 144 = .ok (.invokevirtual 243, 3) := by decide +kernel
theorem dX8_shares_147 : decode cX8_shares 147 = .ok (.if_icmp .gt 83, 3) := by decide +kernel
theorem dX8_shares_150 : decode cX8_shares 150 = .ok (.lconst 0, 1) := by decide +kernel
theorem dX8_shares_151 : decode cX8_shares 151 = .ok (.lstore 7, 2) := by decide +kernel
theorem dX8_shares_153 : decode cX8_shares 153 = .ok (.iconst 0, 1) := by decide +kernel
theorem dX8_shares_154 : decode cX8_shares 154 = .ok (.istore 9, 2) := by decide +kernel
theorem dX8_shares_156 : decode cX8_shares 156 = .ok (.iload 9, 2) := by decide +kernel
theorem dX8_shares_158 : decode cX8_shares 158 = .ok (.aload_n 0, 1) := by decide +kernel
theorem dX8_shares_159 : decode cX8_shares 159 = .ok (.getfield 19, 3) := by decide +kernel
theorem dX8_shares_162 : decode cX8_shares 162 = .ok (.bipush 8, 2) := by decide +kernel
theorem dX8_shares_164 : decode cX8_shares 164 = .ok (.iaload, 1) := by decide +kernel
theorem dX8_shares_165 : decode cX8_shares 165 = .ok (.if_icmp .ge 39, 3) := by decide +kernel
theorem dX8_shares_168 : decode cX8_shares 168 = .ok (.lload 7, 2) := by decide +kernel
theorem dX8_shares_170 : decode cX8_shares 170 = .ok (.iload 6, 2) := by decide +kernel
theorem dX8_shares_172 : decode cX8_shares 172 = .ok (.iload 9, 2) := by decide +kernel
theorem dX8_shares_174 : decode cX8_shares 174 = .ok (.ishr, 1) := by decide +kernel
theorem dX8_shares_175 : decode cX8_shares 175 = .ok (.iconst 1, 1) := by decide +kernel
theorem dX8_shares_176 : decode cX8_shares 176 = .ok (.iand, 1) := by decide +kernel
theorem dX8_shares_177 : decode cX8_shares 177 = .ok (.iconst 1, 1) := by decide +kernel
theorem dX8_shares_178 : decode cX8_shares 178 = .ok (.if_icmp .ne 16, 3) := by decide +kernel
theorem dX8_shares_181 : decode cX8_shares 181 = .ok (.aload_n 0, 1) := by decide +kernel
theorem dX8_shares_182 : decode cX8_shares 182 = .ok (.getfield 16, 3) := by decide +kernel
theorem dX8_shares_185 : decode cX8_shares 185 = .ok (.iload_n 3, 1) := by decide +kernel
theorem dX8_shares_186 : decode cX8_shares 186 = .ok (.iload 9, 2) := by decide +kernel
theorem dX8_shares_188 : decode cX8_shares 188 = .ok (.iadd, 1) := by decide +kernel
theorem dX8_shares_189 : decode cX8_shares 189 = .ok (.iaload, 1) := by decide +kernel
theorem dX8_shares_190 : decode cX8_shares 190 = .ok (.i2l, 1) := by decide +kernel
theorem dX8_shares_191 : decode cX8_shares 191 = .ok (.goto 4, 3) := by decide +kernel
theorem dX8_shares_194 : decode cX8_shares 194 = .ok (.lconst 0, 1) := by decide +kernel
theorem dX8_shares_195 : decode cX8_shares 195 = .ok (.ladd, 1) := by decide +kernel
theorem dX8_shares_196 : decode cX8_shares 196 = .ok (.lstore 7, 2) := by decide +kernel
theorem dX8_shares_198 : decode cX8_shares 198 = .ok (.iinc 9 1, 3) := by decide +kernel
theorem dX8_shares_201 : decode cX8_shares 201 = .ok (.goto (-45), 3) := by decide +kernel
theorem dX8_shares_204 : decode cX8_shares 204 = .ok (.aload_n 0, 1) := by decide +kernel
theorem dX8_shares_205 : decode cX8_shares 205 = .ok (.invokevirtual 240, 3) := by decide +kernel
theorem dX8_shares_208 : decode cX8_shares 208 = .ok (.aload_n 0, 1) := by decide +kernel
theorem dX8_shares_209 : decode cX8_shares 209 = .ok (.iload 6, 2) := by decide +kernel
theorem dX8_shares_211 : decode cX8_shares 211 = .ok (.invokevirtual 247, 3) := by decide +kernel
theorem dX8_shares_214 : decode cX8_shares 214 = .ok (.i2l, 1) := by decide +kernel
theorem dX8_shares_215 : decode cX8_shares 215 = .ok (.lload 7, 2) := by decide +kernel
theorem dX8_shares_217 : decode cX8_shares 217 = .ok (.lcmp, 1) := by decide +kernel
theorem dX8_shares_218 : decode cX8_shares 218 = .ok (.ifCond .le 6, 3) := by decide +kernel
theorem dX8_shares_221 : decode cX8_shares 221 = .ok (.iload 6, 2) := by decide +kernel
theorem dX8_shares_223 : decode cX8_shares 223 = .ok (.ireturn, 1) := by decide +kernel
theorem dX8_shares_224 : decode cX8_shares 224 = .ok (.iinc 6 1, 3) := by decide +kernel
theorem dX8_shares_227 : decode cX8_shares 227 = .ok (.goto (-86), 3) := by decide +kernel
theorem dX8_shares_230 : decode cX8_shares 230 = .ok (.iconst 0, 1) := by decide +kernel
theorem dX8_shares_231 : decode cX8_shares 231 = .ok (.ireturn, 1) := by decide +kernel
end
section
theorem dX8_bare_0 : decode cX8_bare 0 = .ok (.aload_n 0, 1) := by decide +kernel
theorem dX8_bare_1 : decode cX8_bare 1 = .ok (.iconst 0, 1) := by decide +kernel
theorem dX8_bare_2 : decode cX8_bare 2 = .ok (.putfield 79, 3) := by decide +kernel
theorem dX8_bare_5 : decode cX8_bare 5 = .ok (.aload_n 0, 1) := by decide +kernel
theorem dX8_bare_6 : decode cX8_bare 6 = .ok (.invokevirtual 265, 3) := by decide +kernel
theorem dX8_bare_9 : decode cX8_bare 9 = .ok (.ifCond .ne 7, 3) := by decide +kernel
theorem dX8_bare_12 : decode cX8_bare 12 = .ok (.ldc_w 261, 3) := by decide +kernel
theorem dX8_bare_15 : decode cX8_bare 15 = .ok (.ireturn, 1) := by decide +kernel
theorem dX8_bare_16 : decode cX8_bare 16 = .ok (.iload_n 1, 1) := by decide +kernel
theorem dX8_bare_17 : decode cX8_bare 17 = .ok (.i2l, 1) := by decide +kernel
theorem dX8_bare_18 : decode cX8_bare 18 = .ok (.lconst 0, 1) := by decide +kernel
theorem dX8_bare_19 : decode cX8_bare 19 = .ok (.lconst 1, 1) := by decide +kernel
theorem dX8_bare_20 : decode cX8_bare 20 = .ok (.invokestatic 88, 3) := by decide +kernel
theorem dX8_bare_23 : decode cX8_bare 23 = .ok (.ifCond .ne 6, 3) := by decide +kernel
theorem dX8_bare_26 : decode cX8_bare 26 = .ok (.ldc 98, 2) := by decide +kernel
theorem dX8_bare_28 : decode cX8_bare 28 = .ok (.ireturn, 1) := by decide +kernel
theorem dX8_bare_29 : decode cX8_bare 29 = .ok (.aload_n 0, 1) := by decide +kernel
theorem dX8_bare_30 : decode cX8_bare 30 = .ok (.invokevirtual 240, 3) := by decide +kernel
theorem dX8_bare_33 : decode cX8_bare 33 = .ok (.iconst 0, 1) := by decide +kernel
theorem dX8_bare_34 : decode cX8_bare 34 = .ok (.istore_n 2, 1) := by decide +kernel
theorem dX8_bare_35 : decode cX8_bare 35 = .ok (.iconst 0, 1) := by decide +kernel
theorem dX8_bare_36 : decode cX8_bare 36 = .ok (.istore_n 3, 1) := by decide +kernel
theorem dX8_bare_37 : decode cX8_bare 37 = .ok (.iload_n 3, 1) := by decide +kernel
theorem dX8_bare_38 : decode cX8_bare 38 = .ok (.bipush 40, 2) := by decide +kernel
theorem dX8_bare_40 : decode cX8_bare 40 = .ok (.if_icmp .gt 39, 3) := by decide +kernel
theorem dX8_bare_43 : decode cX8_bare 43 = .ok (.aload_n 0, 1) := by decide +kernel
theorem dX8_bare_44 : decode cX8_bare 44 = .ok (.aload_n 0, 1) := by decide +kernel
theorem dX8_bare_45 : decode cX8_bare 45 = .ok (.invokevirtual 243, 3) := by decide +kernel
theorem dX8_bare_48 : decode cX8_bare 48 = .ok (.invokevirtual 247, 3) := by decide +kernel
theorem dX8_bare_51 : decode cX8_bare 51 = .ok (.istore 4, 2) := by decide +kernel
theorem dX8_bare_53 : decode cX8_bare 53 = .ok (.iload 4, 2) := by decide +kernel
theorem dX8_bare_55 : decode cX8_bare 55 = .ok (.ifCond .ne 13, 3) := by decide +kernel
theorem dX8_bare_58 : decode cX8_bare 58 = .ok (.iload_n 1, 1) := by decide +kernel
theorem dX8_bare_59 : decode cX8_bare 59 = .ok (.ifCond .ne 7, 3) := by decide +kernel
theorem dX8_bare_62 : decode cX8_bare 62 = .ok (.iload_n 3, 1) := by decide +kernel
theorem dX8_bare_63 : decode cX8_bare 63 = .ok (.goto 4, 3) := by decide +kernel
theorem dX8_bare_66 : decode cX8_bare 66 = .ok (.iload_n 2, 1) := by decide +kernel
theorem dX8_bare_67 : decode cX8_bare 67 = .ok (.ireturn, 1) := by decide +kernel
theorem dX8_bare_68 : decode cX8_bare 68 = .ok (.iload_n 2, 1) := by decide +kernel
theorem dX8_bare_69 : decode cX8_bare 69 = .ok (.iload 4, 2) := by decide +kernel
theorem dX8_bare_71 : decode cX8_bare 71 = .ok (.iadd, 1) := by decide +kernel
theorem dX8_bare_72 : decode cX8_bare 72 = .ok (.istore_n 2, 1) := by decide +kernel
theorem dX8_bare_73 : decode cX8_bare 73 = .ok (.iinc 3 1, 3) := by decide +kernel
theorem dX8_bare_76 : decode cX8_bare 76 = .ok (.goto (-39), 3) := by decide +kernel
theorem dX8_bare_79 : decode cX8_bare 79 = .ok (.ldc 61, 2) := by decide +kernel
theorem dX8_bare_81 : decode cX8_bare 81 = .ok (.ireturn, 1) := by decide +kernel
theorem dX8_who_0 : decode cX8_who 0 = .ok (.aload_n 0, 1) := by decide +kernel
theorem dX8_who_1 : decode cX8_who 1 = .ok (.iconst 0, 1) := by decide +kernel
theorem dX8_who_2 : decode cX8_who 2 = .ok (.putfield 79, 3) := by decide +kernel
theorem dX8_who_5 : decode cX8_who 5 = .ok (.aload_n 0, 1) := by decide +kernel
theorem dX8_who_6 : decode cX8_who 6 = .ok (.invokevirtual 265, 3) := by decide +kernel
theorem dX8_who_9 : decode cX8_who 9 = .ok (.ifCond .ne 7, 3) := by decide +kernel
theorem dX8_who_12 : decode cX8_who 12 = .ok (.ldc_w 261, 3) := by decide +kernel
theorem dX8_who_15 : decode cX8_who 15 = .ok (.ireturn, 1) := by decide +kernel
theorem dX8_who_16 : decode cX8_who 16 = .ok (.iload_n 1, 1) := by decide +kernel
theorem dX8_who_17 : decode cX8_who 17 = .ok (.invokestatic 92, 3) := by decide +kernel
theorem dX8_who_20 : decode cX8_who 20 = .ok (.ifCond .eq 13, 3) := by decide +kernel
theorem dX8_who_23 : decode cX8_who 23 = .ok (.iload_n 3, 1) := by decide +kernel
theorem dX8_who_24 : decode cX8_who 24 = .ok (.i2l, 1) := by decide +kernel
theorem dX8_who_25 : decode cX8_who 25 = .ok (.lconst 0, 1) := by decide +kernel
theorem dX8_who_26 : decode cX8_who 26 = .ok (.lconst 1, 1) := by decide +kernel
theorem dX8_who_27 : decode cX8_who 27 = .ok (.invokestatic 88, 3) := by decide +kernel
theorem dX8_who_30 : decode cX8_who 30 = .ok (.ifCond .ne 6, 3) := by decide +kernel
theorem dX8_who_33 : decode cX8_who 33 = .ok (.ldc 98, 2) := by decide +kernel
theorem dX8_who_35 : decode cX8_who 35 = .ok (.ireturn, 1) := by decide +kernel
theorem dX8_who_36 : decode cX8_who 36 = .ok (.aload_n 0, 1) := by decide +kernel
theorem dX8_who_37 : decode cX8_who 37 = .ok (.getfield 7, 3) := by decide +kernel
theorem dX8_who_40 : decode cX8_who 40 = .ok (.iload_n 1, 1) := by decide +kernel
theorem dX8_who_41 : decode cX8_who 41 = .ok (.iaload, 1) := by decide +kernel
theorem dX8_who_42 : decode cX8_who 42 = .ok (.ifCond .ge 9, 3) := by decide +kernel
theorem dX8_who_45 : decode cX8_who 45 = .ok (.aload_n 0, 1) := by decide +kernel
theorem dX8_who_46 : decode cX8_who 46 = .ok (.iconst 1, 1) := by decide +kernel
theorem dX8_who_47 : decode cX8_who 47 = .ok (.invokevirtual 99, 3) := by decide +kernel
theorem dX8_who_50 : decode cX8_who 50 = .ok (.ireturn, 1) := by decide +kernel
theorem dX8_who_51 : decode cX8_who 51 = .ok (.iload_n 2, 1) := by decide +kernel
theorem dX8_who_52 : decode cX8_who 52 = .ok (.ifCond .lt 25, 3) := by decide +kernel
theorem dX8_who_55 : decode cX8_who 55 = .ok (.iload_n 2, 1) := by decide +kernel
theorem dX8_who_56 : decode cX8_who 56 = .ok (.i2l, 1) := by decide +kernel
theorem dX8_who_57 : decode cX8_who 57 = .ok (.aload_n 0, 1) := by decide +kernel
theorem dX8_who_58 : decode cX8_who 58 = .ok (.getfield 19, 3) := by decide +kernel
theorem dX8_who_61 : decode cX8_who 61 = .ok (.bipush 7, 2) := by decide +kernel
theorem dX8_who_63 : decode cX8_who 63 = .ok (.iaload, 1) := by decide +kernel
theorem dX8_who_64 : decode cX8_who 64 = .ok (.i2l, 1) := by decide +kernel
theorem dX8_who_65 : decode cX8_who 65 = .ok (.ladd, 1) := by decide +kernel
theorem dX8_who_66 : decode cX8_who 66 = .ok (.aload_n 0, 1) := by decide +kernel
theorem dX8_who_67 : decode cX8_who 67 = .ok (.getfield 13, 3) := by decide +kernel
theorem dX8_who_70 : decode cX8_who 70 = .ok (.iload_n 1, 1) := by decide +kernel
theorem dX8_who_71 : decode cX8_who 71 = .ok (.iaload, 1) := by decide +kernel
theorem dX8_who_72 : decode cX8_who 72 = .ok (.i2l, 1) := by decide +kernel
theorem dX8_who_73 : decode cX8_who 73 = .ok (.lcmp, 1) := by decide +kernel
theorem dX8_who_74 : decode cX8_who 74 = .ok (.ifCond .le 9, 3) := by decide +kernel
theorem dX8_who_77 : decode cX8_who 77 = .ok (.aload_n 0, 1) := by decide +kernel
theorem dX8_who_78 : decode cX8_who 78 = .ok (.iconst 2, 1) := by decide +kernel
theorem dX8_who_79 : decode cX8_who 79 = .ok (.invokevirtual 99, 3) := by decide +kernel
theorem dX8_who_82 : decode cX8_who 82 = .ok (.ireturn, 1) := by decide +kernel
theorem dX8_who_83 : decode cX8_who 83 = .ok (.aload_n 0, 1) := by decide +kernel
theorem dX8_who_84 : decode cX8_who 84 = .ok (.iconst 0, 1) := by decide +kernel
theorem dX8_who_85 : decode cX8_who 85 = .ok (.putfield 82, 3) := by decide +kernel
theorem dX8_who_88 : decode cX8_who 88 = .ok (.iconst 0, 1) := by decide +kernel
theorem dX8_who_89 : decode cX8_who 89 = .ok (.istore 4, 2) := by decide +kernel
theorem dX8_who_91 : decode cX8_who 91 = .ok (.ldc 61, 2) := by decide +kernel
theorem dX8_who_93 : decode cX8_who 93 = .ok (.istore 5, 2) := by decide +kernel
theorem dX8_who_95 : decode cX8_who 95 = .ok (.aload_n 0, 1) := by decide +kernel
theorem dX8_who_96 : decode cX8_who 96 = .ok (.invokevirtual 243, 3) := by decide +kernel
theorem dX8_who_99 : decode cX8_who 99 = .ok (.istore 6, 2) := by decide +kernel
theorem dX8_who_101 : decode cX8_who 101 = .ok (.iload 6, 2) := by decide +kernel
theorem dX8_who_103 : decode cX8_who 103 = .ok (.ifCond .le 146, 3) := by decide +kernel
theorem dX8_who_106 : decode cX8_who 106 = .ok (.iload 6, 2) := by decide +kernel
theorem dX8_who_108 : decode cX8_who 108 = .ok (.aload_n 0, 1) := by decide +kernel
theorem dX8_who_109 : decode cX8_who 109 = .ok (.invokevirtual 268, 3) := by decide +kernel
theorem dX8_who_112 : decode cX8_who 112 = .ok (.iconst (-1), 1) := by decide +kernel
theorem dX8_who_113 : decode cX8_who 113 = .ok (.ixor, 1) := by decide +kernel
theorem dX8_who_114 : decode cX8_who 114 = .ok (.iand, 1) := by decide +kernel
theorem dX8_who_115 : decode cX8_who 115 = .ok (.ifCond .ne 128, 3) := by decide +kernel
theorem dX8_who_118 : decode cX8_who 118 = .ok (.aload_n 0, 1) := by decide +kernel
theorem dX8_who_119 : decode cX8_who 119 = .ok (.invokevirtual 240, 3) := by decide +kernel
theorem dX8_who_122 : decode cX8_who 122 = .ok (.aload_n 0, 1) := by decide +kernel
theorem dX8_who_123 : decode cX8_who 123 = .ok (.iload 6, 2) := by decide +kernel
theorem dX8_who_125 : decode cX8_who 125 = .ok (.invokevirtual 247, 3) := by decide +kernel
theorem dX8_who_128 : decode cX8_who 128 = .ok (.istore 7, 2) := by decide +kernel
theorem dX8_who_130 : decode cX8_who 130 = .ok (.iload 7, 2) := by decide +kernel
theorem dX8_who_132 : decode cX8_who 132 = .ok (.ifCond .lt 7, 3) := by decide +kernel
theorem dX8_who_135 : decode cX8_who 135 = .ok (.iconst 1, 1) := by decide +kernel
theorem dX8_who_136 : decode cX8_who 136 = .ok (.goto 4, 3) := by decide +kernel
theorem dX8_who_139 : decode cX8_who 139 = .ok (.iconst 0, 1) := by decide +kernel
theorem dX8_who_140 : decode cX8_who 140 = .ok (.istore 8, 2) := by decide +kernel
theorem dX8_who_142 : decode cX8_who 142 = .ok (.iconst 0, 1) := by decide +kernel
theorem dX8_who_143 : decode cX8_who 143 = .ok (.istore 9, 2) := by decide +kernel
theorem dX8_who_145 : decode cX8_who 145 = .ok (.iload 9, 2) := by decide +kernel
theorem dX8_who_147 : decode cX8_who 147 = .ok (.aload_n 0, 1) := by decide +kernel
theorem dX8_who_148 : decode cX8_who 148 = .ok (.getfield 19, 3) := by decide +kernel
theorem dX8_who_151 : decode cX8_who 151 = .ok (.bipush 7, 2) := by decide +kernel
theorem dX8_who_153 : decode cX8_who 153 = .ok (.iaload, 1) := by decide +kernel
theorem dX8_who_154 : decode cX8_who 154 = .ok (.if_icmp .ge 60, 3) := by decide +kernel
theorem dX8_who_157 : decode cX8_who 157 = .ok (.iload 8, 2) := by decide +kernel
theorem dX8_who_159 : decode cX8_who 159 = .ok (.ifCond .eq 46, 3) := by decide +kernel
theorem dX8_who_162 : decode cX8_who 162 = .ok (.aload_n 0, 1) := by decide +kernel
theorem dX8_who_163 : decode cX8_who 163 = .ok (.getfield 19, 3) := by decide +kernel
theorem dX8_who_166 : decode cX8_who 166 = .ok (.bipush 17, 2) := by decide +kernel
theorem dX8_who_168 : decode cX8_who 168 = .ok (.iconst 3, 1) := by decide +kernel
theorem dX8_who_169 : decode cX8_who 169 = .ok (.iload 9, 2) := by decide +kernel
theorem dX8_who_171 : decode cX8_who 171 = .ok (.imul, 1) := by decide +kernel
theorem dX8_who_172 : decode cX8_who 172 = .ok (.iadd, 1) := by decide +kernel
theorem dX8_who_173 : decode cX8_who 173 = .ok (.iconst 1, 1) := by decide +kernel
theorem dX8_who_174 : decode cX8_who 174 = .ok (.iadd, 1) := by decide +kernel
theorem dX8_who_175 : decode cX8_who 175 = .ok (.iaload, 1) := by decide +kernel
theorem dX8_who_176 : decode cX8_who 176 = .ok (.aload_n 0, 1) := by decide +kernel
theorem dX8_who_177 : decode cX8_who 177 = .ok (.getfield 40, 3) := by decide +kernel
theorem dX8_who_180 : decode cX8_who 180 = .ok (.iload 9, 2) := by decide +kernel
theorem dX8_who_182 : decode cX8_who 182 = .ok (.iaload, 1) := by decide +kernel
theorem dX8_who_183 : decode cX8_who 183 = .ok (.isub, 1) := by decide +kernel
theorem dX8_who_184 : decode cX8_who 184 = .ok (.aload_n 0, 1) := by decide +kernel
theorem dX8_who_185 : decode cX8_who 185 = .ok (.getfield 16, 3) := by decide +kernel
theorem dX8_who_188 : decode cX8_who 188 = .ok (.bipush 40, 2) := by decide +kernel
theorem dX8_who_190 : decode cX8_who 190 = .ok (.iload_n 1, 1) := by decide +kernel
theorem dX8_who_191 : decode cX8_who 191 = .ok (.imul, 1) := by decide +kernel
theorem dX8_who_192 : decode cX8_who 192 = .ok (.iload_n 2, 1) := by decide +kernel
theorem dX8_who_193 : decode cX8_who 193 = .ok (.iadd, 1) := by decide +kernel
theorem dX8_who_194 : decode cX8_who 194 = .ok (.iload 9, 2) := by decide +kernel
theorem dX8_who_196 : decode cX8_who 196 = .ok (.iadd, 1) := by decide +kernel
theorem dX8_who_197 : decode cX8_who 197 = .ok (.iaload, 1) := by decide +kernel
theorem dX8_who_198 : decode cX8_who 198 = .ok (.if_icmp .ne 7, 3) := by decide +kernel
theorem dX8_who_201 : decode cX8_who 201 = .ok (.iconst 1, 1) := by decide +kernel
theorem dX8_who_202 : decode cX8_who 202 = .ok (.goto 4, 3) := by decide +kernel
theorem dX8_who_205 : decode cX8_who 205 = .ok (.iconst 0, 1) := by decide +kernel
theorem dX8_who_206 : decode cX8_who 206 = .ok (.istore 8, 2) := by decide +kernel
theorem dX8_who_208 : decode cX8_who 208 = .ok (.iinc 9 1, 3) := by decide +kernel
theorem dX8_who_211 : decode cX8_who 211 = .ok (.goto (-66), 3) := by decide +kernel
theorem dX8_who_214 : decode cX8_who 214 = .ok (.iload 4, 2) := by decide +kernel
theorem dX8_who_216 : decode cX8_who 216 = .ok (.iload 8, 2) := by decide +kernel
theorem dX8_who_218 : decode cX8_who 218 = .ok (.ifCond .eq 7, 3) := by decide +kernel
theorem dX8_who_221 : decode cX8_who 221 = .ok (.iconst 1, 1) := by decide +kernel
theorem dX8_who_222 : decode cX8_who 222 = .ok (.goto 4, 3) := by decide +kernel
theorem dX8_who_225 : decode cX8_who 225 = .ok (.iconst 0, 1) := by decide +kernel
theorem dX8_who_226 : decode cX8_who 226 = .ok (.iadd, 1) := by decide +kernel
theorem dX8_who_227 : decode cX8_who 227 = .ok (.istore 4, 2) := by decide +kernel
theorem dX8_who_229 : decode cX8_who 229 = .ok (.iload 8, 2) := by decide +kernel
theorem dX8_who_231 : decode cX8_who 231 = .ok (.ifCond .eq 8, 3) := by decide +kernel
theorem dX8_who_234 : decode cX8_who 234 = .ok (.iload 6, 2) := by decide +kernel
theorem dX8_who_236 : decode cX8_who 236 = .ok (.goto 5, 3) := by decide +kernel
theorem dX8_who_239 : decode cX8_who 239 = .ok (.iload 5, 2) := by decide +kernel
theorem dX8_who_241 : decode cX8_who 241 = .ok (.istore 5, 2) := by decide +kernel
theorem dX8_who_243 : decode cX8_who 243 = .ok (.iinc 6 (-1), 3) := by decide +kernel
theorem dX8_who_246 : decode cX8_who 246 = .ok (.goto (-145), 3) := by decide +kernel
theorem dX8_who_249 : decode cX8_who 249 = .ok (.iload_n 3, 1) := by decide +kernel
theorem dX8_who_250 : decode cX8_who 250 = .ok (.ifCond .ne 8, 3) := by decide +kernel
theorem dX8_who_253 : decode cX8_who 253 = .ok (.iload 4, 2) := by decide +kernel
theorem dX8_who_255 : decode cX8_who 255 = .ok (.goto 5, 3) := by decide +kernel
theorem dX8_who_258 : decode cX8_who 258 = .ok (.iload 5, 2) := by decide +kernel
theorem dX8_who_260 : decode cX8_who 260 = .ok (.ireturn, 1) := by decide +kernel
theorem dX8_image_0 : decode cX8_image 0 = .ok (.aload_n 0, 1) := by decide +kernel
theorem dX8_image_1 : decode cX8_image 1 = .ok (.iconst 0, 1) := by decide +kernel
theorem dX8_image_2 : decode cX8_image 2 = .ok (.putfield 79, 3) := by decide +kernel
theorem dX8_image_5 : decode cX8_image 5 = .ok (.iload_n 1, 1) := by decide +kernel
theorem dX8_image_6 : decode cX8_image 6 = .ok (.i2l, 1) := by decide +kernel
theorem dX8_image_7 : decode cX8_image 7 = .ok (.lconst 0, 1) := by decide +kernel
theorem dX8_image_8 : decode cX8_image 8 = .ok (.lconst 1, 1) := by decide +kernel
theorem dX8_image_9 : decode cX8_image 9 = .ok (.invokestatic 88, 3) := by decide +kernel
theorem dX8_image_12 : decode cX8_image 12 = .ok (.ifCond .ne 6, 3) := by decide +kernel
theorem dX8_image_15 : decode cX8_image 15 = .ok (.ldc 98, 2) := by decide +kernel
theorem dX8_image_17 : decode cX8_image 17 = .ok (.ireturn, 1) := by decide +kernel
theorem dX8_image_18 : decode cX8_image 18 = .ok (.aload_n 0, 1) := by decide +kernel
theorem dX8_image_19 : decode cX8_image 19 = .ok (.invokevirtual 265, 3) := by decide +kernel
theorem dX8_image_22 : decode cX8_image 22 = .ok (.ifCond .ne 7, 3) := by decide +kernel
theorem dX8_image_25 : decode cX8_image 25 = .ok (.ldc_w 261, 3) := by decide +kernel
theorem dX8_image_28 : decode cX8_image 28 = .ok (.ireturn, 1) := by decide +kernel
theorem dX8_image_29 : decode cX8_image 29 = .ok (.iconst 0, 1) := by decide +kernel
theorem dX8_image_30 : decode cX8_image 30 = .ok (.istore_n 2, 1) := by decide +kernel
theorem dX8_image_31 : decode cX8_image 31 = .ok (.iload_n 2, 1) := by decide +kernel
theorem dX8_image_32 : decode cX8_image 32 = .ok (.bipush 59, 2) := by decide +kernel
theorem dX8_image_34 : decode cX8_image 34 = .ok (.if_icmp .ge 26, 3) := by decide +kernel
theorem dX8_image_37 : decode cX8_image 37 = .ok (.aload_n 0, 1) := by decide +kernel
theorem dX8_image_38 : decode cX8_image 38 = .ok (.getfield 73, 3) := by decide +kernel
theorem dX8_image_41 : decode cX8_image 41 = .ok (.bipush 59, 2) := by decide +kernel
theorem dX8_image_43 : decode cX8_image 43 = .ok (.iload_n 1, 1) := by decide +kernel
theorem dX8_image_44 : decode cX8_image 44 = .ok (.imul, 1) := by decide +kernel
theorem dX8_image_45 : decode cX8_image 45 = .ok (.iload_n 2, 1) := by decide +kernel
theorem dX8_image_46 : decode cX8_image 46 = .ok (.iadd, 1) := by decide +kernel
theorem dX8_image_47 : decode cX8_image 47 = .ok (.aload_n 0, 1) := by decide +kernel
theorem dX8_image_48 : decode cX8_image 48 = .ok (.getfield 19, 3) := by decide +kernel
theorem dX8_image_51 : decode cX8_image 51 = .ok (.iload_n 2, 1) := by decide +kernel
theorem dX8_image_52 : decode cX8_image 52 = .ok (.iaload, 1) := by decide +kernel
theorem dX8_image_53 : decode cX8_image 53 = .ok (.iastore, 1) := by decide +kernel
theorem dX8_image_54 : decode cX8_image 54 = .ok (.iinc 2 1, 3) := by decide +kernel
theorem dX8_image_57 : decode cX8_image 57 = .ok (.goto (-26), 3) := by decide +kernel
theorem dX8_image_60 : decode cX8_image 60 = .ok (.aload_n 0, 1) := by decide +kernel
theorem dX8_image_61 : decode cX8_image 61 = .ok (.getfield 69, 3) := by decide +kernel
theorem dX8_image_64 : decode cX8_image 64 = .ok (.iload_n 1, 1) := by decide +kernel
theorem dX8_image_65 : decode cX8_image 65 = .ok (.iconst 1, 1) := by decide +kernel
theorem dX8_image_66 : decode cX8_image 66 = .ok (.bastore, 1) := by decide +kernel
theorem dX8_image_67 : decode cX8_image 67 = .ok (.iconst 1, 1) := by decide +kernel
theorem dX8_image_68 : decode cX8_image 68 = .ok (.ireturn, 1) := by decide +kernel
theorem dX8_restore_0 : decode cX8_restore 0 = .ok (.aload_n 0, 1) := by decide +kernel
theorem dX8_restore_1 : decode cX8_restore 1 = .ok (.iconst 0, 1) := by decide +kernel
theorem dX8_restore_2 : decode cX8_restore 2 = .ok (.putfield 79, 3) := by decide +kernel
theorem dX8_restore_5 : decode cX8_restore 5 = .ok (.iload_n 1, 1) := by decide +kernel
theorem dX8_restore_6 : decode cX8_restore 6 = .ok (.i2l, 1) := by decide +kernel
theorem dX8_restore_7 : decode cX8_restore 7 = .ok (.lconst 0, 1) := by decide +kernel
theorem dX8_restore_8 : decode cX8_restore 8 = .ok (.lconst 1, 1) := by decide +kernel
theorem dX8_restore_9 : decode cX8_restore 9 = .ok (.invokestatic 88, 3) := by decide +kernel
theorem dX8_restore_12 : decode cX8_restore 12 = .ok (.ifCond .ne 6, 3) := by decide +kernel
theorem dX8_restore_15 : decode cX8_restore 15 = .ok (.ldc 98, 2) := by decide +kernel
theorem dX8_restore_17 : decode cX8_restore 17 = .ok (.ireturn, 1) := by decide +kernel
theorem dX8_restore_18 : decode cX8_restore 18 = .ok (.aload_n 0, 1) := by decide +kernel
theorem dX8_restore_19 : decode cX8_restore 19 = .ok (.getfield 69, 3) := by decide +kernel
theorem dX8_restore_22 : decode cX8_restore 22 = .ok (.iload_n 1, 1) := by decide +kernel
theorem dX8_restore_23 : decode cX8_restore 23 = .ok (.baload, 1) := by decide +kernel
theorem dX8_restore_24 : decode cX8_restore 24 = .ok (.ifCond .ne 7, 3) := by decide +kernel
theorem dX8_restore_27 : decode cX8_restore 27 = .ok (.ldc_w 261, 3) := by decide +kernel
theorem dX8_restore_30 : decode cX8_restore 30 = .ok (.ireturn, 1) := by decide +kernel
theorem dX8_restore_31 : decode cX8_restore 31 = .ok (.iconst 0, 1) := by decide +kernel
theorem dX8_restore_32 : decode cX8_restore 32 = .ok (.istore_n 2, 1) := by decide +kernel
theorem dX8_restore_33 : decode cX8_restore 33 = .ok (.iload_n 2, 1) := by decide +kernel
theorem dX8_restore_34 : decode cX8_restore 34 = .ok (.bipush 59, 2) := by decide +kernel
theorem dX8_restore_36 : decode cX8_restore 36 = .ok (.if_icmp .ge 26, 3) := by decide +kernel
theorem dX8_restore_39 : decode cX8_restore 39 = .ok (.aload_n 0, 1) := by decide +kernel
theorem dX8_restore_40 : decode cX8_restore 40 = .ok (.getfield 19, 3) := by decide +kernel
theorem dX8_restore_43 : decode cX8_restore 43 = .ok (.iload_n 2, 1) := by decide +kernel
theorem dX8_restore_44 : decode cX8_restore 44 = .ok (.aload_n 0, 1) := by decide +kernel
theorem dX8_restore_45 : decode cX8_restore 45 = .ok (.getfield 73, 3) := by decide +kernel
theorem dX8_restore_48 : decode cX8_restore 48 = .ok (.bipush 59, 2) := by decide +kernel
theorem dX8_restore_50 : decode cX8_restore 50 = .ok (.iload_n 1, 1) := by decide +kernel
theorem dX8_restore_51 : decode cX8_restore 51 = .ok (.imul, 1) := by decide +kernel
theorem dX8_restore_52 : decode cX8_restore 52 = .ok (.iload_n 2, 1) := by decide +kernel
theorem dX8_restore_53 : decode cX8_restore 53 = .ok (.iadd, 1) := by decide +kernel
theorem dX8_restore_54 : decode cX8_restore 54 = .ok (.iaload, 1) := by decide +kernel
theorem dX8_restore_55 : decode cX8_restore 55 = .ok (.iastore, 1) := by decide +kernel
theorem dX8_restore_56 : decode cX8_restore 56 = .ok (.iinc 2 1, 3) := by decide +kernel
theorem dX8_restore_59 : decode cX8_restore 59 = .ok (.goto (-26), 3) := by decide +kernel
theorem dX8_restore_62 : decode cX8_restore 62 = .ok (.aload_n 0, 1) := by decide +kernel
theorem dX8_restore_63 : decode cX8_restore 63 = .ok (.iconst 0, 1) := by decide +kernel
theorem dX8_restore_64 : decode cX8_restore 64 = .ok (.putfield 183, 3) := by decide +kernel
theorem dX8_restore_67 : decode cX8_restore 67 = .ok (.iconst 1, 1) := by decide +kernel
theorem dX8_restore_68 : decode cX8_restore 68 = .ok (.ireturn, 1) := by decide +kernel
theorem dX8_isOf_0 : decode cX8_isOf 0 = .ok (.iload_n 1, 1) := by decide +kernel
theorem dX8_isOf_1 : decode cX8_isOf 1 = .ok (.ifCond .eq 28, 3) := by decide +kernel
theorem dX8_isOf_4 : decode cX8_isOf 4 = .ok (.iload_n 0, 1) := by decide +kernel
theorem dX8_isOf_5 : decode cX8_isOf 5 = .ok (.iload_n 1, 1) := by decide +kernel
theorem dX8_isOf_6 : decode cX8_isOf 6 = .ok (.if_icmp .eq 23, 3) := by decide +kernel
theorem dX8_isOf_9 : decode cX8_isOf 9 = .ok (.iload_n 1, 1) := by decide +kernel
theorem dX8_isOf_10 : decode cX8_isOf 10 = .ok (.iconst 1, 1) := by decide +kernel
theorem dX8_isOf_11 : decode cX8_isOf 11 = .ok (.if_icmp .ne 8, 3) := by decide +kernel
theorem dX8_isOf_14 : decode cX8_isOf 14 = .ok (.iload_n 0, 1) := by decide +kernel
theorem dX8_isOf_15 : decode cX8_isOf 15 = .ok (.iconst 4, 1) := by decide +kernel
theorem dX8_isOf_16 : decode cX8_isOf 16 = .ok (.if_icmp .lt 13, 3) := by decide +kernel
theorem dX8_isOf_19 : decode cX8_isOf 19 = .ok (.iload_n 1, 1) := by decide +kernel
theorem dX8_isOf_20 : decode cX8_isOf 20 = .ok (.iconst 4, 1) := by decide +kernel
theorem dX8_isOf_21 : decode cX8_isOf 21 = .ok (.if_icmp .ne 12, 3) := by decide +kernel
theorem dX8_isOf_24 : decode cX8_isOf 24 = .ok (.iload_n 0, 1) := by decide +kernel
theorem dX8_isOf_25 : decode cX8_isOf 25 = .ok (.iconst 5, 1) := by decide +kernel
theorem dX8_isOf_26 : decode cX8_isOf 26 = .ok (.if_icmp .ne 7, 3) := by decide +kernel
theorem dX8_isOf_29 : decode cX8_isOf 29 = .ok (.iconst 1, 1) := by decide +kernel
theorem dX8_isOf_30 : decode cX8_isOf 30 = .ok (.goto 4, 3) := by decide +kernel
theorem dX8_isOf_33 : decode cX8_isOf 33 = .ok (.iconst 0, 1) := by decide +kernel
theorem dX8_isOf_34 : decode cX8_isOf 34 = .ok (.ireturn, 1) := by decide +kernel
theorem dX8_kind_0 : decode cX8_kind 0 = .ok (.aload_n 0, 1) := by decide +kernel
theorem dX8_kind_1 : decode cX8_kind 1 = .ok (.iconst 0, 1) := by decide +kernel
theorem dX8_kind_2 : decode cX8_kind 2 = .ok (.putfield 79, 3) := by decide +kernel
theorem dX8_kind_5 : decode cX8_kind 5 = .ok (.aload_n 0, 1) := by decide +kernel
theorem dX8_kind_6 : decode cX8_kind 6 = .ok (.iload_n 1, 1) := by decide +kernel
theorem dX8_kind_7 : decode cX8_kind 7 = .ok (.invokevirtual 250, 3) := by decide +kernel
theorem dX8_kind_10 : decode cX8_kind 10 = .ok (.ifCond .eq 12, 3) := by decide +kernel
theorem dX8_kind_13 : decode cX8_kind 13 = .ok (.aload_n 0, 1) := by decide +kernel
theorem dX8_kind_14 : decode cX8_kind 14 = .ok (.iload_n 1, 1) := by decide +kernel
theorem dX8_kind_15 : decode cX8_kind 15 = .ok (.iconst 0, 1) := by decide +kernel
theorem dX8_kind_16 : decode cX8_kind 16 = .ok (.invokevirtual 188, 3) := by decide +kernel
theorem dX8_kind_19 : decode cX8_kind 19 = .ok (.goto 5, 3) := by decide +kernel
theorem dX8_kind_22 : decode cX8_kind 22 = .ok (.ldc 98, 2) := by decide +kernel
theorem dX8_kind_24 : decode cX8_kind 24 = .ok (.ireturn, 1) := by decide +kernel
theorem dX8_as_0 : decode cX8_as 0 = .ok (.aload_n 0, 1) := by decide +kernel
theorem dX8_as_1 : decode cX8_as 1 = .ok (.iconst 0, 1) := by decide +kernel
theorem dX8_as_2 : decode cX8_as 2 = .ok (.putfield 79, 3) := by decide +kernel
theorem dX8_as_5 : decode cX8_as 5 = .ok (.aload_n 0, 1) := by decide +kernel
theorem dX8_as_6 : decode cX8_as 6 = .ok (.iload_n 1, 1) := by decide +kernel
theorem dX8_as_7 : decode cX8_as 7 = .ok (.invokevirtual 250, 3) := by decide +kernel
theorem dX8_as_10 : decode cX8_as 10 = .ok (.ifCond .eq 15, 3) := by decide +kernel
theorem dX8_as_13 : decode cX8_as 13 = .ok (.iload_n 2, 1) := by decide +kernel
theorem dX8_as_14 : decode cX8_as 14 = .ok (.i2l, 1) := by decide +kernel
theorem dX8_as_15 : decode cX8_as 15 = .ok (.lconst 0, 1) := by decide +kernel
theorem dX8_as_16 : decode cX8_as 16 = .ok (.ldc2_w 323, 3) := by decide +kernel
theorem dX8_as_19 : decode cX8_as 19 = .ok (.invokestatic 88, 3) := by decide +kernel
theorem dX8_as_22 : decode cX8_as 22 = .ok (.ifCond .ne 6, 3) := by decide +kernel
theorem dX8_as_25 : decode cX8_as 25 = .ok (.ldc 98, 2) := by decide +kernel
theorem dX8_as_27 : decode cX8_as 27 = .ok (.ireturn, 1) := by decide +kernel
theorem dX8_as_28 : decode cX8_as 28 = .ok (.aload_n 0, 1) := by decide +kernel
theorem dX8_as_29 : decode cX8_as 29 = .ok (.iconst 0, 1) := by decide +kernel
theorem dX8_as_30 : decode cX8_as 30 = .ok (.putfield 82, 3) := by decide +kernel
theorem dX8_as_33 : decode cX8_as 33 = .ok (.aload_n 0, 1) := by decide +kernel
theorem dX8_as_34 : decode cX8_as 34 = .ok (.iload_n 1, 1) := by decide +kernel
theorem dX8_as_35 : decode cX8_as 35 = .ok (.iconst 0, 1) := by decide +kernel
theorem dX8_as_36 : decode cX8_as 36 = .ok (.invokevirtual 188, 3) := by decide +kernel
theorem dX8_as_39 : decode cX8_as 39 = .ok (.iload_n 2, 1) := by decide +kernel
theorem dX8_as_40 : decode cX8_as 40 = .ok (.invokestatic 327, 3) := by decide +kernel
theorem dX8_as_43 : decode cX8_as 43 = .ok (.ifCond .eq 7, 3) := by decide +kernel
theorem dX8_as_46 : decode cX8_as 46 = .ok (.iload_n 1, 1) := by decide +kernel
theorem dX8_as_47 : decode cX8_as 47 = .ok (.goto 8, 3) := by decide +kernel
theorem dX8_as_50 : decode cX8_as 50 = .ok (.aload_n 0, 1) := by decide +kernel
theorem dX8_as_51 : decode cX8_as 51 = .ok (.iconst 3, 1) := by decide +kernel
theorem dX8_as_52 : decode cX8_as 52 = .ok (.invokevirtual 99, 3) := by decide +kernel
theorem dX8_as_55 : decode cX8_as 55 = .ok (.ireturn, 1) := by decide +kernel
theorem dX8_began_0 : decode cX8_began 0 = .ok (.aload_n 0, 1) := by decide +kernel
theorem dX8_began_1 : decode cX8_began 1 = .ok (.getfield 331, 3) := by decide +kernel
theorem dX8_began_4 : decode cX8_began 4 = .ok (.bipush 16, 2) := by decide +kernel
theorem dX8_began_6 : decode cX8_began 6 = .ok (.if_icmp .ge 23, 3) := by decide +kernel
theorem dX8_began_9 : decode cX8_began 9 = .ok (.aload_n 0, 1) := by decide +kernel
theorem dX8_began_10 : decode cX8_began 10 = .ok (.getfield 76, 3) := by decide +kernel
theorem dX8_began_13 : decode cX8_began 13 = .ok (.aload_n 0, 1) := by decide +kernel
theorem dX8_began_14 : decode cX8_began 14 = .ok (.getfield 331, 3) := by decide +kernel
theorem dX8_began_17 : decode cX8_began 17 = .ok (.iload_n 1, 1) := by decide +kernel
theorem dX8_began_18 : decode cX8_began 18 = .ok (.iastore, 1) := by decide +kernel
theorem dX8_began_19 : decode cX8_began 19 = .ok (.aload_n 0, 1) := by decide +kernel
theorem dX8_began_20 : decode cX8_began 20 = .ok (.dup, 1) := by decide +kernel
theorem dX8_began_21 : decode cX8_began 21 = .ok (.getfield 331, 3) := by decide +kernel
theorem dX8_began_24 : decode cX8_began 24 = .ok (.iconst 1, 1) := by decide +kernel
theorem dX8_began_25 : decode cX8_began 25 = .ok (.iadd, 1) := by decide +kernel
theorem dX8_began_26 : decode cX8_began 26 = .ok (.putfield 331, 3) := by decide +kernel
theorem dX8_began_29 : decode cX8_began 29 = .ok (.return_, 1) := by decide +kernel
theorem dX8_plainSize_0 : decode cX8_plainSize 0 = .ok (.aload_n 0, 1) := by decide +kernel
theorem dX8_plainSize_1 : decode cX8_plainSize 1 = .ok (.bipush 10, 2) := by decide +kernel
theorem dX8_plainSize_3 : decode cX8_plainSize 3 = .ok (.invokevirtual 334, 3) := by decide +kernel
theorem dX8_plainSize_6 : decode cX8_plainSize 6 = .ok (.aload_n 0, 1) := by decide +kernel
theorem dX8_plainSize_7 : decode cX8_plainSize 7 = .ok (.iload_n 1, 1) := by decide +kernel
theorem dX8_plainSize_8 : decode cX8_plainSize 8 = .ok (.iconst 1, 1) := by decide +kernel
theorem dX8_plainSize_9 : decode cX8_plainSize 9 = .ok (.invokevirtual 188, 3) := by decide +kernel
theorem dX8_plainSize_12 : decode cX8_plainSize 12 = .ok (.ireturn, 1) := by decide +kernel
theorem dX8_watchSize_0 : decode cX8_watchSize 0 = .ok (.aload_n 0, 1) := by decide +kernel
theorem dX8_watchSize_1 : decode cX8_watchSize 1 = .ok (.iload_n 1, 1) := by decide +kernel
theorem dX8_watchSize_2 : decode cX8_watchSize 2 = .ok (.iconst 0, 1) := by decide +kernel
theorem dX8_watchSize_3 : decode cX8_watchSize 3 = .ok (.invokevirtual 188, 3) := by decide +kernel
theorem dX8_watchSize_6 : decode cX8_watchSize 6 = .ok (.iconst 5, 1) := by decide +kernel
theorem dX8_watchSize_7 : decode cX8_watchSize 7 = .ok (.if_icmp .ne 9, 3) := by decide +kernel
theorem dX8_watchSize_10 : decode cX8_watchSize 10 = .ok (.aload_n 0, 1) := by decide +kernel
theorem dX8_watchSize_11 : decode cX8_watchSize 11 = .ok (.bipush 14, 2) := by decide +kernel
theorem dX8_watchSize_13 : decode cX8_watchSize 13 = .ok (.invokevirtual 334, 3) := by decide +kernel
theorem dX8_watchSize_16 : decode cX8_watchSize 16 = .ok (.aload_n 0, 1) := by decide +kernel
theorem dX8_watchSize_17 : decode cX8_watchSize 17 = .ok (.bipush 13, 2) := by decide +kernel
theorem dX8_watchSize_19 : decode cX8_watchSize 19 = .ok (.invokevirtual 334, 3) := by decide +kernel
theorem dX8_watchSize_22 : decode cX8_watchSize 22 = .ok (.aload_n 0, 1) := by decide +kernel
theorem dX8_watchSize_23 : decode cX8_watchSize 23 = .ok (.iload_n 1, 1) := by decide +kernel
theorem dX8_watchSize_24 : decode cX8_watchSize 24 = .ok (.invokevirtual 337, 3) := by decide +kernel
theorem dX8_watchSize_27 : decode cX8_watchSize 27 = .ok (.bipush 100, 2) := by decide +kernel
theorem dX8_watchSize_29 : decode cX8_watchSize 29 = .ok (.isub, 1) := by decide +kernel
theorem dX8_watchSize_30 : decode cX8_watchSize 30 = .ok (.istore_n 2, 1) := by decide +kernel
theorem dX8_watchSize_31 : decode cX8_watchSize 31 = .ok (.aload_n 0, 1) := by decide +kernel
theorem dX8_watchSize_32 : decode cX8_watchSize 32 = .ok (.iload_n 1, 1) := by decide +kernel
theorem dX8_watchSize_33 : decode cX8_watchSize 33 = .ok (.iconst 0, 1) := by decide +kernel
theorem dX8_watchSize_34 : decode cX8_watchSize 34 = .ok (.invokevirtual 188, 3) := by decide +kernel
theorem dX8_watchSize_37 : decode cX8_watchSize 37 = .ok (.iconst 5, 1) := by decide +kernel
theorem dX8_watchSize_38 : decode cX8_watchSize 38 = .ok (.if_icmp .ne 9, 3) := by decide +kernel
theorem dX8_watchSize_41 : decode cX8_watchSize 41 = .ok (.iconst 2, 1) := by decide +kernel
theorem dX8_watchSize_42 : decode cX8_watchSize 42 = .ok (.iload_n 2, 1) := by decide +kernel
theorem dX8_watchSize_43 : decode cX8_watchSize 43 = .ok (.imul, 1) := by decide +kernel
theorem dX8_watchSize_44 : decode cX8_watchSize 44 = .ok (.goto 4, 3) := by decide +kernel
theorem dX8_watchSize_47 : decode cX8_watchSize 47 = .ok (.iload_n 2, 1) := by decide +kernel
theorem dX8_watchSize_48 : decode cX8_watchSize 48 = .ok (.ireturn, 1) := by decide +kernel
theorem dX8_markOf_0 : decode cX8_markOf 0 = .ok (.aload_n 0, 1) := by decide +kernel
theorem dX8_markOf_1 : decode cX8_markOf 1 = .ok (.iload_n 1, 1) := by decide +kernel
theorem dX8_markOf_2 : decode cX8_markOf 2 = .ok (.iconst 0, 1) := by decide +kernel
theorem dX8_markOf_3 : decode cX8_markOf 3 = .ok (.invokevirtual 188, 3) := by decide +kernel
theorem dX8_markOf_6 : decode cX8_markOf 6 = .ok (.istore_n 2, 1) := by decide +kernel
theorem dX8_markOf_7 : decode cX8_markOf 7 = .ok (.iload_n 2, 1) := by decide +kernel
theorem dX8_markOf_8 : decode cX8_markOf 8 = .ok (.iconst 4, 1) := by decide +kernel
theorem dX8_markOf_9 : decode cX8_markOf 9 = .ok (.if_icmp .lt 23, 3) := by decide +kernel
theorem dX8_markOf_12 : decode cX8_markOf 12 = .ok (.aload_n 0, 1) := by decide +kernel
theorem dX8_markOf_13 : decode cX8_markOf 13 = .ok (.bipush 23, 2) := by decide +kernel
theorem dX8_markOf_15 : decode cX8_markOf 15 = .ok (.invokevirtual 334, 3) := by decide +kernel
theorem dX8_markOf_18 : decode cX8_markOf 18 = .ok (.aload_n 0, 1) := by decide +kernel
theorem dX8_markOf_19 : decode cX8_markOf 19 = .ok (.bipush 20, 2) := by decide +kernel
theorem dX8_markOf_21 : decode cX8_markOf 21 = .ok (.invokevirtual 334, 3) := by decide +kernel
theorem dX8_markOf_24 : decode cX8_markOf 24 = .ok (.iload_n 1, 1) := by decide +kernel
theorem dX8_markOf_25 : decode cX8_markOf 25 = .ok (.aload_n 0, 1) := by decide +kernel
theorem dX8_markOf_26 : decode cX8_markOf 26 = .ok (.iload_n 1, 1) := by decide +kernel
theorem dX8_markOf_27 : decode cX8_markOf 27 = .ok (.invokevirtual 340, 3) := by decide +kernel
theorem dX8_markOf_30 : decode cX8_markOf 30 = .ok (.isub, 1) := by decide +kernel
theorem dX8_markOf_31 : decode cX8_markOf 31 = .ok (.ireturn, 1) := by decide +kernel
theorem dX8_markOf_32 : decode cX8_markOf 32 = .ok (.iload_n 2, 1) := by decide +kernel
theorem dX8_markOf_33 : decode cX8_markOf 33 = .ok (.iconst 1, 1) := by decide +kernel
theorem dX8_markOf_34 : decode cX8_markOf 34 = .ok (.if_icmp .eq 19, 3) := by decide +kernel
theorem dX8_markOf_37 : decode cX8_markOf 37 = .ok (.aload_n 0, 1) := by decide +kernel
theorem dX8_markOf_38 : decode cX8_markOf 38 = .ok (.iload_n 2, 1) := by decide +kernel
theorem dX8_markOf_39 : decode cX8_markOf 39 = .ok (.iconst 3, 1) := by decide +kernel
theorem dX8_markOf_40 : decode cX8_markOf 40 = .ok (.if_icmp .ne 8, 3) := by decide +kernel
theorem dX8_markOf_43 : decode cX8_markOf 43 = .ok (.bipush 22, 2) := by decide +kernel
theorem dX8_markOf_45 : decode cX8_markOf 45 = .ok (.goto 5, 3) := by decide +kernel
theorem dX8_markOf_48 : decode cX8_markOf 48 = .ok (.bipush 24, 2) := by decide +kernel
theorem dX8_markOf_50 : decode cX8_markOf 50 = .ok (.invokevirtual 334, 3) := by decide +kernel
theorem dX8_markOf_53 : decode cX8_markOf 53 = .ok (.aload_n 0, 1) := by decide +kernel
theorem dX8_markOf_54 : decode cX8_markOf 54 = .ok (.bipush 21, 2) := by decide +kernel
theorem dX8_markOf_56 : decode cX8_markOf 56 = .ok (.invokevirtual 334, 3) := by decide +kernel
theorem dX8_markOf_59 : decode cX8_markOf 59 = .ok (.aload_n 0, 1) := by decide +kernel
theorem dX8_markOf_60 : decode cX8_markOf 60 = .ok (.bipush 20, 2) := by decide +kernel
theorem dX8_markOf_62 : decode cX8_markOf 62 = .ok (.invokevirtual 334, 3) := by decide +kernel
theorem dX8_markOf_65 : decode cX8_markOf 65 = .ok (.iload_n 1, 1) := by decide +kernel
theorem dX8_markOf_66 : decode cX8_markOf 66 = .ok (.aload_n 0, 1) := by decide +kernel
theorem dX8_markOf_67 : decode cX8_markOf 67 = .ok (.iload_n 1, 1) := by decide +kernel
theorem dX8_markOf_68 : decode cX8_markOf 68 = .ok (.iconst 3, 1) := by decide +kernel
theorem dX8_markOf_69 : decode cX8_markOf 69 = .ok (.invokevirtual 188, 3) := by decide +kernel
theorem dX8_markOf_72 : decode cX8_markOf 72 = .ok (.iadd, 1) := by decide +kernel
theorem dX8_markOf_73 : decode cX8_markOf 73 = .ok (.istore_n 3, 1) := by decide +kernel
theorem dX8_markOf_74 : decode cX8_markOf 74 = .ok (.iload_n 2, 1) := by decide +kernel
theorem dX8_markOf_75 : decode cX8_markOf 75 = .ok (.iconst 1, 1) := by decide +kernel
theorem dX8_markOf_76 : decode cX8_markOf 76 = .ok (.if_icmp .ne 7, 3) := by decide +kernel
theorem dX8_markOf_79 : decode cX8_markOf 79 = .ok (.iload_n 3, 1) := by decide +kernel
theorem dX8_markOf_80 : decode cX8_markOf 80 = .ok (.goto 19, 3) := by decide +kernel
theorem dX8_markOf_83 : decode cX8_markOf 83 = .ok (.iload_n 2, 1) := by decide +kernel
theorem dX8_markOf_84 : decode cX8_markOf 84 = .ok (.iconst 3, 1) := by decide +kernel
theorem dX8_markOf_85 : decode cX8_markOf 85 = .ok (.if_icmp .ne 11, 3) := by decide +kernel
theorem dX8_markOf_88 : decode cX8_markOf 88 = .ok (.iload_n 3, 1) := by decide +kernel
theorem dX8_markOf_89 : decode cX8_markOf 89 = .ok (.sipush 1000, 3) := by decide +kernel
theorem dX8_markOf_92 : decode cX8_markOf 92 = .ok (.isub, 1) := by decide +kernel
theorem dX8_markOf_93 : decode cX8_markOf 93 = .ok (.goto 6, 3) := by decide +kernel
theorem dX8_markOf_96 : decode cX8_markOf 96 = .ok (.iconst 2, 1) := by decide +kernel
theorem dX8_markOf_97 : decode cX8_markOf 97 = .ok (.iload_n 3, 1) := by decide +kernel
theorem dX8_markOf_98 : decode cX8_markOf 98 = .ok (.imul, 1) := by decide +kernel
theorem dX8_markOf_99 : decode cX8_markOf 99 = .ok (.ireturn, 1) := by decide +kernel
theorem dX8_sizeOf_0 : decode cX8_sizeOf 0 = .ok (.aload_n 0, 1) := by decide +kernel
theorem dX8_sizeOf_1 : decode cX8_sizeOf 1 = .ok (.iload_n 1, 1) := by decide +kernel
theorem dX8_sizeOf_2 : decode cX8_sizeOf 2 = .ok (.iconst 0, 1) := by decide +kernel
theorem dX8_sizeOf_3 : decode cX8_sizeOf 3 = .ok (.invokevirtual 188, 3) := by decide +kernel
theorem dX8_sizeOf_6 : decode cX8_sizeOf 6 = .ok (.istore_n 2, 1) := by decide +kernel
theorem dX8_sizeOf_7 : decode cX8_sizeOf 7 = .ok (.iload_n 2, 1) := by decide +kernel
theorem dX8_sizeOf_8 : decode cX8_sizeOf 8 = .ok (.iconst 4, 1) := by decide +kernel
theorem dX8_sizeOf_9 : decode cX8_sizeOf 9 = .ok (.if_icmp .lt 9, 3) := by decide +kernel
theorem dX8_sizeOf_12 : decode cX8_sizeOf 12 = .ok (.aload_n 0, 1) := by decide +kernel
theorem dX8_sizeOf_13 : decode cX8_sizeOf 13 = .ok (.iload_n 1, 1) := by decide +kernel
theorem dX8_sizeOf_14 : decode cX8_sizeOf 14 = .ok (.invokevirtual 340, 3) := by decide +kernel
theorem dX8_sizeOf_17 : decode cX8_sizeOf 17 = .ok (.ireturn, 1) := by decide +kernel
theorem dX8_sizeOf_18 : decode cX8_sizeOf 18 = .ok (.iload_n 2, 1) := by decide +kernel
theorem dX8_sizeOf_19 : decode cX8_sizeOf 19 = .ok (.iconst 2, 1) := by decide +kernel
theorem dX8_sizeOf_20 : decode cX8_sizeOf 20 = .ok (.if_icmp .ne 9, 3) := by decide +kernel
theorem dX8_sizeOf_23 : decode cX8_sizeOf 23 = .ok (.aload_n 0, 1) := by decide +kernel
theorem dX8_sizeOf_24 : decode cX8_sizeOf 24 = .ok (.bipush 12, 2) := by decide +kernel
theorem dX8_sizeOf_26 : decode cX8_sizeOf 26 = .ok (.invokevirtual 334, 3) := by decide +kernel
theorem dX8_sizeOf_29 : decode cX8_sizeOf 29 = .ok (.aload_n 0, 1) := by decide +kernel
theorem dX8_sizeOf_30 : decode cX8_sizeOf 30 = .ok (.bipush 11, 2) := by decide +kernel
theorem dX8_sizeOf_32 : decode cX8_sizeOf 32 = .ok (.invokevirtual 334, 3) := by decide +kernel
theorem dX8_sizeOf_35 : decode cX8_sizeOf 35 = .ok (.aload_n 0, 1) := by decide +kernel
theorem dX8_sizeOf_36 : decode cX8_sizeOf 36 = .ok (.iload_n 1, 1) := by decide +kernel
theorem dX8_sizeOf_37 : decode cX8_sizeOf 37 = .ok (.invokevirtual 337, 3) := by decide +kernel
theorem dX8_sizeOf_40 : decode cX8_sizeOf 40 = .ok (.istore_n 3, 1) := by decide +kernel
theorem dX8_sizeOf_41 : decode cX8_sizeOf 41 = .ok (.iload_n 3, 1) := by decide +kernel
theorem dX8_sizeOf_42 : decode cX8_sizeOf 42 = .ok (.aload_n 0, 1) := by decide +kernel
theorem dX8_sizeOf_43 : decode cX8_sizeOf 43 = .ok (.iload_n 1, 1) := by decide +kernel
theorem dX8_sizeOf_44 : decode cX8_sizeOf 44 = .ok (.invokevirtual 343, 3) := by decide +kernel
theorem dX8_sizeOf_47 : decode cX8_sizeOf 47 = .ok (.iadd, 1) := by decide +kernel
theorem dX8_sizeOf_48 : decode cX8_sizeOf 48 = .ok (.istore_n 3, 1) := by decide +kernel
theorem dX8_sizeOf_49 : decode cX8_sizeOf 49 = .ok (.iload_n 2, 1) := by decide +kernel
theorem dX8_sizeOf_50 : decode cX8_sizeOf 50 = .ok (.iconst 2, 1) := by decide +kernel
theorem dX8_sizeOf_51 : decode cX8_sizeOf 51 = .ok (.if_icmp .ne 8, 3) := by decide +kernel
theorem dX8_sizeOf_54 : decode cX8_sizeOf 54 = .ok (.iload_n 3, 1) := by decide +kernel
theorem dX8_sizeOf_55 : decode cX8_sizeOf 55 = .ok (.ineg, 1) := by decide +kernel
theorem dX8_sizeOf_56 : decode cX8_sizeOf 56 = .ok (.goto 4, 3) := by decide +kernel
theorem dX8_sizeOf_59 : decode cX8_sizeOf 59 = .ok (.iload_n 3, 1) := by decide +kernel
theorem dX8_sizeOf_60 : decode cX8_sizeOf 60 = .ok (.ireturn, 1) := by decide +kernel
theorem dX8_ask_0 : decode cX8_ask 0 = .ok (.aload_n 0, 1) := by decide +kernel
theorem dX8_ask_1 : decode cX8_ask 1 = .ok (.iconst 0, 1) := by decide +kernel
theorem dX8_ask_2 : decode cX8_ask 2 = .ok (.putfield 79, 3) := by decide +kernel
theorem dX8_ask_5 : decode cX8_ask 5 = .ok (.aload_n 0, 1) := by decide +kernel
theorem dX8_ask_6 : decode cX8_ask 6 = .ok (.iload_n 1, 1) := by decide +kernel
theorem dX8_ask_7 : decode cX8_ask 7 = .ok (.invokevirtual 250, 3) := by decide +kernel
theorem dX8_ask_10 : decode cX8_ask 10 = .ok (.ifCond .eq 13, 3) := by decide +kernel
theorem dX8_ask_13 : decode cX8_ask 13 = .ok (.iload_n 2, 1) := by decide +kernel
theorem dX8_ask_14 : decode cX8_ask 14 = .ok (.i2l, 1) := by decide +kernel
theorem dX8_ask_15 : decode cX8_ask 15 = .ok (.lconst 0, 1) := by decide +kernel
theorem dX8_ask_16 : decode cX8_ask 16 = .ok (.lconst 1, 1) := by decide +kernel
theorem dX8_ask_17 : decode cX8_ask 17 = .ok (.invokestatic 88, 3) := by decide +kernel
theorem dX8_ask_20 : decode cX8_ask 20 = .ok (.ifCond .ne 6, 3) := by decide +kernel
theorem dX8_ask_23 : decode cX8_ask 23 = .ok (.ldc 98, 2) := by decide +kernel
theorem dX8_ask_25 : decode cX8_ask 25 = .ok (.ireturn, 1) := by decide +kernel
theorem dX8_ask_26 : decode cX8_ask 26 = .ok (.aload_n 0, 1) := by decide +kernel
theorem dX8_ask_27 : decode cX8_ask 27 = .ok (.iconst 0, 1) := by decide +kernel
theorem dX8_ask_28 : decode cX8_ask 28 = .ok (.putfield 331, 3) := by decide +kernel
theorem dX8_ask_31 : decode cX8_ask 31 = .ok (.iload_n 2, 1) := by decide +kernel
theorem dX8_ask_32 : decode cX8_ask 32 = .ok (.ifCond .ne 11, 3) := by decide +kernel
theorem dX8_ask_35 : decode cX8_ask 35 = .ok (.aload_n 0, 1) := by decide +kernel
theorem dX8_ask_36 : decode cX8_ask 36 = .ok (.iload_n 1, 1) := by decide +kernel
theorem dX8_ask_37 : decode cX8_ask 37 = .ok (.invokevirtual 346, 3) := by decide +kernel
theorem dX8_ask_40 : decode cX8_ask 40 = .ok (.goto 8, 3) := by decide +kernel
theorem dX8_ask_43 : decode cX8_ask 43 = .ok (.aload_n 0, 1) := by decide +kernel
theorem dX8_ask_44 : decode cX8_ask 44 = .ok (.iload_n 1, 1) := by decide +kernel
theorem dX8_ask_45 : decode cX8_ask 45 = .ok (.invokevirtual 343, 3) := by decide +kernel
theorem dX8_ask_48 : decode cX8_ask 48 = .ok (.ireturn, 1) := by decide +kernel
theorem dX8_trace_0 : decode cX8_trace 0 = .ok (.aload_n 0, 1) := by decide +kernel
theorem dX8_trace_1 : decode cX8_trace 1 = .ok (.iconst 0, 1) := by decide +kernel
theorem dX8_trace_2 : decode cX8_trace 2 = .ok (.putfield 79, 3) := by decide +kernel
theorem dX8_trace_5 : decode cX8_trace 5 = .ok (.iload_n 1, 1) := by decide +kernel
theorem dX8_trace_6 : decode cX8_trace 6 = .ok (.i2l, 1) := by decide +kernel
theorem dX8_trace_7 : decode cX8_trace 7 = .ok (.lconst 0, 1) := by decide +kernel
theorem dX8_trace_8 : decode cX8_trace 8 = .ok (.aload_n 0, 1) := by decide +kernel
theorem dX8_trace_9 : decode cX8_trace 9 = .ok (.getfield 331, 3) := by decide +kernel
theorem dX8_trace_12 : decode cX8_trace 12 = .ok (.iconst 1, 1) := by decide +kernel
theorem dX8_trace_13 : decode cX8_trace 13 = .ok (.isub, 1) := by decide +kernel
theorem dX8_trace_14 : decode cX8_trace 14 = .ok (.i2l, 1) := by decide +kernel
theorem dX8_trace_15 : decode cX8_trace 15 = .ok (.invokestatic 88, 3) := by decide +kernel
theorem dX8_trace_18 : decode cX8_trace 18 = .ok (.ifCond .eq 12, 3) := by decide +kernel
theorem dX8_trace_21 : decode cX8_trace 21 = .ok (.aload_n 0, 1) := by decide +kernel
theorem dX8_trace_22 : decode cX8_trace 22 = .ok (.getfield 76, 3) := by decide +kernel
theorem dX8_trace_25 : decode cX8_trace 25 = .ok (.iload_n 1, 1) := by decide +kernel
theorem dX8_trace_26 : decode cX8_trace 26 = .ok (.iaload, 1) := by decide +kernel
theorem dX8_trace_27 : decode cX8_trace 27 = .ok (.goto 5, 3) := by decide +kernel
theorem dX8_trace_30 : decode cX8_trace 30 = .ok (.ldc 61, 2) := by decide +kernel
theorem dX8_trace_32 : decode cX8_trace 32 = .ok (.ireturn, 1) := by decide +kernel
theorem dX8_count_0 : decode cX8_count 0 = .ok (.aload_n 0, 1) := by decide +kernel
theorem dX8_count_1 : decode cX8_count 1 = .ok (.iconst 0, 1) := by decide +kernel
theorem dX8_count_2 : decode cX8_count 2 = .ok (.putfield 79, 3) := by decide +kernel
theorem dX8_count_5 : decode cX8_count 5 = .ok (.iconst 0, 1) := by decide +kernel
theorem dX8_count_6 : decode cX8_count 6 = .ok (.istore_n 2, 1) := by decide +kernel
theorem dX8_count_7 : decode cX8_count 7 = .ok (.iload_n 1, 1) := by decide +kernel
theorem dX8_count_8 : decode cX8_count 8 = .ok (.tableswitch 140 0 8 #[52, 85, 93, 101, 109, 117, 125, 130, 135], 52) := by decide +kernel
theorem dX8_count_60 : decode cX8_count 60 = .ok (.iconst 0, 1) := by decide +kernel
theorem dX8_count_61 : decode cX8_count 61 = .ok (.istore_n 3, 1) := by decide +kernel
theorem dX8_count_62 : decode cX8_count 62 = .ok (.iload_n 3, 1) := by decide +kernel
theorem dX8_count_63 : decode cX8_count 63 = .ok (.bipush 8, 2) := by decide +kernel
theorem dX8_count_65 : decode cX8_count 65 = .ok (.if_icmp .ge 26, 3) := by decide +kernel
theorem dX8_count_68 : decode cX8_count 68 = .ok (.iload_n 2, 1) := by decide +kernel
theorem dX8_count_69 : decode cX8_count 69 = .ok (.aload_n 0, 1) := by decide +kernel
theorem dX8_count_70 : decode cX8_count 70 = .ok (.getfield 7, 3) := by decide +kernel
theorem dX8_count_73 : decode cX8_count 73 = .ok (.iload_n 3, 1) := by decide +kernel
theorem dX8_count_74 : decode cX8_count 74 = .ok (.iaload, 1) := by decide +kernel
theorem dX8_count_75 : decode cX8_count 75 = .ok (.ifCond .lt 7, 3) := by decide +kernel
theorem dX8_count_78 : decode cX8_count 78 = .ok (.iconst 1, 1) := by decide +kernel
theorem dX8_count_79 : decode cX8_count 79 = .ok (.goto 4, 3) := by decide +kernel
theorem dX8_count_82 : decode cX8_count 82 = .ok (.iconst 0, 1) := by decide +kernel
theorem dX8_count_83 : decode cX8_count 83 = .ok (.iadd, 1) := by decide +kernel
theorem dX8_count_84 : decode cX8_count 84 = .ok (.istore_n 2, 1) := by decide +kernel
theorem dX8_count_85 : decode cX8_count 85 = .ok (.iinc 3 1, 3) := by decide +kernel
theorem dX8_count_88 : decode cX8_count 88 = .ok (.goto (-26), 3) := by decide +kernel
theorem dX8_count_91 : decode cX8_count 91 = .ok (.iload_n 2, 1) := by decide +kernel
theorem dX8_count_92 : decode cX8_count 92 = .ok (.ireturn, 1) := by decide +kernel
theorem dX8_count_93 : decode cX8_count 93 = .ok (.aload_n 0, 1) := by decide +kernel
theorem dX8_count_94 : decode cX8_count 94 = .ok (.getfield 19, 3) := by decide +kernel
theorem dX8_count_97 : decode cX8_count 97 = .ok (.bipush 7, 2) := by decide +kernel
theorem dX8_count_99 : decode cX8_count 99 = .ok (.iaload, 1) := by decide +kernel
theorem dX8_count_100 : decode cX8_count 100 = .ok (.ireturn, 1) := by decide +kernel
theorem dX8_count_101 : decode cX8_count 101 = .ok (.aload_n 0, 1) := by decide +kernel
theorem dX8_count_102 : decode cX8_count 102 = .ok (.getfield 19, 3) := by decide +kernel
theorem dX8_count_105 : decode cX8_count 105 = .ok (.bipush 8, 2) := by decide +kernel
theorem dX8_count_107 : decode cX8_count 107 = .ok (.iaload, 1) := by decide +kernel
theorem dX8_count_108 : decode cX8_count 108 = .ok (.ireturn, 1) := by decide +kernel
theorem dX8_count_109 : decode cX8_count 109 = .ok (.aload_n 0, 1) := by decide +kernel
theorem dX8_count_110 : decode cX8_count 110 = .ok (.getfield 19, 3) := by decide +kernel
theorem dX8_count_113 : decode cX8_count 113 = .ok (.bipush 6, 2) := by decide +kernel
theorem dX8_count_115 : decode cX8_count 115 = .ok (.iaload, 1) := by decide +kernel
theorem dX8_count_116 : decode cX8_count 116 = .ok (.ireturn, 1) := by decide +kernel
theorem dX8_count_117 : decode cX8_count 117 = .ok (.aload_n 0, 1) := by decide +kernel
theorem dX8_count_118 : decode cX8_count 118 = .ok (.getfield 19, 3) := by decide +kernel
theorem dX8_count_121 : decode cX8_count 121 = .ok (.bipush 9, 2) := by decide +kernel
theorem dX8_count_123 : decode cX8_count 123 = .ok (.iaload, 1) := by decide +kernel
theorem dX8_count_124 : decode cX8_count 124 = .ok (.ireturn, 1) := by decide +kernel
theorem dX8_count_125 : decode cX8_count 125 = .ok (.aload_n 0, 1) := by decide +kernel
theorem dX8_count_126 : decode cX8_count 126 = .ok (.getfield 19, 3) := by decide +kernel
theorem dX8_count_129 : decode cX8_count 129 = .ok (.bipush 10, 2) := by decide +kernel
theorem dX8_count_131 : decode cX8_count 131 = .ok (.iaload, 1) := by decide +kernel
theorem dX8_count_132 : decode cX8_count 132 = .ok (.ireturn, 1) := by decide +kernel
theorem dX8_count_133 : decode cX8_count 133 = .ok (.aload_n 0, 1) := by decide +kernel
theorem dX8_count_134 : decode cX8_count 134 = .ok (.getfield 276, 3) := by decide +kernel
theorem dX8_count_137 : decode cX8_count 137 = .ok (.ireturn, 1) := by decide +kernel
theorem dX8_count_138 : decode cX8_count 138 = .ok (.aload_n 0, 1) := by decide +kernel
theorem dX8_count_139 : decode cX8_count 139 = .ok (.getfield 183, 3) := by decide +kernel
theorem dX8_count_142 : decode cX8_count 142 = .ok (.ireturn, 1) := by decide +kernel
theorem dX8_count_143 : decode cX8_count 143 = .ok (.aload_n 0, 1) := by decide +kernel
theorem dX8_count_144 : decode cX8_count 144 = .ok (.getfield 105, 3) := by decide +kernel
theorem dX8_count_147 : decode cX8_count 147 = .ok (.ireturn, 1) := by decide +kernel
theorem dX8_count_148 : decode cX8_count 148 = .ok (.ldc 98, 2) := by decide +kernel
theorem dX8_count_150 : decode cX8_count 150 = .ok (.ireturn, 1) := by decide +kernel
theorem dX8_status_0 : decode cX8_status 0 = .ok (.aload_n 0, 1) := by decide +kernel
theorem dX8_status_1 : decode cX8_status 1 = .ok (.iconst 0, 1) := by decide +kernel
theorem dX8_status_2 : decode cX8_status 2 = .ok (.putfield 79, 3) := by decide +kernel
theorem dX8_status_5 : decode cX8_status 5 = .ok (.aload_n 0, 1) := by decide +kernel
theorem dX8_status_6 : decode cX8_status 6 = .ok (.getfield 82, 3) := by decide +kernel
theorem dX8_status_9 : decode cX8_status 9 = .ok (.ireturn, 1) := by decide +kernel
theorem dJ6_bitCount_0f7a4_0 : decode cJ6_bitCount_0f7a4 0 = .ok (.iload_n 0, 1) := by decide +kernel
theorem dJ6_bitCount_0f7a4_1 : decode cJ6_bitCount_0f7a4 1 = .ok (.iload_n 0, 1) := by decide +kernel
theorem dJ6_bitCount_0f7a4_2 : decode cJ6_bitCount_0f7a4 2 = .ok (.iconst 1, 1) := by decide +kernel
theorem dJ6_bitCount_0f7a4_3 : decode cJ6_bitCount_0f7a4 3 = .ok (.iushr, 1) := by decide +kernel
theorem dJ6_bitCount_0f7a4_4 : decode cJ6_bitCount_0f7a4 4 = .ok (.ldc_w 265, 3) := by decide +kernel
theorem dJ6_bitCount_0f7a4_7 : decode cJ6_bitCount_0f7a4 7 = .ok (.iand, 1) := by decide +kernel
theorem dJ6_bitCount_0f7a4_8 : decode cJ6_bitCount_0f7a4 8 = .ok (.isub, 1) := by decide +kernel
theorem dJ6_bitCount_0f7a4_9 : decode cJ6_bitCount_0f7a4 9 = .ok (.istore_n 0, 1) := by decide +kernel
theorem dJ6_bitCount_0f7a4_10 : decode cJ6_bitCount_0f7a4 10 = .ok (.iload_n 0, 1) := by decide +kernel
theorem dJ6_bitCount_0f7a4_11 : decode cJ6_bitCount_0f7a4 11 = .ok (.ldc_w 266, 3) := by decide +kernel
theorem dJ6_bitCount_0f7a4_14 : decode cJ6_bitCount_0f7a4 14 = .ok (.iand, 1) := by decide +kernel
theorem dJ6_bitCount_0f7a4_15 : decode cJ6_bitCount_0f7a4 15 = .ok (.iload_n 0, 1) := by decide +kernel
theorem dJ6_bitCount_0f7a4_16 : decode cJ6_bitCount_0f7a4 16 = .ok (.iconst 2, 1) := by decide +kernel
theorem dJ6_bitCount_0f7a4_17 : decode cJ6_bitCount_0f7a4 17 = .ok (.iushr, 1) := by decide +kernel
theorem dJ6_bitCount_0f7a4_18 : decode cJ6_bitCount_0f7a4 18 = .ok (.ldc_w 266, 3) := by decide +kernel
theorem dJ6_bitCount_0f7a4_21 : decode cJ6_bitCount_0f7a4 21 = .ok (.iand, 1) := by decide +kernel
theorem dJ6_bitCount_0f7a4_22 : decode cJ6_bitCount_0f7a4 22 = .ok (.iadd, 1) := by decide +kernel
theorem dJ6_bitCount_0f7a4_23 : decode cJ6_bitCount_0f7a4 23 = .ok (.istore_n 0, 1) := by decide +kernel
theorem dJ6_bitCount_0f7a4_24 : decode cJ6_bitCount_0f7a4 24 = .ok (.iload_n 0, 1) := by decide +kernel
theorem dJ6_bitCount_0f7a4_25 : decode cJ6_bitCount_0f7a4 25 = .ok (.iload_n 0, 1) := by decide +kernel
theorem dJ6_bitCount_0f7a4_26 : decode cJ6_bitCount_0f7a4 26 = .ok (.iconst 4, 1) := by decide +kernel
theorem dJ6_bitCount_0f7a4_27 : decode cJ6_bitCount_0f7a4 27 = .ok (.iushr, 1) := by decide +kernel
theorem dJ6_bitCount_0f7a4_28 : decode cJ6_bitCount_0f7a4 28 = .ok (.iadd, 1) := by decide +kernel
theorem dJ6_bitCount_0f7a4_29 : decode cJ6_bitCount_0f7a4 29 = .ok (.ldc_w 267, 3) := by decide +kernel
theorem dJ6_bitCount_0f7a4_32 : decode cJ6_bitCount_0f7a4 32 = .ok (.iand, 1) := by decide +kernel
theorem dJ6_bitCount_0f7a4_33 : decode cJ6_bitCount_0f7a4 33 = .ok (.istore_n 0, 1) := by decide +kernel
theorem dJ6_bitCount_0f7a4_34 : decode cJ6_bitCount_0f7a4 34 = .ok (.iload_n 0, 1) := by decide +kernel
theorem dJ6_bitCount_0f7a4_35 : decode cJ6_bitCount_0f7a4 35 = .ok (.iload_n 0, 1) := by decide +kernel
theorem dJ6_bitCount_0f7a4_36 : decode cJ6_bitCount_0f7a4 36 = .ok (.bipush 8, 2) := by decide +kernel
theorem dJ6_bitCount_0f7a4_38 : decode cJ6_bitCount_0f7a4 38 = .ok (.iushr, 1) := by decide +kernel
theorem dJ6_bitCount_0f7a4_39 : decode cJ6_bitCount_0f7a4 39 = .ok (.iadd, 1) := by decide +kernel
theorem dJ6_bitCount_0f7a4_40 : decode cJ6_bitCount_0f7a4 40 = .ok (.istore_n 0, 1) := by decide +kernel
theorem dJ6_bitCount_0f7a4_41 : decode cJ6_bitCount_0f7a4 41 = .ok (.iload_n 0, 1) := by decide +kernel
theorem dJ6_bitCount_0f7a4_42 : decode cJ6_bitCount_0f7a4 42 = .ok (.iload_n 0, 1) := by decide +kernel
theorem dJ6_bitCount_0f7a4_43 : decode cJ6_bitCount_0f7a4 43 = .ok (.bipush 16, 2) := by decide +kernel
theorem dJ6_bitCount_0f7a4_45 : decode cJ6_bitCount_0f7a4 45 = .ok (.iushr, 1) := by decide +kernel
theorem dJ6_bitCount_0f7a4_46 : decode cJ6_bitCount_0f7a4 46 = .ok (.iadd, 1) := by decide +kernel
theorem dJ6_bitCount_0f7a4_47 : decode cJ6_bitCount_0f7a4 47 = .ok (.istore_n 0, 1) := by decide +kernel
theorem dJ6_bitCount_0f7a4_48 : decode cJ6_bitCount_0f7a4 48 = .ok (.iload_n 0, 1) := by decide +kernel
theorem dJ6_bitCount_0f7a4_49 : decode cJ6_bitCount_0f7a4 49 = .ok (.bipush 63, 2) := by decide +kernel
theorem dJ6_bitCount_0f7a4_51 : decode cJ6_bitCount_0f7a4 51 = .ok (.iand, 1) := by decide +kernel
theorem dJ6_bitCount_0f7a4_52 : decode cJ6_bitCount_0f7a4 52 = .ok (.ireturn, 1) := by decide +kernel
theorem dJ6_signum_0f7a4_0 : decode cJ6_signum_0f7a4 0 = .ok (.iload_n 0, 1) := by decide +kernel
theorem dJ6_signum_0f7a4_1 : decode cJ6_signum_0f7a4 1 = .ok (.bipush 31, 2) := by decide +kernel
theorem dJ6_signum_0f7a4_3 : decode cJ6_signum_0f7a4 3 = .ok (.ishr, 1) := by decide +kernel
theorem dJ6_signum_0f7a4_4 : decode cJ6_signum_0f7a4 4 = .ok (.iload_n 0, 1) := by decide +kernel
theorem dJ6_signum_0f7a4_5 : decode cJ6_signum_0f7a4 5 = .ok (.ineg, 1) := by decide +kernel
theorem dJ6_signum_0f7a4_6 : decode cJ6_signum_0f7a4 6 = .ok (.bipush 31, 2) := by decide +kernel
theorem dJ6_signum_0f7a4_8 : decode cJ6_signum_0f7a4 8 = .ok (.iushr, 1) := by decide +kernel
theorem dJ6_signum_0f7a4_9 : decode cJ6_signum_0f7a4 9 = .ok (.ior, 1) := by decide +kernel
theorem dJ6_signum_0f7a4_10 : decode cJ6_signum_0f7a4 10 = .ok (.ireturn, 1) := by decide +kernel
theorem dJ9_abs_0f7a4_0 : decode cJ9_abs_0f7a4 0 = .ok (.iload_n 0, 1) := by decide +kernel
theorem dJ9_abs_0f7a4_1 : decode cJ9_abs_0f7a4 1 = .ok (.ifCond .ge 8, 3) := by decide +kernel
theorem dJ9_abs_0f7a4_4 : decode cJ9_abs_0f7a4 4 = .ok (.iload_n 0, 1) := by decide +kernel
theorem dJ9_abs_0f7a4_5 : decode cJ9_abs_0f7a4 5 = .ok (.ineg, 1) := by decide +kernel
theorem dJ9_abs_0f7a4_6 : decode cJ9_abs_0f7a4 6 = .ok (.goto 4, 3) := by decide +kernel
theorem dJ9_abs_0f7a4_9 : decode cJ9_abs_0f7a4 9 = .ok (.iload_n 0, 1) := by decide +kernel
theorem dJ9_abs_0f7a4_10 : decode cJ9_abs_0f7a4 10 = .ok (.ireturn, 1) := by decide +kernel
theorem dJ9_abs_067f4_0 : decode cJ9_abs_067f4 0 = .ok (.lload_n 0, 1) := by decide +kernel
theorem dJ9_abs_067f4_1 : decode cJ9_abs_067f4 1 = .ok (.lconst 0, 1) := by decide +kernel
theorem dJ9_abs_067f4_2 : decode cJ9_abs_067f4 2 = .ok (.lcmp, 1) := by decide +kernel
theorem dJ9_abs_067f4_3 : decode cJ9_abs_067f4 3 = .ok (.ifCond .ge 8, 3) := by decide +kernel
theorem dJ9_abs_067f4_6 : decode cJ9_abs_067f4 6 = .ok (.lload_n 0, 1) := by decide +kernel
theorem dJ9_abs_067f4_7 : decode cJ9_abs_067f4 7 = .ok (.lneg, 1) := by decide +kernel
theorem dJ9_abs_067f4_8 : decode cJ9_abs_067f4 8 = .ok (.goto 4, 3) := by decide +kernel
theorem dJ9_abs_067f4_11 : decode cJ9_abs_067f4 11 = .ok (.lload_n 0, 1) := by decide +kernel
theorem dJ9_abs_067f4_12 : decode cJ9_abs_067f4 12 = .ok (.lreturn, 1) := by decide +kernel
theorem dJ9_max_7cf53_0 : decode cJ9_max_7cf53 0 = .ok (.iload_n 0, 1) := by decide +kernel
theorem dJ9_max_7cf53_1 : decode cJ9_max_7cf53 1 = .ok (.iload_n 1, 1) := by decide +kernel
theorem dJ9_max_7cf53_2 : decode cJ9_max_7cf53 2 = .ok (.if_icmp .lt 7, 3) := by decide +kernel
theorem dJ9_max_7cf53_5 : decode cJ9_max_7cf53 5 = .ok (.iload_n 0, 1) := by decide +kernel
theorem dJ9_max_7cf53_6 : decode cJ9_max_7cf53 6 = .ok (.goto 4, 3) := by decide +kernel
theorem dJ9_max_7cf53_9 : decode cJ9_max_7cf53 9 = .ok (.iload_n 1, 1) := by decide +kernel
theorem dJ9_max_7cf53_10 : decode cJ9_max_7cf53 10 = .ok (.ireturn, 1) := by decide +kernel
theorem dJ9_min_7cf53_0 : decode cJ9_min_7cf53 0 = .ok (.iload_n 0, 1) := by decide +kernel
theorem dJ9_min_7cf53_1 : decode cJ9_min_7cf53 1 = .ok (.iload_n 1, 1) := by decide +kernel
theorem dJ9_min_7cf53_2 : decode cJ9_min_7cf53 2 = .ok (.if_icmp .gt 7, 3) := by decide +kernel
theorem dJ9_min_7cf53_5 : decode cJ9_min_7cf53 5 = .ok (.iload_n 0, 1) := by decide +kernel
theorem dJ9_min_7cf53_6 : decode cJ9_min_7cf53 6 = .ok (.goto 4, 3) := by decide +kernel
theorem dJ9_min_7cf53_9 : decode cJ9_min_7cf53 9 = .ok (.iload_n 1, 1) := by decide +kernel
theorem dJ9_min_7cf53_10 : decode cJ9_min_7cf53 10 = .ok (.ireturn, 1) := by decide +kernel
theorem dJ0_length_8abf5_0 : decode cJ0_length_8abf5 0 = .ok (.aload_n 0, 1) := by decide +kernel
theorem dJ0_length_8abf5_1 : decode cJ0_length_8abf5 1 = .ok (.getfield 9, 3) := by decide +kernel
theorem dJ0_length_8abf5_4 : decode cJ0_length_8abf5 4 = .ok (.arraylength, 1) := by decide +kernel
theorem dJ0_length_8abf5_5 : decode cJ0_length_8abf5 5 = .ok (.aload_n 0, 1) := by decide +kernel
theorem dJ0_length_8abf5_6 : decode cJ0_length_8abf5 6 = .ok (.invokevirtual 335, 3) := by decide +kernel
theorem dJ0_length_8abf5_9 : decode cJ0_length_8abf5 9 = .ok (.ishr, 1) := by decide +kernel
theorem dJ0_length_8abf5_10 : decode cJ0_length_8abf5 10 = .ok (.ireturn, 1) := by decide +kernel
theorem dJ0_indexOf_0f7a4_0 : decode cJ0_indexOf_0f7a4 0 = .ok (.aload_n 0, 1) := by decide +kernel
theorem dJ0_indexOf_0f7a4_1 : decode cJ0_indexOf_0f7a4 1 = .ok (.iload_n 1, 1) := by decide +kernel
theorem dJ0_indexOf_0f7a4_2 : decode cJ0_indexOf_0f7a4 2 = .ok (.iconst 0, 1) := by decide +kernel
theorem dJ0_indexOf_0f7a4_3 : decode cJ0_indexOf_0f7a4 3 = .ok (.invokevirtual 633, 3) := by decide +kernel
theorem dJ0_indexOf_0f7a4_6 : decode cJ0_indexOf_0f7a4 6 = .ok (.ireturn, 1) := by decide +kernel
theorem dJ0_indexOf_7cf53_0 : decode cJ0_indexOf_7cf53 0 = .ok (.aload_n 0, 1) := by decide +kernel
theorem dJ0_indexOf_7cf53_1 : decode cJ0_indexOf_7cf53 1 = .ok (.invokevirtual 492, 3) := by decide +kernel
theorem dJ0_indexOf_7cf53_4 : decode cJ0_indexOf_7cf53 4 = .ok (.ifCond .eq 19, 3) := by decide +kernel
theorem dJ0_indexOf_7cf53_7 : decode cJ0_indexOf_7cf53 7 = .ok (.aload_n 0, 1) := by decide +kernel
theorem dJ0_indexOf_7cf53_8 : decode cJ0_indexOf_7cf53 8 = .ok (.getfield 9, 3) := by decide +kernel
theorem dJ0_indexOf_7cf53_11 : decode cJ0_indexOf_7cf53 11 = .ok (.iload_n 1, 1) := by decide +kernel
theorem dJ0_indexOf_7cf53_12 : decode cJ0_indexOf_7cf53 12 = .ok (.iload_n 2, 1) := by decide +kernel
theorem dJ0_indexOf_7cf53_13 : decode cJ0_indexOf_7cf53 13 = .ok (.aload_n 0, 1) := by decide +kernel
theorem dJ0_indexOf_7cf53_14 : decode cJ0_indexOf_7cf53 14 = .ok (.invokevirtual 505, 3) := by decide +kernel
theorem dJ0_indexOf_7cf53_17 : decode cJ0_indexOf_7cf53 17 = .ok (.invokestatic 637, 3) := by decide +kernel
theorem dJ0_indexOf_7cf53_20 : decode cJ0_indexOf_7cf53 20 = .ok (.goto 16, 3) := by decide +kernel
theorem dJ0_indexOf_7cf53_23 : decode cJ0_indexOf_7cf53 23 = .ok (.aload_n 0, 1) := by decide +kernel
theorem dJ0_indexOf_7cf53_24 : decode cJ0_indexOf_7cf53 24 = .ok (.getfield 9, 3) := by decide +kernel
theorem dJ0_indexOf_7cf53_27 : decode cJ0_indexOf_7cf53 27 = .ok (.iload_n 1, 1) := by decide +kernel
theorem dJ0_indexOf_7cf53_28 : decode cJ0_indexOf_7cf53 28 = .ok (.iload_n 2, 1) := by decide +kernel
theorem dJ0_indexOf_7cf53_29 : decode cJ0_indexOf_7cf53 29 = .ok (.aload_n 0, 1) := by decide +kernel
theorem dJ0_indexOf_7cf53_30 : decode cJ0_indexOf_7cf53 30 = .ok (.invokevirtual 505, 3) := by decide +kernel
theorem dJ0_indexOf_7cf53_33 : decode cJ0_indexOf_7cf53 33 = .ok (.invokestatic 640, 3) := by decide +kernel
theorem dJ0_indexOf_7cf53_36 : decode cJ0_indexOf_7cf53 36 = .ok (.ireturn, 1) := by decide +kernel
theorem dJ0_coder_7d493_0 : decode cJ0_coder_7d493 0 = .ok (.getstatic 38, 3) := by decide +kernel
theorem dJ0_coder_7d493_3 : decode cJ0_coder_7d493 3 = .ok (.ifCond .eq 10, 3) := by decide +kernel
theorem dJ0_coder_7d493_6 : decode cJ0_coder_7d493 6 = .ok (.aload_n 0, 1) := by decide +kernel
theorem dJ0_coder_7d493_7 : decode cJ0_coder_7d493 7 = .ok (.getfield 15, 3) := by decide +kernel
theorem dJ0_coder_7d493_10 : decode cJ0_coder_7d493 10 = .ok (.goto 4, 3) := by decide +kernel
theorem dJ0_coder_7d493_13 : decode cJ0_coder_7d493 13 = .ok (.iconst 1, 1) := by decide +kernel
theorem dJ0_coder_7d493_14 : decode cJ0_coder_7d493 14 = .ok (.ireturn, 1) := by decide +kernel
theorem dJ0_isLatin1_aae02_0 : decode cJ0_isLatin1_aae02 0 = .ok (.getstatic 38, 3) := by decide +kernel
theorem dJ0_isLatin1_aae02_3 : decode cJ0_isLatin1_aae02 3 = .ok (.ifCond .eq 14, 3) := by decide +kernel
theorem dJ0_isLatin1_aae02_6 : decode cJ0_isLatin1_aae02 6 = .ok (.aload_n 0, 1) := by decide +kernel
theorem dJ0_isLatin1_aae02_7 : decode cJ0_isLatin1_aae02 7 = .ok (.getfield 15, 3) := by decide +kernel
theorem dJ0_isLatin1_aae02_10 : decode cJ0_isLatin1_aae02 10 = .ok (.ifCond .ne 7, 3) := by decide +kernel
theorem dJ0_isLatin1_aae02_13 : decode cJ0_isLatin1_aae02 13 = .ok (.iconst 1, 1) := by decide +kernel
theorem dJ0_isLatin1_aae02_14 : decode cJ0_isLatin1_aae02 14 = .ok (.goto 4, 3) := by decide +kernel
theorem dJ0_isLatin1_aae02_17 : decode cJ0_isLatin1_aae02 17 = .ok (.iconst 0, 1) := by decide +kernel
theorem dJ0_isLatin1_aae02_18 : decode cJ0_isLatin1_aae02 18 = .ok (.ireturn, 1) := by decide +kernel
theorem dJ0_checkBoundsBeginEnd_23922_0 : decode cJ0_checkBoundsBeginEnd_23922 0 = .ok (.iload_n 0, 1) := by decide +kernel
theorem dJ0_checkBoundsBeginEnd_23922_1 : decode cJ0_checkBoundsBeginEnd_23922 1 = .ok (.iload_n 1, 1) := by decide +kernel
theorem dJ0_checkBoundsBeginEnd_23922_2 : decode cJ0_checkBoundsBeginEnd_23922 2 = .ok (.iload_n 2, 1) := by decide +kernel
theorem dJ0_checkBoundsBeginEnd_23922_3 : decode cJ0_checkBoundsBeginEnd_23922 3 = .ok (.getstatic 1053, 3) := by decide +kernel
theorem dJ0_checkBoundsBeginEnd_23922_6 : decode cJ0_checkBoundsBeginEnd_23922 6 = .ok (.invokestatic 1062, 3) := by decide +kernel
theorem dJ0_checkBoundsBeginEnd_23922_9 : decode cJ0_checkBoundsBeginEnd_23922 9 = .ok (.pop, 1) := by decide +kernel
theorem dJ0_checkBoundsBeginEnd_23922_10 : decode cJ0_checkBoundsBeginEnd_23922 10 = .ok (.return_, 1) := by decide +kernel
theorem dJ1_canEncode_9a6ad_0 : decode cJ1_canEncode_9a6ad 0 = .ok (.iload_n 0, 1) := by decide +kernel
theorem dJ1_canEncode_9a6ad_1 : decode cJ1_canEncode_9a6ad 1 = .ok (.ifCond .lt 14, 3) := by decide +kernel
theorem dJ1_canEncode_9a6ad_4 : decode cJ1_canEncode_9a6ad 4 = .ok (.iload_n 0, 1) := by decide +kernel
theorem dJ1_canEncode_9a6ad_5 : decode cJ1_canEncode_9a6ad 5 = .ok (.sipush 255, 3) := by decide +kernel
theorem dJ1_canEncode_9a6ad_8 : decode cJ1_canEncode_9a6ad 8 = .ok (.if_icmp .gt 7, 3) := by decide +kernel
theorem dJ1_canEncode_9a6ad_11 : decode cJ1_canEncode_9a6ad 11 = .ok (.iconst 1, 1) := by decide +kernel
theorem dJ1_canEncode_9a6ad_12 : decode cJ1_canEncode_9a6ad 12 = .ok (.goto 4, 3) := by decide +kernel
theorem dJ1_canEncode_9a6ad_15 : decode cJ1_canEncode_9a6ad 15 = .ok (.iconst 0, 1) := by decide +kernel
theorem dJ1_canEncode_9a6ad_16 : decode cJ1_canEncode_9a6ad 16 = .ok (.ireturn, 1) := by decide +kernel
theorem dJ1_indexOf_4cfef_0 : decode cJ1_indexOf_4cfef 0 = .ok (.iload_n 1, 1) := by decide +kernel
theorem dJ1_indexOf_4cfef_1 : decode cJ1_indexOf_4cfef 1 = .ok (.invokestatic 88, 3) := by decide +kernel
theorem dJ1_indexOf_4cfef_4 : decode cJ1_indexOf_4cfef 4 = .ok (.ifCond .ne 5, 3) := by decide +kernel
theorem dJ1_indexOf_4cfef_7 : decode cJ1_indexOf_4cfef 7 = .ok (.iconst (-1), 1) := by decide +kernel
theorem dJ1_indexOf_4cfef_8 : decode cJ1_indexOf_4cfef 8 = .ok (.ireturn, 1) := by decide +kernel
theorem dJ1_indexOf_4cfef_9 : decode cJ1_indexOf_4cfef 9 = .ok (.iload_n 2, 1) := by decide +kernel
theorem dJ1_indexOf_4cfef_10 : decode cJ1_indexOf_4cfef 10 = .ok (.iconst 0, 1) := by decide +kernel
theorem dJ1_indexOf_4cfef_11 : decode cJ1_indexOf_4cfef 11 = .ok (.invokestatic 92, 3) := by decide +kernel
theorem dJ1_indexOf_4cfef_14 : decode cJ1_indexOf_4cfef 14 = .ok (.istore_n 2, 1) := by decide +kernel
theorem dJ1_indexOf_4cfef_15 : decode cJ1_indexOf_4cfef 15 = .ok (.iload_n 3, 1) := by decide +kernel
theorem dJ1_indexOf_4cfef_16 : decode cJ1_indexOf_4cfef 16 = .ok (.aload_n 0, 1) := by decide +kernel
theorem dJ1_indexOf_4cfef_17 : decode cJ1_indexOf_4cfef 17 = .ok (.arraylength, 1) := by decide +kernel
theorem dJ1_indexOf_4cfef_18 : decode cJ1_indexOf_4cfef 18 = .ok (.invokestatic 38, 3) := by decide +kernel
theorem dJ1_indexOf_4cfef_21 : decode cJ1_indexOf_4cfef 21 = .ok (.istore_n 3, 1) := by decide +kernel
theorem dJ1_indexOf_4cfef_22 : decode cJ1_indexOf_4cfef 22 = .ok (.iload_n 2, 1) := by decide +kernel
theorem dJ1_indexOf_4cfef_23 : decode cJ1_indexOf_4cfef 23 = .ok (.iload_n 3, 1) := by decide +kernel
theorem dJ1_indexOf_4cfef_24 : decode cJ1_indexOf_4cfef 24 = .ok (.if_icmp .lt 5, 3) := by decide +kernel
theorem dJ1_indexOf_4cfef_27 : decode cJ1_indexOf_4cfef 27 = .ok (.iconst (-1), 1) := by decide +kernel
theorem dJ1_indexOf_4cfef_28 : decode cJ1_indexOf_4cfef 28 = .ok (.ireturn, 1) := by decide +kernel
theorem dJ1_indexOf_4cfef_29 : decode cJ1_indexOf_4cfef 29 = .ok (.aload_n 0, 1) := by decide +kernel
theorem dJ1_indexOf_4cfef_30 : decode cJ1_indexOf_4cfef 30 = .ok (.iload_n 1, 1) := by decide +kernel
theorem dJ1_indexOf_4cfef_31 : decode cJ1_indexOf_4cfef 31 = .ok (.iload_n 2, 1) := by decide +kernel
theorem dJ1_indexOf_4cfef_32 : decode cJ1_indexOf_4cfef 32 = .ok (.iload_n 3, 1) := by decide +kernel
theorem dJ1_indexOf_4cfef_33 : decode cJ1_indexOf_4cfef 33 = .ok (.invokestatic 95, 3) := by decide +kernel
theorem dJ1_indexOf_4cfef_36 : decode cJ1_indexOf_4cfef 36 = .ok (.ireturn, 1) := by decide +kernel
theorem dJ1_indexOfChar_4cfef_0 : decode cJ1_indexOfChar_4cfef 0 = .ok (.iload_n 1, 1) := by decide +kernel
theorem dJ1_indexOfChar_4cfef_1 : decode cJ1_indexOfChar_4cfef 1 = .ok (.i2b, 1) := by decide +kernel
theorem dJ1_indexOfChar_4cfef_2 : decode cJ1_indexOfChar_4cfef 2 = .ok (.istore 4, 2) := by decide +kernel
theorem dJ1_indexOfChar_4cfef_4 : decode cJ1_indexOfChar_4cfef 4 = .ok (.iload_n 2, 1) := by decide +kernel
theorem dJ1_indexOfChar_4cfef_5 : decode cJ1_indexOfChar_4cfef 5 = .ok (.istore 5, 2) := by decide +kernel
theorem dJ1_indexOfChar_4cfef_7 : decode cJ1_indexOfChar_4cfef 7 = .ok (.iload 5, 2) := by decide +kernel
theorem dJ1_indexOfChar_4cfef_9 : decode cJ1_indexOfChar_4cfef 9 = .ok (.iload_n 3, 1) := by decide +kernel
theorem dJ1_indexOfChar_4cfef_10 : decode cJ1_indexOfChar_4cfef 10 = .ok (.if_icmp .ge 21, 3) := by decide +kernel
theorem dJ1_indexOfChar_4cfef_13 : decode cJ1_indexOfChar_4cfef 13 = .ok (.aload_n 0, 1) := by decide +kernel
theorem dJ1_indexOfChar_4cfef_14 : decode cJ1_indexOfChar_4cfef 14 = .ok (.iload 5, 2) := by decide +kernel
theorem dJ1_indexOfChar_4cfef_16 : decode cJ1_indexOfChar_4cfef 16 = .ok (.baload, 1) := by decide +kernel
theorem dJ1_indexOfChar_4cfef_17 : decode cJ1_indexOfChar_4cfef 17 = .ok (.iload 4, 2) := by decide +kernel
theorem dJ1_indexOfChar_4cfef_19 : decode cJ1_indexOfChar_4cfef 19 = .ok (.if_icmp .ne 6, 3) := by decide +kernel
theorem dJ1_indexOfChar_4cfef_22 : decode cJ1_indexOfChar_4cfef 22 = .ok (.iload 5, 2) := by decide +kernel
theorem dJ1_indexOfChar_4cfef_24 : decode cJ1_indexOfChar_4cfef 24 = .ok (.ireturn, 1) := by decide +kernel
theorem dJ1_indexOfChar_4cfef_25 : decode cJ1_indexOfChar_4cfef 25 = .ok (.iinc 5 1, 3) := by decide +kernel
theorem dJ1_indexOfChar_4cfef_28 : decode cJ1_indexOfChar_4cfef 28 = .ok (.goto (-21), 3) := by decide +kernel
theorem dJ1_indexOfChar_4cfef_31 : decode cJ1_indexOfChar_4cfef 31 = .ok (.iconst (-1), 1) := by decide +kernel
theorem dJ1_indexOfChar_4cfef_32 : decode cJ1_indexOfChar_4cfef 32 = .ok (.ireturn, 1) := by decide +kernel
theorem dJ7_fill_53178_0 : decode cJ7_fill_53178 0 = .ok (.iconst 0, 1) := by decide +kernel
theorem dJ7_fill_53178_1 : decode cJ7_fill_53178 1 = .ok (.istore_n 2, 1) := by decide +kernel
theorem dJ7_fill_53178_2 : decode cJ7_fill_53178 2 = .ok (.aload_n 0, 1) := by decide +kernel
theorem dJ7_fill_53178_3 : decode cJ7_fill_53178 3 = .ok (.arraylength, 1) := by decide +kernel
theorem dJ7_fill_53178_4 : decode cJ7_fill_53178 4 = .ok (.istore_n 3, 1) := by decide +kernel
theorem dJ7_fill_53178_5 : decode cJ7_fill_53178 5 = .ok (.iload_n 2, 1) := by decide +kernel
theorem dJ7_fill_53178_6 : decode cJ7_fill_53178 6 = .ok (.iload_n 3, 1) := by decide +kernel
theorem dJ7_fill_53178_7 : decode cJ7_fill_53178 7 = .ok (.if_icmp .ge 13, 3) := by decide +kernel
theorem dJ7_fill_53178_10 : decode cJ7_fill_53178 10 = .ok (.aload_n 0, 1) := by decide +kernel
theorem dJ7_fill_53178_11 : decode cJ7_fill_53178 11 = .ok (.iload_n 2, 1) := by decide +kernel
theorem dJ7_fill_53178_12 : decode cJ7_fill_53178 12 = .ok (.iload_n 1, 1) := by decide +kernel
theorem dJ7_fill_53178_13 : decode cJ7_fill_53178 13 = .ok (.iastore, 1) := by decide +kernel
theorem dJ7_fill_53178_14 : decode cJ7_fill_53178 14 = .ok (.iinc 2 1, 3) := by decide +kernel
theorem dJ7_fill_53178_17 : decode cJ7_fill_53178 17 = .ok (.goto (-12), 3) := by decide +kernel
theorem dJ7_fill_53178_20 : decode cJ7_fill_53178 20 = .ok (.return_, 1) := by decide +kernel
end
section
theorem dL_law_0 : decode cL_law 0 = .ok (.new 7, 3) := by decide +kernel
theorem dL_law_3 : decode cL_law 3 = .ok (.dup, 1) := by decide +kernel
theorem dL_law_4 : decode cL_law 4 = .ok (.invokespecial 9, 3) := by decide +kernel
theorem dL_law_7 : decode cL_law 7 = .ok (.astore_n 1, 1) := by decide +kernel
theorem dL_law_8 : decode cL_law 8 = .ok (.new 10, 3) := by decide +kernel
theorem dL_law_11 : decode cL_law 11 = .ok (.dup, 1) := by decide +kernel
theorem dL_law_12 : decode cL_law 12 = .ok (.invokespecial 12, 3) := by decide +kernel
theorem dL_law_15 : decode cL_law 15 = .ok (.astore_n 2, 1) := by decide +kernel
theorem dL_law_16 : decode cL_law 16 = .ok (.iconst 0, 1) := by decide +kernel
theorem dL_law_17 : decode cL_law 17 = .ok (.istore_n 3, 1) := by decide +kernel
theorem dL_law_18 : decode cL_law 18 = .ok (.iload_n 3, 1) := by decide +kernel
theorem dL_law_19 : decode cL_law 19 = .ok (.aload_n 0, 1) := by decide +kernel
theorem dL_law_20 : decode cL_law 20 = .ok (.arraylength, 1) := by decide +kernel
theorem dL_law_21 : decode cL_law 21 = .ok (.bipush 6, 2) := by decide +kernel
theorem dL_law_23 : decode cL_law 23 = .ok (.isub, 1) := by decide +kernel
theorem dL_law_24 : decode cL_law 24 = .ok (.if_icmp .gt 1253, 3) := by decide +kernel
theorem dL_law_27 : decode cL_law 27 = .ok (.aload_n 0, 1) := by decide +kernel
theorem dL_law_28 : decode cL_law 28 = .ok (.iload_n 3, 1) := by decide +kernel
theorem dL_law_29 : decode cL_law 29 = .ok (.iaload, 1) := by decide +kernel
theorem dL_law_30 : decode cL_law 30 = .ok (.bipush 63, 2) := by decide +kernel
theorem dL_law_32 : decode cL_law 32 = .ok (.iand, 1) := by decide +kernel
theorem dL_law_33 : decode cL_law 33 = .ok (.tableswitch 1238 0 35 #[159, 202, 245, 308, 331, 354, 367, 380, 393, 446, 459, 492, 525, 538, 571, 604, 637, 660, 693, 736, 769, 792, 835, 899, 932, 955, 998, 1031, 1044, 1067, 1090, 1113, 1146, 1179, 1202, 1225], 159) := by decide +kernel
theorem dL_law_192 : decode cL_law 192 = .ok (.aload_n 1, 1) := by decide +kernel
theorem dL_law_193 : decode cL_law 193 = .ok (.aload_n 0, 1) := by decide +kernel
theorem dL_law_194 : decode cL_law 194 = .ok (.iload_n 3, 1) := by decide +kernel
theorem dL_law_195 : decode cL_law 195 = .ok (.iconst 1, 1) := by decide +kernel
theorem dL_law_196 : decode cL_law 196 = .ok (.iadd, 1) := by decide +kernel
theorem dL_law_197 : decode cL_law 197 = .ok (.iaload, 1) := by decide +kernel
theorem dL_law_198 : decode cL_law 198 = .ok (.aload_n 0, 1) := by decide +kernel
theorem dL_law_199 : decode cL_law 199 = .ok (.iload_n 3, 1) := by decide +kernel
theorem dL_law_200 : decode cL_law 200 = .ok (.iconst 2, 1) := by decide +kernel
theorem dL_law_201 : decode cL_law 201 = .ok (.iadd, 1) := by decide +kernel
theorem dL_law_202 : decode cL_law 202 = .ok (.iaload, 1) := by decide +kernel
theorem dL_law_203 : decode cL_law 203 = .ok (.aload_n 0, 1) := by decide +kernel
theorem dL_law_204 : decode cL_law 204 = .ok (.iload_n 3, 1) := by decide +kernel
theorem dL_law_205 : decode cL_law 205 = .ok (.iconst 3, 1) := by decide +kernel
theorem dL_law_206 : decode cL_law 206 = .ok (.iadd, 1) := by decide +kernel
theorem dL_law_207 : decode cL_law 207 = .ok (.iaload, 1) := by decide +kernel
theorem dL_law_208 : decode cL_law 208 = .ok (.invokevirtual 13, 3) := by decide +kernel
theorem dL_law_211 : decode cL_law 211 = .ok (.aload_n 2, 1) := by decide +kernel
theorem dL_law_212 : decode cL_law 212 = .ok (.aload_n 0, 1) := by decide +kernel
theorem dL_law_213 : decode cL_law 213 = .ok (.iload_n 3, 1) := by decide +kernel
theorem dL_law_214 : decode cL_law 214 = .ok (.iconst 1, 1) := by decide +kernel
theorem dL_law_215 : decode cL_law 215 = .ok (.iadd, 1) := by decide +kernel
theorem dL_law_216 : decode cL_law 216 = .ok (.iaload, 1) := by decide +kernel
theorem dL_law_217 : decode cL_law 217 = .ok (.aload_n 0, 1) := by decide +kernel
theorem dL_law_218 : decode cL_law 218 = .ok (.iload_n 3, 1) := by decide +kernel
theorem dL_law_219 : decode cL_law 219 = .ok (.iconst 2, 1) := by decide +kernel
theorem dL_law_220 : decode cL_law 220 = .ok (.iadd, 1) := by decide +kernel
theorem dL_law_221 : decode cL_law 221 = .ok (.iaload, 1) := by decide +kernel
theorem dL_law_222 : decode cL_law 222 = .ok (.aload_n 0, 1) := by decide +kernel
theorem dL_law_223 : decode cL_law 223 = .ok (.iload_n 3, 1) := by decide +kernel
theorem dL_law_224 : decode cL_law 224 = .ok (.iconst 3, 1) := by decide +kernel
theorem dL_law_225 : decode cL_law 225 = .ok (.iadd, 1) := by decide +kernel
theorem dL_law_226 : decode cL_law 226 = .ok (.iaload, 1) := by decide +kernel
theorem dL_law_227 : decode cL_law 227 = .ok (.invokevirtual 17, 3) := by decide +kernel
theorem dL_law_230 : decode cL_law 230 = .ok (.if_icmp .eq 1041, 3) := by decide +kernel
theorem dL_law_233 : decode cL_law 233 = .ok (.iconst 0, 1) := by decide +kernel
theorem dL_law_234 : decode cL_law 234 = .ok (.ireturn, 1) := by decide +kernel
theorem dL_law_235 : decode cL_law 235 = .ok (.aload_n 1, 1) := by decide +kernel
theorem dL_law_236 : decode cL_law 236 = .ok (.aload_n 0, 1) := by decide +kernel
theorem dL_law_237 : decode cL_law 237 = .ok (.iload_n 3, 1) := by decide +kernel
theorem dL_law_238 : decode cL_law 238 = .ok (.iconst 1, 1) := by decide +kernel
theorem dL_law_239 : decode cL_law 239 = .ok (.iadd, 1) := by decide +kernel
theorem dL_law_240 : decode cL_law 240 = .ok (.iaload, 1) := by decide +kernel
theorem dL_law_241 : decode cL_law 241 = .ok (.aload_n 0, 1) := by decide +kernel
theorem dL_law_242 : decode cL_law 242 = .ok (.iload_n 3, 1) := by decide +kernel
theorem dL_law_243 : decode cL_law 243 = .ok (.iconst 2, 1) := by decide +kernel
theorem dL_law_244 : decode cL_law 244 = .ok (.iadd, 1) := by decide +kernel
theorem dL_law_245 : decode cL_law 245 = .ok (.iaload, 1) := by decide +kernel
theorem dL_law_246 : decode cL_law 246 = .ok (.aload_n 0, 1) := by decide +kernel
theorem dL_law_247 : decode cL_law 247 = .ok (.iload_n 3, 1) := by decide +kernel
theorem dL_law_248 : decode cL_law 248 = .ok (.iconst 3, 1) := by decide +kernel
theorem dL_law_249 : decode cL_law 249 = .ok (.iadd, 1) := by decide +kernel
theorem dL_law_250 : decode cL_law 250 = .ok (.iaload, 1) := by decide +kernel
theorem dL_law_251 : decode cL_law 251 = .ok (.invokevirtual 18, 3) := by decide +kernel
theorem dL_law_254 : decode cL_law 254 = .ok (.aload_n 2, 1) := by decide +kernel
theorem dL_law_255 : decode cL_law 255 = .ok (.aload_n 0, 1) := by decide +kernel
theorem dL_law_256 : decode cL_law 256 = .ok (.iload_n 3, 1) := by decide +kernel
theorem dL_law_257 : decode cL_law 257 = .ok (.iconst 1, 1) := by decide +kernel
theorem dL_law_258 : decode cL_law 258 = .ok (.iadd, 1) := by decide +kernel
theorem dL_law_259 : decode cL_law 259 = .ok (.iaload, 1) := by decide +kernel
theorem dL_law_260 : decode cL_law 260 = .ok (.aload_n 0, 1) := by decide +kernel
theorem dL_law_261 : decode cL_law 261 = .ok (.iload_n 3, 1) := by decide +kernel
theorem dL_law_262 : decode cL_law 262 = .ok (.iconst 2, 1) := by decide +kernel
theorem dL_law_263 : decode cL_law 263 = .ok (.iadd, 1) := by decide +kernel
theorem dL_law_264 : decode cL_law 264 = .ok (.iaload, 1) := by decide +kernel
theorem dL_law_265 : decode cL_law 265 = .ok (.aload_n 0, 1) := by decide +kernel
theorem dL_law_266 : decode cL_law 266 = .ok (.iload_n 3, 1) := by decide +kernel
theorem dL_law_267 : decode cL_law 267 = .ok (.iconst 3, 1) := by decide +kernel
theorem dL_law_268 : decode cL_law 268 = .ok (.iadd, 1) := by decide +kernel
theorem dL_law_269 : decode cL_law 269 = .ok (.iaload, 1) := by decide +kernel
theorem dL_law_270 : decode cL_law 270 = .ok (.invokevirtual 21, 3) := by decide +kernel
theorem dL_law_273 : decode cL_law 273 = .ok (.if_icmp .eq 998, 3) := by decide +kernel
theorem dL_law_276 : decode cL_law 276 = .ok (.iconst 0, 1) := by decide +kernel
theorem dL_law_277 : decode cL_law 277 = .ok (.ireturn, 1) := by decide +kernel
theorem dL_law_278 : decode cL_law 278 = .ok (.aload_n 1, 1) := by decide +kernel
theorem dL_law_279 : decode cL_law 279 = .ok (.aload_n 0, 1) := by decide +kernel
theorem dL_law_280 : decode cL_law 280 = .ok (.iload_n 3, 1) := by decide +kernel
theorem dL_law_281 : decode cL_law 281 = .ok (.iconst 1, 1) := by decide +kernel
theorem dL_law_282 : decode cL_law 282 = .ok (.iadd, 1) := by decide +kernel
theorem dL_law_283 : decode cL_law 283 = .ok (.iaload, 1) := by decide +kernel
theorem dL_law_284 : decode cL_law 284 = .ok (.aload_n 0, 1) := by decide +kernel
theorem dL_law_285 : decode cL_law 285 = .ok (.iload_n 3, 1) := by decide +kernel
theorem dL_law_286 : decode cL_law 286 = .ok (.iconst 2, 1) := by decide +kernel
theorem dL_law_287 : decode cL_law 287 = .ok (.iadd, 1) := by decide +kernel
theorem dL_law_288 : decode cL_law 288 = .ok (.iaload, 1) := by decide +kernel
theorem dL_law_289 : decode cL_law 289 = .ok (.aload_n 0, 1) := by decide +kernel
theorem dL_law_290 : decode cL_law 290 = .ok (.iload_n 3, 1) := by decide +kernel
theorem dL_law_291 : decode cL_law 291 = .ok (.iconst 3, 1) := by decide +kernel
theorem dL_law_292 : decode cL_law 292 = .ok (.iadd, 1) := by decide +kernel
theorem dL_law_293 : decode cL_law 293 = .ok (.iaload, 1) := by decide +kernel
theorem dL_law_294 : decode cL_law 294 = .ok (.aload_n 0, 1) := by decide +kernel
theorem dL_law_295 : decode cL_law 295 = .ok (.iload_n 3, 1) := by decide +kernel
theorem dL_law_296 : decode cL_law 296 = .ok (.iconst 4, 1) := by decide +kernel
theorem dL_law_297 : decode cL_law 297 = .ok (.iadd, 1) := by decide +kernel
theorem dL_law_298 : decode cL_law 298 = .ok (.iaload, 1) := by decide +kernel
theorem dL_law_299 : decode cL_law 299 = .ok (.aload_n 0, 1) := by decide +kernel
theorem dL_law_300 : decode cL_law 300 = .ok (.iload_n 3, 1) := by decide +kernel
theorem dL_law_301 : decode cL_law 301 = .ok (.iconst 5, 1) := by decide +kernel
theorem dL_law_302 : decode cL_law 302 = .ok (.iadd, 1) := by decide +kernel
theorem dL_law_303 : decode cL_law 303 = .ok (.iaload, 1) := by decide +kernel
theorem dL_law_304 : decode cL_law 304 = .ok (.invokevirtual 22, 3) := by decide +kernel
theorem dL_law_307 : decode cL_law 307 = .ok (.aload_n 2, 1) := by decide +kernel
theorem dL_law_308 : decode cL_law 308 = .ok (.aload_n 0, 1) := by decide +kernel
theorem dL_law_309 : decode cL_law 309 = .ok (.iload_n 3, 1) := by decide +kernel
theorem dL_law_310 : decode cL_law 310 = .ok (.iconst 1, 1) := by decide +kernel
theorem dL_law_311 : decode cL_law 311 = .ok (.iadd, 1) := by decide +kernel
theorem dL_law_312 : decode cL_law 312 = .ok (.iaload, 1) := by decide +kernel
theorem dL_law_313 : decode cL_law 313 = .ok (.aload_n 0, 1) := by decide +kernel
theorem dL_law_314 : decode cL_law 314 = .ok (.iload_n 3, 1) := by decide +kernel
theorem dL_law_315 : decode cL_law 315 = .ok (.iconst 2, 1) := by decide +kernel
theorem dL_law_316 : decode cL_law 316 = .ok (.iadd, 1) := by decide +kernel
theorem dL_law_317 : decode cL_law 317 = .ok (.iaload, 1) := by decide +kernel
theorem dL_law_318 : decode cL_law 318 = .ok (.aload_n 0, 1) := by decide +kernel
theorem dL_law_319 : decode cL_law 319 = .ok (.iload_n 3, 1) := by decide +kernel
theorem dL_law_320 : decode cL_law 320 = .ok (.iconst 3, 1) := by decide +kernel
theorem dL_law_321 : decode cL_law 321 = .ok (.iadd, 1) := by decide +kernel
theorem dL_law_322 : decode cL_law 322 = .ok (.iaload, 1) := by decide +kernel
theorem dL_law_323 : decode cL_law 323 = .ok (.aload_n 0, 1) := by decide +kernel
theorem dL_law_324 : decode cL_law 324 = .ok (.iload_n 3, 1) := by decide +kernel
theorem dL_law_325 : decode cL_law 325 = .ok (.iconst 4, 1) := by decide +kernel
theorem dL_law_326 : decode cL_law 326 = .ok (.iadd, 1) := by decide +kernel
theorem dL_law_327 : decode cL_law 327 = .ok (.iaload, 1) := by decide +kernel
theorem dL_law_328 : decode cL_law 328 = .ok (.aload_n 0, 1) := by decide +kernel
theorem dL_law_329 : decode cL_law 329 = .ok (.iload_n 3, 1) := by decide +kernel
theorem dL_law_330 : decode cL_law 330 = .ok (.iconst 5, 1) := by decide +kernel
theorem dL_law_331 : decode cL_law 331 = .ok (.iadd, 1) := by decide +kernel
theorem dL_law_332 : decode cL_law 332 = .ok (.iaload, 1) := by decide +kernel
theorem dL_law_333 : decode cL_law 333 = .ok (.invokevirtual 26, 3) := by decide +kernel
theorem dL_law_336 : decode cL_law 336 = .ok (.if_icmp .eq 935, 3) := by decide +kernel
theorem dL_law_339 : decode cL_law 339 = .ok (.iconst 0, 1) := by decide +kernel
theorem dL_law_340 : decode cL_law 340 = .ok (.ireturn, 1) := by decide +kernel
theorem dL_law_341 : decode cL_law 341 = .ok (.aload_n 1, 1) := by decide +kernel
theorem dL_law_342 : decode cL_law 342 = .ok (.aload_n 0, 1) := by decide +kernel
theorem dL_law_343 : decode cL_law 343 = .ok (.iload_n 3, 1) := by decide +kernel
theorem dL_law_344 : decode cL_law 344 = .ok (.iconst 1, 1) := by decide +kernel
theorem dL_law_345 : decode cL_law 345 = .ok (.iadd, 1) := by decide +kernel
theorem dL_law_346 : decode cL_law 346 = .ok (.iaload, 1) := by decide +kernel
theorem dL_law_347 : decode cL_law 347 = .ok (.invokevirtual 27, 3) := by decide +kernel
theorem dL_law_350 : decode cL_law 350 = .ok (.aload_n 2, 1) := by decide +kernel
theorem dL_law_351 : decode cL_law 351 = .ok (.aload_n 0, 1) := by decide +kernel
theorem dL_law_352 : decode cL_law 352 = .ok (.iload_n 3, 1) := by decide +kernel
theorem dL_law_353 : decode cL_law 353 = .ok (.iconst 1, 1) := by decide +kernel
theorem dL_law_354 : decode cL_law 354 = .ok (.iadd, 1) := by decide +kernel
theorem dL_law_355 : decode cL_law 355 = .ok (.iaload, 1) := by decide +kernel
theorem dL_law_356 : decode cL_law 356 = .ok (.invokevirtual 31, 3) := by decide +kernel
theorem dL_law_359 : decode cL_law 359 = .ok (.if_icmp .eq 912, 3) := by decide +kernel
theorem dL_law_362 : decode cL_law 362 = .ok (.iconst 0, 1) := by decide +kernel
theorem dL_law_363 : decode cL_law 363 = .ok (.ireturn, 1) := by decide +kernel
theorem dL_law_364 : decode cL_law 364 = .ok (.aload_n 1, 1) := by decide +kernel
theorem dL_law_365 : decode cL_law 365 = .ok (.aload_n 0, 1) := by decide +kernel
theorem dL_law_366 : decode cL_law 366 = .ok (.iload_n 3, 1) := by decide +kernel
theorem dL_law_367 : decode cL_law 367 = .ok (.iconst 1, 1) := by decide +kernel
theorem dL_law_368 : decode cL_law 368 = .ok (.iadd, 1) := by decide +kernel
theorem dL_law_369 : decode cL_law 369 = .ok (.iaload, 1) := by decide +kernel
theorem dL_law_370 : decode cL_law 370 = .ok (.invokevirtual 32, 3) := by decide +kernel
theorem dL_law_373 : decode cL_law 373 = .ok (.aload_n 2, 1) := by decide +kernel
theorem dL_law_374 : decode cL_law 374 = .ok (.aload_n 0, 1) := by decide +kernel
theorem dL_law_375 : decode cL_law 375 = .ok (.iload_n 3, 1) := by decide +kernel
theorem dL_law_376 : decode cL_law 376 = .ok (.iconst 1, 1) := by decide +kernel
theorem dL_law_377 : decode cL_law 377 = .ok (.iadd, 1) := by decide +kernel
theorem dL_law_378 : decode cL_law 378 = .ok (.iaload, 1) := by decide +kernel
theorem dL_law_379 : decode cL_law 379 = .ok (.invokevirtual 35, 3) := by decide +kernel
theorem dL_law_382 : decode cL_law 382 = .ok (.if_icmp .eq 889, 3) := by decide +kernel
theorem dL_law_385 : decode cL_law 385 = .ok (.iconst 0, 1) := by decide +kernel
theorem dL_law_386 : decode cL_law 386 = .ok (.ireturn, 1) := by decide +kernel
theorem dL_law_387 : decode cL_law 387 = .ok (.aload_n 1, 1) := by decide +kernel
theorem dL_law_388 : decode cL_law 388 = .ok (.invokevirtual 36, 3) := by decide +kernel
theorem dL_law_391 : decode cL_law 391 = .ok (.aload_n 2, 1) := by decide +kernel
theorem dL_law_392 : decode cL_law 392 = .ok (.invokevirtual 40, 3) := by decide +kernel
theorem dL_law_395 : decode cL_law 395 = .ok (.if_icmp .eq 876, 3) := by decide +kernel
theorem dL_law_398 : decode cL_law 398 = .ok (.iconst 0, 1) := by decide +kernel
theorem dL_law_399 : decode cL_law 399 = .ok (.ireturn, 1) := by decide +kernel
theorem dL_law_400 : decode cL_law 400 = .ok (.aload_n 1, 1) := by decide +kernel
theorem dL_law_401 : decode cL_law 401 = .ok (.invokevirtual 41, 3) := by decide +kernel
theorem dL_law_404 : decode cL_law 404 = .ok (.aload_n 2, 1) := by decide +kernel
theorem dL_law_405 : decode cL_law 405 = .ok (.invokevirtual 44, 3) := by decide +kernel
theorem dL_law_408 : decode cL_law 408 = .ok (.if_icmp .eq 863, 3) := by decide +kernel
theorem dL_law_411 : decode cL_law 411 = .ok (.iconst 0, 1) := by decide +kernel
theorem dL_law_412 : decode cL_law 412 = .ok (.ireturn, 1) := by decide +kernel
theorem dL_law_413 : decode cL_law 413 = .ok (.aload_n 1, 1) := by decide +kernel
theorem dL_law_414 : decode cL_law 414 = .ok (.invokevirtual 45, 3) := by decide +kernel
theorem dL_law_417 : decode cL_law 417 = .ok (.aload_n 2, 1) := by decide +kernel
theorem dL_law_418 : decode cL_law 418 = .ok (.invokevirtual 48, 3) := by decide +kernel
theorem dL_law_421 : decode cL_law 421 = .ok (.if_icmp .eq 850, 3) := by decide +kernel
theorem dL_law_424 : decode cL_law 424 = .ok (.iconst 0, 1) := by decide +kernel
theorem dL_law_425 : decode cL_law 425 = .ok (.ireturn, 1) := by decide +kernel
theorem dL_law_426 : decode cL_law 426 = .ok (.aload_n 1, 1) := by decide +kernel
theorem dL_law_427 : decode cL_law 427 = .ok (.aload_n 0, 1) := by decide +kernel
theorem dL_law_428 : decode cL_law 428 = .ok (.iload_n 3, 1) := by decide +kernel
theorem dL_law_429 : decode cL_law 429 = .ok (.iconst 1, 1) := by decide +kernel
theorem dL_law_430 : decode cL_law 430 = .ok (.iadd, 1) := by decide +kernel
theorem dL_law_431 : decode cL_law 431 = .ok (.iaload, 1) := by decide +kernel
theorem dL_law_432 : decode cL_law 432 = .ok (.aload_n 0, 1) := by decide +kernel
theorem dL_law_433 : decode cL_law 433 = .ok (.iload_n 3, 1) := by decide +kernel
theorem dL_law_434 : decode cL_law 434 = .ok (.iconst 2, 1) := by decide +kernel
theorem dL_law_435 : decode cL_law 435 = .ok (.iadd, 1) := by decide +kernel
theorem dL_law_436 : decode cL_law 436 = .ok (.iaload, 1) := by decide +kernel
theorem dL_law_437 : decode cL_law 437 = .ok (.aload_n 0, 1) := by decide +kernel
theorem dL_law_438 : decode cL_law 438 = .ok (.iload_n 3, 1) := by decide +kernel
theorem dL_law_439 : decode cL_law 439 = .ok (.iconst 3, 1) := by decide +kernel
theorem dL_law_440 : decode cL_law 440 = .ok (.iadd, 1) := by decide +kernel
theorem dL_law_441 : decode cL_law 441 = .ok (.iaload, 1) := by decide +kernel
theorem dL_law_442 : decode cL_law 442 = .ok (.aload_n 0, 1) := by decide +kernel
theorem dL_law_443 : decode cL_law 443 = .ok (.iload_n 3, 1) := by decide +kernel
theorem dL_law_444 : decode cL_law 444 = .ok (.iconst 4, 1) := by decide +kernel
theorem dL_law_445 : decode cL_law 445 = .ok (.iadd, 1) := by decide +kernel
theorem dL_law_446 : decode cL_law 446 = .ok (.iaload, 1) := by decide +kernel
theorem dL_law_447 : decode cL_law 447 = .ok (.invokevirtual 49, 3) := by decide +kernel
theorem dL_law_450 : decode cL_law 450 = .ok (.aload_n 2, 1) := by decide +kernel
theorem dL_law_451 : decode cL_law 451 = .ok (.aload_n 0, 1) := by decide +kernel
theorem dL_law_452 : decode cL_law 452 = .ok (.iload_n 3, 1) := by decide +kernel
theorem dL_law_453 : decode cL_law 453 = .ok (.iconst 1, 1) := by decide +kernel
theorem dL_law_454 : decode cL_law 454 = .ok (.iadd, 1) := by decide +kernel
theorem dL_law_455 : decode cL_law 455 = .ok (.iaload, 1) := by decide +kernel
theorem dL_law_456 : decode cL_law 456 = .ok (.aload_n 0, 1) := by decide +kernel
theorem dL_law_457 : decode cL_law 457 = .ok (.iload_n 3, 1) := by decide +kernel
theorem dL_law_458 : decode cL_law 458 = .ok (.iconst 2, 1) := by decide +kernel
theorem dL_law_459 : decode cL_law 459 = .ok (.iadd, 1) := by decide +kernel
theorem dL_law_460 : decode cL_law 460 = .ok (.iaload, 1) := by decide +kernel
theorem dL_law_461 : decode cL_law 461 = .ok (.aload_n 0, 1) := by decide +kernel
theorem dL_law_462 : decode cL_law 462 = .ok (.iload_n 3, 1) := by decide +kernel
theorem dL_law_463 : decode cL_law 463 = .ok (.iconst 3, 1) := by decide +kernel
theorem dL_law_464 : decode cL_law 464 = .ok (.iadd, 1) := by decide +kernel
theorem dL_law_465 : decode cL_law 465 = .ok (.iaload, 1) := by decide +kernel
theorem dL_law_466 : decode cL_law 466 = .ok (.aload_n 0, 1) := by decide +kernel
theorem dL_law_467 : decode cL_law 467 = .ok (.iload_n 3, 1) := by decide +kernel
theorem dL_law_468 : decode cL_law 468 = .ok (.iconst 4, 1) := by decide +kernel
theorem dL_law_469 : decode cL_law 469 = .ok (.iadd, 1) := by decide +kernel
theorem dL_law_470 : decode cL_law 470 = .ok (.iaload, 1) := by decide +kernel
theorem dL_law_471 : decode cL_law 471 = .ok (.invokevirtual 53, 3) := by decide +kernel
theorem dL_law_474 : decode cL_law 474 = .ok (.if_icmp .eq 797, 3) := by decide +kernel
theorem dL_law_477 : decode cL_law 477 = .ok (.iconst 0, 1) := by decide +kernel
theorem dL_law_478 : decode cL_law 478 = .ok (.ireturn, 1) := by decide +kernel
theorem dL_law_479 : decode cL_law 479 = .ok (.aload_n 1, 1) := by decide +kernel
theorem dL_law_480 : decode cL_law 480 = .ok (.invokevirtual 54, 3) := by decide +kernel
theorem dL_law_483 : decode cL_law 483 = .ok (.aload_n 2, 1) := by decide +kernel
theorem dL_law_484 : decode cL_law 484 = .ok (.invokevirtual 57, 3) := by decide +kernel
theorem dL_law_487 : decode cL_law 487 = .ok (.if_icmp .eq 784, 3) := by decide +kernel
theorem dL_law_490 : decode cL_law 490 = .ok (.iconst 0, 1) := by decide +kernel
theorem dL_law_491 : decode cL_law 491 = .ok (.ireturn, 1) := by decide +kernel
theorem dL_law_492 : decode cL_law 492 = .ok (.aload_n 1, 1) := by decide +kernel
theorem dL_law_493 : decode cL_law 493 = .ok (.aload_n 0, 1) := by decide +kernel
theorem dL_law_494 : decode cL_law 494 = .ok (.iload_n 3, 1) := by decide +kernel
theorem dL_law_495 : decode cL_law 495 = .ok (.iconst 1, 1) := by decide +kernel
theorem dL_law_496 : decode cL_law 496 = .ok (.iadd, 1) := by decide +kernel
theorem dL_law_497 : decode cL_law 497 = .ok (.iaload, 1) := by decide +kernel
theorem dL_law_498 : decode cL_law 498 = .ok (.aload_n 0, 1) := by decide +kernel
theorem dL_law_499 : decode cL_law 499 = .ok (.iload_n 3, 1) := by decide +kernel
theorem dL_law_500 : decode cL_law 500 = .ok (.iconst 2, 1) := by decide +kernel
theorem dL_law_501 : decode cL_law 501 = .ok (.iadd, 1) := by decide +kernel
theorem dL_law_502 : decode cL_law 502 = .ok (.iaload, 1) := by decide +kernel
theorem dL_law_503 : decode cL_law 503 = .ok (.invokevirtual 58, 3) := by decide +kernel
theorem dL_law_506 : decode cL_law 506 = .ok (.aload_n 2, 1) := by decide +kernel
theorem dL_law_507 : decode cL_law 507 = .ok (.aload_n 0, 1) := by decide +kernel
theorem dL_law_508 : decode cL_law 508 = .ok (.iload_n 3, 1) := by decide +kernel
theorem dL_law_509 : decode cL_law 509 = .ok (.iconst 1, 1) := by decide +kernel
theorem dL_law_510 : decode cL_law 510 = .ok (.iadd, 1) := by decide +kernel
theorem dL_law_511 : decode cL_law 511 = .ok (.iaload, 1) := by decide +kernel
theorem dL_law_512 : decode cL_law 512 = .ok (.aload_n 0, 1) := by decide +kernel
theorem dL_law_513 : decode cL_law 513 = .ok (.iload_n 3, 1) := by decide +kernel
theorem dL_law_514 : decode cL_law 514 = .ok (.iconst 2, 1) := by decide +kernel
theorem dL_law_515 : decode cL_law 515 = .ok (.iadd, 1) := by decide +kernel
theorem dL_law_516 : decode cL_law 516 = .ok (.iaload, 1) := by decide +kernel
theorem dL_law_517 : decode cL_law 517 = .ok (.invokevirtual 62, 3) := by decide +kernel
theorem dL_law_520 : decode cL_law 520 = .ok (.if_icmp .eq 751, 3) := by decide +kernel
theorem dL_law_523 : decode cL_law 523 = .ok (.iconst 0, 1) := by decide +kernel
theorem dL_law_524 : decode cL_law 524 = .ok (.ireturn, 1) := by decide +kernel
theorem dL_law_525 : decode cL_law 525 = .ok (.aload_n 1, 1) := by decide +kernel
theorem dL_law_526 : decode cL_law 526 = .ok (.aload_n 0, 1) := by decide +kernel
theorem dL_law_527 : decode cL_law 527 = .ok (.iload_n 3, 1) := by decide +kernel
theorem dL_law_528 : decode cL_law 528 = .ok (.iconst 1, 1) := by decide +kernel
theorem dL_law_529 : decode cL_law 529 = .ok (.iadd, 1) := by decide +kernel
theorem dL_law_530 : decode cL_law 530 = .ok (.iaload, 1) := by decide +kernel
theorem dL_law_531 : decode cL_law 531 = .ok (.aload_n 0, 1) := by decide +kernel
theorem dL_law_532 : decode cL_law 532 = .ok (.iload_n 3, 1) := by decide +kernel
theorem dL_law_533 : decode cL_law 533 = .ok (.iconst 2, 1) := by decide +kernel
theorem dL_law_534 : decode cL_law 534 = .ok (.iadd, 1) := by decide +kernel
theorem dL_law_535 : decode cL_law 535 = .ok (.iaload, 1) := by decide +kernel
end
section
theorem dL_law_536 : decode cL_law 536 = .ok (.invokevirtual 63, 3) := by decide +kernel
theorem dL_law_539 : decode cL_law 539 = .ok (.aload_n 2, 1) := by decide +kernel
theorem dL_law_540 : decode cL_law 540 = .ok (.aload_n 0, 1) := by decide +kernel
theorem dL_law_541 : decode cL_law 541 = .ok (.iload_n 3, 1) := by decide +kernel
theorem dL_law_542 : decode cL_law 542 = .ok (.iconst 1, 1) := by decide +kernel
theorem dL_law_543 : decode cL_law 543 = .ok (.iadd, 1) := by decide +kernel
theorem dL_law_544 : decode cL_law 544 = .ok (.iaload, 1) := by decide +kernel
theorem dL_law_545 : decode cL_law 545 = .ok (.aload_n 0, 1) := by decide +kernel
theorem dL_law_546 : decode cL_law 546 = .ok (.iload_n 3, 1) := by decide +kernel
theorem dL_law_547 : decode cL_law 547 = .ok (.iconst 2, 1) := by decide +kernel
theorem dL_law_548 : decode cL_law 548 = .ok (.iadd, 1) := by decide +kernel
theorem dL_law_549 : decode cL_law 549 = .ok (.iaload, 1) := by decide +kernel
theorem dL_law_550 : decode cL_law 550 = .ok (.invokevirtual 66, 3) := by decide +kernel
theorem dL_law_553 : decode cL_law 553 = .ok (.if_icmp .eq 718, 3) := by decide +kernel
theorem dL_law_556 : decode cL_law 556 = .ok (.iconst 0, 1) := by decide +kernel
theorem dL_law_557 : decode cL_law 557 = .ok (.ireturn, 1) := by decide +kernel
theorem dL_law_558 : decode cL_law 558 = .ok (.aload_n 1, 1) := by decide +kernel
theorem dL_law_559 : decode cL_law 559 = .ok (.invokevirtual 67, 3) := by decide +kernel
theorem dL_law_562 : decode cL_law 562 = .ok (.aload_n 2, 1) := by decide +kernel
theorem dL_law_563 : decode cL_law 563 = .ok (.invokevirtual 70, 3) := by decide +kernel
theorem dL_law_566 : decode cL_law 566 = .ok (.if_icmp .eq 705, 3) := by decide +kernel
theorem dL_law_569 : decode cL_law 569 = .ok (.iconst 0, 1) := by decide +kernel
theorem dL_law_570 : decode cL_law 570 = .ok (.ireturn, 1) := by decide +kernel
theorem dL_law_571 : decode cL_law 571 = .ok (.aload_n 1, 1) := by decide +kernel
theorem dL_law_572 : decode cL_law 572 = .ok (.aload_n 0, 1) := by decide +kernel
theorem dL_law_573 : decode cL_law 573 = .ok (.iload_n 3, 1) := by decide +kernel
theorem dL_law_574 : decode cL_law 574 = .ok (.iconst 1, 1) := by decide +kernel
theorem dL_law_575 : decode cL_law 575 = .ok (.iadd, 1) := by decide +kernel
theorem dL_law_576 : decode cL_law 576 = .ok (.iaload, 1) := by decide +kernel
theorem dL_law_577 : decode cL_law 577 = .ok (.aload_n 0, 1) := by decide +kernel
theorem dL_law_578 : decode cL_law 578 = .ok (.iload_n 3, 1) := by decide +kernel
theorem dL_law_579 : decode cL_law 579 = .ok (.iconst 2, 1) := by decide +kernel
theorem dL_law_580 : decode cL_law 580 = .ok (.iadd, 1) := by decide +kernel
theorem dL_law_581 : decode cL_law 581 = .ok (.iaload, 1) := by decide +kernel
theorem dL_law_582 : decode cL_law 582 = .ok (.invokevirtual 71, 3) := by decide +kernel
theorem dL_law_585 : decode cL_law 585 = .ok (.aload_n 2, 1) := by decide +kernel
theorem dL_law_586 : decode cL_law 586 = .ok (.aload_n 0, 1) := by decide +kernel
theorem dL_law_587 : decode cL_law 587 = .ok (.iload_n 3, 1) := by decide +kernel
theorem dL_law_588 : decode cL_law 588 = .ok (.iconst 1, 1) := by decide +kernel
theorem dL_law_589 : decode cL_law 589 = .ok (.iadd, 1) := by decide +kernel
theorem dL_law_590 : decode cL_law 590 = .ok (.iaload, 1) := by decide +kernel
theorem dL_law_591 : decode cL_law 591 = .ok (.aload_n 0, 1) := by decide +kernel
theorem dL_law_592 : decode cL_law 592 = .ok (.iload_n 3, 1) := by decide +kernel
theorem dL_law_593 : decode cL_law 593 = .ok (.iconst 2, 1) := by decide +kernel
theorem dL_law_594 : decode cL_law 594 = .ok (.iadd, 1) := by decide +kernel
theorem dL_law_595 : decode cL_law 595 = .ok (.iaload, 1) := by decide +kernel
theorem dL_law_596 : decode cL_law 596 = .ok (.invokevirtual 74, 3) := by decide +kernel
theorem dL_law_599 : decode cL_law 599 = .ok (.if_icmp .eq 672, 3) := by decide +kernel
theorem dL_law_602 : decode cL_law 602 = .ok (.iconst 0, 1) := by decide +kernel
theorem dL_law_603 : decode cL_law 603 = .ok (.ireturn, 1) := by decide +kernel
theorem dL_law_604 : decode cL_law 604 = .ok (.aload_n 1, 1) := by decide +kernel
theorem dL_law_605 : decode cL_law 605 = .ok (.aload_n 0, 1) := by decide +kernel
theorem dL_law_606 : decode cL_law 606 = .ok (.iload_n 3, 1) := by decide +kernel
theorem dL_law_607 : decode cL_law 607 = .ok (.iconst 1, 1) := by decide +kernel
theorem dL_law_608 : decode cL_law 608 = .ok (.iadd, 1) := by decide +kernel
theorem dL_law_609 : decode cL_law 609 = .ok (.iaload, 1) := by decide +kernel
theorem dL_law_610 : decode cL_law 610 = .ok (.aload_n 0, 1) := by decide +kernel
theorem dL_law_611 : decode cL_law 611 = .ok (.iload_n 3, 1) := by decide +kernel
theorem dL_law_612 : decode cL_law 612 = .ok (.iconst 2, 1) := by decide +kernel
theorem dL_law_613 : decode cL_law 613 = .ok (.iadd, 1) := by decide +kernel
theorem dL_law_614 : decode cL_law 614 = .ok (.iaload, 1) := by decide +kernel
theorem dL_law_615 : decode cL_law 615 = .ok (.invokevirtual 75, 3) := by decide +kernel
theorem dL_law_618 : decode cL_law 618 = .ok (.aload_n 2, 1) := by decide +kernel
theorem dL_law_619 : decode cL_law 619 = .ok (.aload_n 0, 1) := by decide +kernel
theorem dL_law_620 : decode cL_law 620 = .ok (.iload_n 3, 1) := by decide +kernel
theorem dL_law_621 : decode cL_law 621 = .ok (.iconst 1, 1) := by decide +kernel
theorem dL_law_622 : decode cL_law 622 = .ok (.iadd, 1) := by decide +kernel
theorem dL_law_623 : decode cL_law 623 = .ok (.iaload, 1) := by decide +kernel
theorem dL_law_624 : decode cL_law 624 = .ok (.aload_n 0, 1) := by decide +kernel
theorem dL_law_625 : decode cL_law 625 = .ok (.iload_n 3, 1) := by decide +kernel
theorem dL_law_626 : decode cL_law 626 = .ok (.iconst 2, 1) := by decide +kernel
theorem dL_law_627 : decode cL_law 627 = .ok (.iadd, 1) := by decide +kernel
theorem dL_law_628 : decode cL_law 628 = .ok (.iaload, 1) := by decide +kernel
theorem dL_law_629 : decode cL_law 629 = .ok (.invokevirtual 78, 3) := by decide +kernel
theorem dL_law_632 : decode cL_law 632 = .ok (.if_icmp .eq 639, 3) := by decide +kernel
theorem dL_law_635 : decode cL_law 635 = .ok (.iconst 0, 1) := by decide +kernel
theorem dL_law_636 : decode cL_law 636 = .ok (.ireturn, 1) := by decide +kernel
theorem dL_law_637 : decode cL_law 637 = .ok (.aload_n 1, 1) := by decide +kernel
theorem dL_law_638 : decode cL_law 638 = .ok (.aload_n 0, 1) := by decide +kernel
theorem dL_law_639 : decode cL_law 639 = .ok (.iload_n 3, 1) := by decide +kernel
theorem dL_law_640 : decode cL_law 640 = .ok (.iconst 1, 1) := by decide +kernel
theorem dL_law_641 : decode cL_law 641 = .ok (.iadd, 1) := by decide +kernel
theorem dL_law_642 : decode cL_law 642 = .ok (.iaload, 1) := by decide +kernel
theorem dL_law_643 : decode cL_law 643 = .ok (.aload_n 0, 1) := by decide +kernel
theorem dL_law_644 : decode cL_law 644 = .ok (.iload_n 3, 1) := by decide +kernel
theorem dL_law_645 : decode cL_law 645 = .ok (.iconst 2, 1) := by decide +kernel
theorem dL_law_646 : decode cL_law 646 = .ok (.iadd, 1) := by decide +kernel
theorem dL_law_647 : decode cL_law 647 = .ok (.iaload, 1) := by decide +kernel
theorem dL_law_648 : decode cL_law 648 = .ok (.invokevirtual 79, 3) := by decide +kernel
theorem dL_law_651 : decode cL_law 651 = .ok (.aload_n 2, 1) := by decide +kernel
theorem dL_law_652 : decode cL_law 652 = .ok (.aload_n 0, 1) := by decide +kernel
theorem dL_law_653 : decode cL_law 653 = .ok (.iload_n 3, 1) := by decide +kernel
theorem dL_law_654 : decode cL_law 654 = .ok (.iconst 1, 1) := by decide +kernel
theorem dL_law_655 : decode cL_law 655 = .ok (.iadd, 1) := by decide +kernel
theorem dL_law_656 : decode cL_law 656 = .ok (.iaload, 1) := by decide +kernel
theorem dL_law_657 : decode cL_law 657 = .ok (.aload_n 0, 1) := by decide +kernel
theorem dL_law_658 : decode cL_law 658 = .ok (.iload_n 3, 1) := by decide +kernel
theorem dL_law_659 : decode cL_law 659 = .ok (.iconst 2, 1) := by decide +kernel
theorem dL_law_660 : decode cL_law 660 = .ok (.iadd, 1) := by decide +kernel
theorem dL_law_661 : decode cL_law 661 = .ok (.iaload, 1) := by decide +kernel
theorem dL_law_662 : decode cL_law 662 = .ok (.invokevirtual 82, 3) := by decide +kernel
theorem dL_law_665 : decode cL_law 665 = .ok (.if_icmp .eq 606, 3) := by decide +kernel
theorem dL_law_668 : decode cL_law 668 = .ok (.iconst 0, 1) := by decide +kernel
theorem dL_law_669 : decode cL_law 669 = .ok (.ireturn, 1) := by decide +kernel
theorem dL_law_670 : decode cL_law 670 = .ok (.aload_n 1, 1) := by decide +kernel
theorem dL_law_671 : decode cL_law 671 = .ok (.aload_n 0, 1) := by decide +kernel
theorem dL_law_672 : decode cL_law 672 = .ok (.iload_n 3, 1) := by decide +kernel
theorem dL_law_673 : decode cL_law 673 = .ok (.iconst 1, 1) := by decide +kernel
theorem dL_law_674 : decode cL_law 674 = .ok (.iadd, 1) := by decide +kernel
theorem dL_law_675 : decode cL_law 675 = .ok (.iaload, 1) := by decide +kernel
theorem dL_law_676 : decode cL_law 676 = .ok (.invokevirtual 83, 3) := by decide +kernel
theorem dL_law_679 : decode cL_law 679 = .ok (.aload_n 2, 1) := by decide +kernel
theorem dL_law_680 : decode cL_law 680 = .ok (.aload_n 0, 1) := by decide +kernel
theorem dL_law_681 : decode cL_law 681 = .ok (.iload_n 3, 1) := by decide +kernel
theorem dL_law_682 : decode cL_law 682 = .ok (.iconst 1, 1) := by decide +kernel
theorem dL_law_683 : decode cL_law 683 = .ok (.iadd, 1) := by decide +kernel
theorem dL_law_684 : decode cL_law 684 = .ok (.iaload, 1) := by decide +kernel
theorem dL_law_685 : decode cL_law 685 = .ok (.invokevirtual 86, 3) := by decide +kernel
theorem dL_law_688 : decode cL_law 688 = .ok (.if_icmp .eq 583, 3) := by decide +kernel
theorem dL_law_691 : decode cL_law 691 = .ok (.iconst 0, 1) := by decide +kernel
theorem dL_law_692 : decode cL_law 692 = .ok (.ireturn, 1) := by decide +kernel
theorem dL_law_693 : decode cL_law 693 = .ok (.aload_n 1, 1) := by decide +kernel
theorem dL_law_694 : decode cL_law 694 = .ok (.aload_n 0, 1) := by decide +kernel
theorem dL_law_695 : decode cL_law 695 = .ok (.iload_n 3, 1) := by decide +kernel
theorem dL_law_696 : decode cL_law 696 = .ok (.iconst 1, 1) := by decide +kernel
theorem dL_law_697 : decode cL_law 697 = .ok (.iadd, 1) := by decide +kernel
theorem dL_law_698 : decode cL_law 698 = .ok (.iaload, 1) := by decide +kernel
theorem dL_law_699 : decode cL_law 699 = .ok (.aload_n 0, 1) := by decide +kernel
theorem dL_law_700 : decode cL_law 700 = .ok (.iload_n 3, 1) := by decide +kernel
theorem dL_law_701 : decode cL_law 701 = .ok (.iconst 2, 1) := by decide +kernel
theorem dL_law_702 : decode cL_law 702 = .ok (.iadd, 1) := by decide +kernel
theorem dL_law_703 : decode cL_law 703 = .ok (.iaload, 1) := by decide +kernel
theorem dL_law_704 : decode cL_law 704 = .ok (.invokevirtual 87, 3) := by decide +kernel
theorem dL_law_707 : decode cL_law 707 = .ok (.aload_n 2, 1) := by decide +kernel
theorem dL_law_708 : decode cL_law 708 = .ok (.aload_n 0, 1) := by decide +kernel
theorem dL_law_709 : decode cL_law 709 = .ok (.iload_n 3, 1) := by decide +kernel
theorem dL_law_710 : decode cL_law 710 = .ok (.iconst 1, 1) := by decide +kernel
theorem dL_law_711 : decode cL_law 711 = .ok (.iadd, 1) := by decide +kernel
theorem dL_law_712 : decode cL_law 712 = .ok (.iaload, 1) := by decide +kernel
theorem dL_law_713 : decode cL_law 713 = .ok (.aload_n 0, 1) := by decide +kernel
theorem dL_law_714 : decode cL_law 714 = .ok (.iload_n 3, 1) := by decide +kernel
theorem dL_law_715 : decode cL_law 715 = .ok (.iconst 2, 1) := by decide +kernel
theorem dL_law_716 : decode cL_law 716 = .ok (.iadd, 1) := by decide +kernel
theorem dL_law_717 : decode cL_law 717 = .ok (.iaload, 1) := by decide +kernel
theorem dL_law_718 : decode cL_law 718 = .ok (.invokevirtual 90, 3) := by decide +kernel
theorem dL_law_721 : decode cL_law 721 = .ok (.if_icmp .eq 550, 3) := by decide +kernel
theorem dL_law_724 : decode cL_law 724 = .ok (.iconst 0, 1) := by decide +kernel
theorem dL_law_725 : decode cL_law 725 = .ok (.ireturn, 1) := by decide +kernel
theorem dL_law_726 : decode cL_law 726 = .ok (.aload_n 1, 1) := by decide +kernel
theorem dL_law_727 : decode cL_law 727 = .ok (.aload_n 0, 1) := by decide +kernel
theorem dL_law_728 : decode cL_law 728 = .ok (.iload_n 3, 1) := by decide +kernel
theorem dL_law_729 : decode cL_law 729 = .ok (.iconst 1, 1) := by decide +kernel
theorem dL_law_730 : decode cL_law 730 = .ok (.iadd, 1) := by decide +kernel
theorem dL_law_731 : decode cL_law 731 = .ok (.iaload, 1) := by decide +kernel
theorem dL_law_732 : decode cL_law 732 = .ok (.aload_n 0, 1) := by decide +kernel
theorem dL_law_733 : decode cL_law 733 = .ok (.iload_n 3, 1) := by decide +kernel
theorem dL_law_734 : decode cL_law 734 = .ok (.iconst 2, 1) := by decide +kernel
theorem dL_law_735 : decode cL_law 735 = .ok (.iadd, 1) := by decide +kernel
theorem dL_law_736 : decode cL_law 736 = .ok (.iaload, 1) := by decide +kernel
theorem dL_law_737 : decode cL_law 737 = .ok (.aload_n 0, 1) := by decide +kernel
theorem dL_law_738 : decode cL_law 738 = .ok (.iload_n 3, 1) := by decide +kernel
theorem dL_law_739 : decode cL_law 739 = .ok (.iconst 3, 1) := by decide +kernel
theorem dL_law_740 : decode cL_law 740 = .ok (.iadd, 1) := by decide +kernel
theorem dL_law_741 : decode cL_law 741 = .ok (.iaload, 1) := by decide +kernel
theorem dL_law_742 : decode cL_law 742 = .ok (.invokevirtual 91, 3) := by decide +kernel
theorem dL_law_745 : decode cL_law 745 = .ok (.aload_n 2, 1) := by decide +kernel
theorem dL_law_746 : decode cL_law 746 = .ok (.aload_n 0, 1) := by decide +kernel
theorem dL_law_747 : decode cL_law 747 = .ok (.iload_n 3, 1) := by decide +kernel
theorem dL_law_748 : decode cL_law 748 = .ok (.iconst 1, 1) := by decide +kernel
theorem dL_law_749 : decode cL_law 749 = .ok (.iadd, 1) := by decide +kernel
theorem dL_law_750 : decode cL_law 750 = .ok (.iaload, 1) := by decide +kernel
theorem dL_law_751 : decode cL_law 751 = .ok (.aload_n 0, 1) := by decide +kernel
theorem dL_law_752 : decode cL_law 752 = .ok (.iload_n 3, 1) := by decide +kernel
theorem dL_law_753 : decode cL_law 753 = .ok (.iconst 2, 1) := by decide +kernel
theorem dL_law_754 : decode cL_law 754 = .ok (.iadd, 1) := by decide +kernel
theorem dL_law_755 : decode cL_law 755 = .ok (.iaload, 1) := by decide +kernel
theorem dL_law_756 : decode cL_law 756 = .ok (.aload_n 0, 1) := by decide +kernel
theorem dL_law_757 : decode cL_law 757 = .ok (.iload_n 3, 1) := by decide +kernel
theorem dL_law_758 : decode cL_law 758 = .ok (.iconst 3, 1) := by decide +kernel
theorem dL_law_759 : decode cL_law 759 = .ok (.iadd, 1) := by decide +kernel
theorem dL_law_760 : decode cL_law 760 = .ok (.iaload, 1) := by decide +kernel
theorem dL_law_761 : decode cL_law 761 = .ok (.invokevirtual 94, 3) := by decide +kernel
theorem dL_law_764 : decode cL_law 764 = .ok (.if_icmp .eq 507, 3) := by decide +kernel
theorem dL_law_767 : decode cL_law 767 = .ok (.iconst 0, 1) := by decide +kernel
theorem dL_law_768 : decode cL_law 768 = .ok (.ireturn, 1) := by decide +kernel
theorem dL_law_769 : decode cL_law 769 = .ok (.aload_n 1, 1) := by decide +kernel
theorem dL_law_770 : decode cL_law 770 = .ok (.aload_n 0, 1) := by decide +kernel
theorem dL_law_771 : decode cL_law 771 = .ok (.iload_n 3, 1) := by decide +kernel
theorem dL_law_772 : decode cL_law 772 = .ok (.iconst 1, 1) := by decide +kernel
theorem dL_law_773 : decode cL_law 773 = .ok (.iadd, 1) := by decide +kernel
theorem dL_law_774 : decode cL_law 774 = .ok (.iaload, 1) := by decide +kernel
theorem dL_law_775 : decode cL_law 775 = .ok (.aload_n 0, 1) := by decide +kernel
theorem dL_law_776 : decode cL_law 776 = .ok (.iload_n 3, 1) := by decide +kernel
theorem dL_law_777 : decode cL_law 777 = .ok (.iconst 2, 1) := by decide +kernel
theorem dL_law_778 : decode cL_law 778 = .ok (.iadd, 1) := by decide +kernel
theorem dL_law_779 : decode cL_law 779 = .ok (.iaload, 1) := by decide +kernel
theorem dL_law_780 : decode cL_law 780 = .ok (.invokevirtual 95, 3) := by decide +kernel
theorem dL_law_783 : decode cL_law 783 = .ok (.aload_n 2, 1) := by decide +kernel
theorem dL_law_784 : decode cL_law 784 = .ok (.aload_n 0, 1) := by decide +kernel
theorem dL_law_785 : decode cL_law 785 = .ok (.iload_n 3, 1) := by decide +kernel
theorem dL_law_786 : decode cL_law 786 = .ok (.iconst 1, 1) := by decide +kernel
theorem dL_law_787 : decode cL_law 787 = .ok (.iadd, 1) := by decide +kernel
theorem dL_law_788 : decode cL_law 788 = .ok (.iaload, 1) := by decide +kernel
theorem dL_law_789 : decode cL_law 789 = .ok (.aload_n 0, 1) := by decide +kernel
theorem dL_law_790 : decode cL_law 790 = .ok (.iload_n 3, 1) := by decide +kernel
theorem dL_law_791 : decode cL_law 791 = .ok (.iconst 2, 1) := by decide +kernel
theorem dL_law_792 : decode cL_law 792 = .ok (.iadd, 1) := by decide +kernel
theorem dL_law_793 : decode cL_law 793 = .ok (.iaload, 1) := by decide +kernel
theorem dL_law_794 : decode cL_law 794 = .ok (.invokevirtual 98, 3) := by decide +kernel
theorem dL_law_797 : decode cL_law 797 = .ok (.if_icmp .eq 474, 3) := by decide +kernel
theorem dL_law_800 : decode cL_law 800 = .ok (.iconst 0, 1) := by decide +kernel
theorem dL_law_801 : decode cL_law 801 = .ok (.ireturn, 1) := by decide +kernel
theorem dL_law_802 : decode cL_law 802 = .ok (.aload_n 1, 1) := by decide +kernel
theorem dL_law_803 : decode cL_law 803 = .ok (.aload_n 0, 1) := by decide +kernel
theorem dL_law_804 : decode cL_law 804 = .ok (.iload_n 3, 1) := by decide +kernel
theorem dL_law_805 : decode cL_law 805 = .ok (.iconst 1, 1) := by decide +kernel
theorem dL_law_806 : decode cL_law 806 = .ok (.iadd, 1) := by decide +kernel
theorem dL_law_807 : decode cL_law 807 = .ok (.iaload, 1) := by decide +kernel
theorem dL_law_808 : decode cL_law 808 = .ok (.invokevirtual 99, 3) := by decide +kernel
theorem dL_law_811 : decode cL_law 811 = .ok (.aload_n 2, 1) := by decide +kernel
theorem dL_law_812 : decode cL_law 812 = .ok (.aload_n 0, 1) := by decide +kernel
theorem dL_law_813 : decode cL_law 813 = .ok (.iload_n 3, 1) := by decide +kernel
theorem dL_law_814 : decode cL_law 814 = .ok (.iconst 1, 1) := by decide +kernel
theorem dL_law_815 : decode cL_law 815 = .ok (.iadd, 1) := by decide +kernel
theorem dL_law_816 : decode cL_law 816 = .ok (.iaload, 1) := by decide +kernel
theorem dL_law_817 : decode cL_law 817 = .ok (.invokevirtual 102, 3) := by decide +kernel
theorem dL_law_820 : decode cL_law 820 = .ok (.if_icmp .eq 451, 3) := by decide +kernel
theorem dL_law_823 : decode cL_law 823 = .ok (.iconst 0, 1) := by decide +kernel
theorem dL_law_824 : decode cL_law 824 = .ok (.ireturn, 1) := by decide +kernel
theorem dL_law_825 : decode cL_law 825 = .ok (.aload_n 1, 1) := by decide +kernel
theorem dL_law_826 : decode cL_law 826 = .ok (.aload_n 0, 1) := by decide +kernel
theorem dL_law_827 : decode cL_law 827 = .ok (.iload_n 3, 1) := by decide +kernel
theorem dL_law_828 : decode cL_law 828 = .ok (.iconst 1, 1) := by decide +kernel
theorem dL_law_829 : decode cL_law 829 = .ok (.iadd, 1) := by decide +kernel
theorem dL_law_830 : decode cL_law 830 = .ok (.iaload, 1) := by decide +kernel
theorem dL_law_831 : decode cL_law 831 = .ok (.aload_n 0, 1) := by decide +kernel
theorem dL_law_832 : decode cL_law 832 = .ok (.iload_n 3, 1) := by decide +kernel
theorem dL_law_833 : decode cL_law 833 = .ok (.iconst 2, 1) := by decide +kernel
theorem dL_law_834 : decode cL_law 834 = .ok (.iadd, 1) := by decide +kernel
theorem dL_law_835 : decode cL_law 835 = .ok (.iaload, 1) := by decide +kernel
theorem dL_law_836 : decode cL_law 836 = .ok (.aload_n 0, 1) := by decide +kernel
theorem dL_law_837 : decode cL_law 837 = .ok (.iload_n 3, 1) := by decide +kernel
theorem dL_law_838 : decode cL_law 838 = .ok (.iconst 3, 1) := by decide +kernel
theorem dL_law_839 : decode cL_law 839 = .ok (.iadd, 1) := by decide +kernel
theorem dL_law_840 : decode cL_law 840 = .ok (.iaload, 1) := by decide +kernel
theorem dL_law_841 : decode cL_law 841 = .ok (.invokevirtual 103, 3) := by decide +kernel
theorem dL_law_844 : decode cL_law 844 = .ok (.aload_n 2, 1) := by decide +kernel
theorem dL_law_845 : decode cL_law 845 = .ok (.aload_n 0, 1) := by decide +kernel
theorem dL_law_846 : decode cL_law 846 = .ok (.iload_n 3, 1) := by decide +kernel
theorem dL_law_847 : decode cL_law 847 = .ok (.iconst 1, 1) := by decide +kernel
theorem dL_law_848 : decode cL_law 848 = .ok (.iadd, 1) := by decide +kernel
theorem dL_law_849 : decode cL_law 849 = .ok (.iaload, 1) := by decide +kernel
theorem dL_law_850 : decode cL_law 850 = .ok (.aload_n 0, 1) := by decide +kernel
theorem dL_law_851 : decode cL_law 851 = .ok (.iload_n 3, 1) := by decide +kernel
theorem dL_law_852 : decode cL_law 852 = .ok (.iconst 2, 1) := by decide +kernel
theorem dL_law_853 : decode cL_law 853 = .ok (.iadd, 1) := by decide +kernel
theorem dL_law_854 : decode cL_law 854 = .ok (.iaload, 1) := by decide +kernel
theorem dL_law_855 : decode cL_law 855 = .ok (.aload_n 0, 1) := by decide +kernel
theorem dL_law_856 : decode cL_law 856 = .ok (.iload_n 3, 1) := by decide +kernel
theorem dL_law_857 : decode cL_law 857 = .ok (.iconst 3, 1) := by decide +kernel
theorem dL_law_858 : decode cL_law 858 = .ok (.iadd, 1) := by decide +kernel
theorem dL_law_859 : decode cL_law 859 = .ok (.iaload, 1) := by decide +kernel
theorem dL_law_860 : decode cL_law 860 = .ok (.invokevirtual 106, 3) := by decide +kernel
theorem dL_law_863 : decode cL_law 863 = .ok (.if_icmp .eq 408, 3) := by decide +kernel
theorem dL_law_866 : decode cL_law 866 = .ok (.iconst 0, 1) := by decide +kernel
theorem dL_law_867 : decode cL_law 867 = .ok (.ireturn, 1) := by decide +kernel
theorem dL_law_868 : decode cL_law 868 = .ok (.aload_n 1, 1) := by decide +kernel
theorem dL_law_869 : decode cL_law 869 = .ok (.aload_n 0, 1) := by decide +kernel
theorem dL_law_870 : decode cL_law 870 = .ok (.iload_n 3, 1) := by decide +kernel
theorem dL_law_871 : decode cL_law 871 = .ok (.iconst 1, 1) := by decide +kernel
theorem dL_law_872 : decode cL_law 872 = .ok (.iadd, 1) := by decide +kernel
theorem dL_law_873 : decode cL_law 873 = .ok (.iaload, 1) := by decide +kernel
theorem dL_law_874 : decode cL_law 874 = .ok (.aload_n 0, 1) := by decide +kernel
theorem dL_law_875 : decode cL_law 875 = .ok (.iload_n 3, 1) := by decide +kernel
theorem dL_law_876 : decode cL_law 876 = .ok (.iconst 2, 1) := by decide +kernel
theorem dL_law_877 : decode cL_law 877 = .ok (.iadd, 1) := by decide +kernel
theorem dL_law_878 : decode cL_law 878 = .ok (.iaload, 1) := by decide +kernel
theorem dL_law_879 : decode cL_law 879 = .ok (.aload_n 0, 1) := by decide +kernel
theorem dL_law_880 : decode cL_law 880 = .ok (.iload_n 3, 1) := by decide +kernel
theorem dL_law_881 : decode cL_law 881 = .ok (.iconst 3, 1) := by decide +kernel
theorem dL_law_882 : decode cL_law 882 = .ok (.iadd, 1) := by decide +kernel
theorem dL_law_883 : decode cL_law 883 = .ok (.iaload, 1) := by decide +kernel
theorem dL_law_884 : decode cL_law 884 = .ok (.aload_n 0, 1) := by decide +kernel
theorem dL_law_885 : decode cL_law 885 = .ok (.iload_n 3, 1) := by decide +kernel
theorem dL_law_886 : decode cL_law 886 = .ok (.iconst 4, 1) := by decide +kernel
theorem dL_law_887 : decode cL_law 887 = .ok (.iadd, 1) := by decide +kernel
theorem dL_law_888 : decode cL_law 888 = .ok (.iaload, 1) := by decide +kernel
theorem dL_law_889 : decode cL_law 889 = .ok (.aload_n 0, 1) := by decide +kernel
theorem dL_law_890 : decode cL_law 890 = .ok (.iload_n 3, 1) := by decide +kernel
theorem dL_law_891 : decode cL_law 891 = .ok (.iconst 5, 1) := by decide +kernel
theorem dL_law_892 : decode cL_law 892 = .ok (.iadd, 1) := by decide +kernel
theorem dL_law_893 : decode cL_law 893 = .ok (.iaload, 1) := by decide +kernel
theorem dL_law_894 : decode cL_law 894 = .ok (.invokevirtual 107, 3) := by decide +kernel
theorem dL_law_897 : decode cL_law 897 = .ok (.aload_n 2, 1) := by decide +kernel
theorem dL_law_898 : decode cL_law 898 = .ok (.aload_n 0, 1) := by decide +kernel
theorem dL_law_899 : decode cL_law 899 = .ok (.iload_n 3, 1) := by decide +kernel
theorem dL_law_900 : decode cL_law 900 = .ok (.iconst 1, 1) := by decide +kernel
theorem dL_law_901 : decode cL_law 901 = .ok (.iadd, 1) := by decide +kernel
theorem dL_law_902 : decode cL_law 902 = .ok (.iaload, 1) := by decide +kernel
theorem dL_law_903 : decode cL_law 903 = .ok (.aload_n 0, 1) := by decide +kernel
end
section
theorem dL_law_904 : decode cL_law 904 = .ok (.iload_n 3, 1) := by decide +kernel
theorem dL_law_905 : decode cL_law 905 = .ok (.iconst 2, 1) := by decide +kernel
theorem dL_law_906 : decode cL_law 906 = .ok (.iadd, 1) := by decide +kernel
theorem dL_law_907 : decode cL_law 907 = .ok (.iaload, 1) := by decide +kernel
theorem dL_law_908 : decode cL_law 908 = .ok (.aload_n 0, 1) := by decide +kernel
theorem dL_law_909 : decode cL_law 909 = .ok (.iload_n 3, 1) := by decide +kernel
theorem dL_law_910 : decode cL_law 910 = .ok (.iconst 3, 1) := by decide +kernel
theorem dL_law_911 : decode cL_law 911 = .ok (.iadd, 1) := by decide +kernel
theorem dL_law_912 : decode cL_law 912 = .ok (.iaload, 1) := by decide +kernel
theorem dL_law_913 : decode cL_law 913 = .ok (.aload_n 0, 1) := by decide +kernel
theorem dL_law_914 : decode cL_law 914 = .ok (.iload_n 3, 1) := by decide +kernel
theorem dL_law_915 : decode cL_law 915 = .ok (.iconst 4, 1) := by decide +kernel
theorem dL_law_916 : decode cL_law 916 = .ok (.iadd, 1) := by decide +kernel
theorem dL_law_917 : decode cL_law 917 = .ok (.iaload, 1) := by decide +kernel
theorem dL_law_918 : decode cL_law 918 = .ok (.aload_n 0, 1) := by decide +kernel
theorem dL_law_919 : decode cL_law 919 = .ok (.iload_n 3, 1) := by decide +kernel
theorem dL_law_920 : decode cL_law 920 = .ok (.iconst 5, 1) := by decide +kernel
theorem dL_law_921 : decode cL_law 921 = .ok (.iadd, 1) := by decide +kernel
theorem dL_law_922 : decode cL_law 922 = .ok (.iaload, 1) := by decide +kernel
theorem dL_law_923 : decode cL_law 923 = .ok (.invokevirtual 111, 3) := by decide +kernel
theorem dL_law_926 : decode cL_law 926 = .ok (.lcmp, 1) := by decide +kernel
theorem dL_law_927 : decode cL_law 927 = .ok (.ifCond .eq 344, 3) := by decide +kernel
theorem dL_law_930 : decode cL_law 930 = .ok (.iconst 0, 1) := by decide +kernel
theorem dL_law_931 : decode cL_law 931 = .ok (.ireturn, 1) := by decide +kernel
theorem dL_law_932 : decode cL_law 932 = .ok (.aload_n 1, 1) := by decide +kernel
theorem dL_law_933 : decode cL_law 933 = .ok (.aload_n 0, 1) := by decide +kernel
theorem dL_law_934 : decode cL_law 934 = .ok (.iload_n 3, 1) := by decide +kernel
theorem dL_law_935 : decode cL_law 935 = .ok (.iconst 1, 1) := by decide +kernel
theorem dL_law_936 : decode cL_law 936 = .ok (.iadd, 1) := by decide +kernel
theorem dL_law_937 : decode cL_law 937 = .ok (.iaload, 1) := by decide +kernel
theorem dL_law_938 : decode cL_law 938 = .ok (.aload_n 0, 1) := by decide +kernel
theorem dL_law_939 : decode cL_law 939 = .ok (.iload_n 3, 1) := by decide +kernel
theorem dL_law_940 : decode cL_law 940 = .ok (.iconst 2, 1) := by decide +kernel
theorem dL_law_941 : decode cL_law 941 = .ok (.iadd, 1) := by decide +kernel
theorem dL_law_942 : decode cL_law 942 = .ok (.iaload, 1) := by decide +kernel
theorem dL_law_943 : decode cL_law 943 = .ok (.invokevirtual 112, 3) := by decide +kernel
theorem dL_law_946 : decode cL_law 946 = .ok (.aload_n 2, 1) := by decide +kernel
theorem dL_law_947 : decode cL_law 947 = .ok (.aload_n 0, 1) := by decide +kernel
theorem dL_law_948 : decode cL_law 948 = .ok (.iload_n 3, 1) := by decide +kernel
theorem dL_law_949 : decode cL_law 949 = .ok (.iconst 1, 1) := by decide +kernel
theorem dL_law_950 : decode cL_law 950 = .ok (.iadd, 1) := by decide +kernel
theorem dL_law_951 : decode cL_law 951 = .ok (.iaload, 1) := by decide +kernel
theorem dL_law_952 : decode cL_law 952 = .ok (.aload_n 0, 1) := by decide +kernel
theorem dL_law_953 : decode cL_law 953 = .ok (.iload_n 3, 1) := by decide +kernel
theorem dL_law_954 : decode cL_law 954 = .ok (.iconst 2, 1) := by decide +kernel
theorem dL_law_955 : decode cL_law 955 = .ok (.iadd, 1) := by decide +kernel
theorem dL_law_956 : decode cL_law 956 = .ok (.iaload, 1) := by decide +kernel
theorem dL_law_957 : decode cL_law 957 = .ok (.invokevirtual 115, 3) := by decide +kernel
theorem dL_law_960 : decode cL_law 960 = .ok (.if_icmp .eq 311, 3) := by decide +kernel
theorem dL_law_963 : decode cL_law 963 = .ok (.iconst 0, 1) := by decide +kernel
theorem dL_law_964 : decode cL_law 964 = .ok (.ireturn, 1) := by decide +kernel
theorem dL_law_965 : decode cL_law 965 = .ok (.aload_n 1, 1) := by decide +kernel
theorem dL_law_966 : decode cL_law 966 = .ok (.aload_n 0, 1) := by decide +kernel
theorem dL_law_967 : decode cL_law 967 = .ok (.iload_n 3, 1) := by decide +kernel
theorem dL_law_968 : decode cL_law 968 = .ok (.iconst 1, 1) := by decide +kernel
theorem dL_law_969 : decode cL_law 969 = .ok (.iadd, 1) := by decide +kernel
theorem dL_law_970 : decode cL_law 970 = .ok (.iaload, 1) := by decide +kernel
theorem dL_law_971 : decode cL_law 971 = .ok (.invokevirtual 116, 3) := by decide +kernel
theorem dL_law_974 : decode cL_law 974 = .ok (.aload_n 2, 1) := by decide +kernel
theorem dL_law_975 : decode cL_law 975 = .ok (.aload_n 0, 1) := by decide +kernel
theorem dL_law_976 : decode cL_law 976 = .ok (.iload_n 3, 1) := by decide +kernel
theorem dL_law_977 : decode cL_law 977 = .ok (.iconst 1, 1) := by decide +kernel
theorem dL_law_978 : decode cL_law 978 = .ok (.iadd, 1) := by decide +kernel
theorem dL_law_979 : decode cL_law 979 = .ok (.iaload, 1) := by decide +kernel
theorem dL_law_980 : decode cL_law 980 = .ok (.invokevirtual 119, 3) := by decide +kernel
theorem dL_law_983 : decode cL_law 983 = .ok (.if_icmp .eq 288, 3) := by decide +kernel
theorem dL_law_986 : decode cL_law 986 = .ok (.iconst 0, 1) := by decide +kernel
theorem dL_law_987 : decode cL_law 987 = .ok (.ireturn, 1) := by decide +kernel
theorem dL_law_988 : decode cL_law 988 = .ok (.aload_n 1, 1) := by decide +kernel
theorem dL_law_989 : decode cL_law 989 = .ok (.aload_n 0, 1) := by decide +kernel
theorem dL_law_990 : decode cL_law 990 = .ok (.iload_n 3, 1) := by decide +kernel
theorem dL_law_991 : decode cL_law 991 = .ok (.iconst 1, 1) := by decide +kernel
theorem dL_law_992 : decode cL_law 992 = .ok (.iadd, 1) := by decide +kernel
theorem dL_law_993 : decode cL_law 993 = .ok (.iaload, 1) := by decide +kernel
theorem dL_law_994 : decode cL_law 994 = .ok (.aload_n 0, 1) := by decide +kernel
theorem dL_law_995 : decode cL_law 995 = .ok (.iload_n 3, 1) := by decide +kernel
theorem dL_law_996 : decode cL_law 996 = .ok (.iconst 2, 1) := by decide +kernel
theorem dL_law_997 : decode cL_law 997 = .ok (.iadd, 1) := by decide +kernel
theorem dL_law_998 : decode cL_law 998 = .ok (.iaload, 1) := by decide +kernel
theorem dL_law_999 : decode cL_law 999 = .ok (.aload_n 0, 1) := by decide +kernel
theorem dL_law_1000 : decode cL_law 1000 = .ok (.iload_n 3, 1) := by decide +kernel
theorem dL_law_1001 : decode cL_law 1001 = .ok (.iconst 3, 1) := by decide +kernel
theorem dL_law_1002 : decode cL_law 1002 = .ok (.iadd, 1) := by decide +kernel
theorem dL_law_1003 : decode cL_law 1003 = .ok (.iaload, 1) := by decide +kernel
theorem dL_law_1004 : decode cL_law 1004 = .ok (.invokevirtual 120, 3) := by decide +kernel
theorem dL_law_1007 : decode cL_law 1007 = .ok (.aload_n 2, 1) := by decide +kernel
theorem dL_law_1008 : decode cL_law 1008 = .ok (.aload_n 0, 1) := by decide +kernel
theorem dL_law_1009 : decode cL_law 1009 = .ok (.iload_n 3, 1) := by decide +kernel
theorem dL_law_1010 : decode cL_law 1010 = .ok (.iconst 1, 1) := by decide +kernel
theorem dL_law_1011 : decode cL_law 1011 = .ok (.iadd, 1) := by decide +kernel
theorem dL_law_1012 : decode cL_law 1012 = .ok (.iaload, 1) := by decide +kernel
theorem dL_law_1013 : decode cL_law 1013 = .ok (.aload_n 0, 1) := by decide +kernel
theorem dL_law_1014 : decode cL_law 1014 = .ok (.iload_n 3, 1) := by decide +kernel
theorem dL_law_1015 : decode cL_law 1015 = .ok (.iconst 2, 1) := by decide +kernel
theorem dL_law_1016 : decode cL_law 1016 = .ok (.iadd, 1) := by decide +kernel
theorem dL_law_1017 : decode cL_law 1017 = .ok (.iaload, 1) := by decide +kernel
theorem dL_law_1018 : decode cL_law 1018 = .ok (.aload_n 0, 1) := by decide +kernel
theorem dL_law_1019 : decode cL_law 1019 = .ok (.iload_n 3, 1) := by decide +kernel
theorem dL_law_1020 : decode cL_law 1020 = .ok (.iconst 3, 1) := by decide +kernel
theorem dL_law_1021 : decode cL_law 1021 = .ok (.iadd, 1) := by decide +kernel
theorem dL_law_1022 : decode cL_law 1022 = .ok (.iaload, 1) := by decide +kernel
theorem dL_law_1023 : decode cL_law 1023 = .ok (.invokevirtual 123, 3) := by decide +kernel
theorem dL_law_1026 : decode cL_law 1026 = .ok (.if_icmp .eq 245, 3) := by decide +kernel
theorem dL_law_1029 : decode cL_law 1029 = .ok (.iconst 0, 1) := by decide +kernel
theorem dL_law_1030 : decode cL_law 1030 = .ok (.ireturn, 1) := by decide +kernel
theorem dL_law_1031 : decode cL_law 1031 = .ok (.aload_n 1, 1) := by decide +kernel
theorem dL_law_1032 : decode cL_law 1032 = .ok (.aload_n 0, 1) := by decide +kernel
theorem dL_law_1033 : decode cL_law 1033 = .ok (.iload_n 3, 1) := by decide +kernel
theorem dL_law_1034 : decode cL_law 1034 = .ok (.iconst 1, 1) := by decide +kernel
theorem dL_law_1035 : decode cL_law 1035 = .ok (.iadd, 1) := by decide +kernel
theorem dL_law_1036 : decode cL_law 1036 = .ok (.iaload, 1) := by decide +kernel
theorem dL_law_1037 : decode cL_law 1037 = .ok (.aload_n 0, 1) := by decide +kernel
theorem dL_law_1038 : decode cL_law 1038 = .ok (.iload_n 3, 1) := by decide +kernel
theorem dL_law_1039 : decode cL_law 1039 = .ok (.iconst 2, 1) := by decide +kernel
theorem dL_law_1040 : decode cL_law 1040 = .ok (.iadd, 1) := by decide +kernel
theorem dL_law_1041 : decode cL_law 1041 = .ok (.iaload, 1) := by decide +kernel
theorem dL_law_1042 : decode cL_law 1042 = .ok (.invokevirtual 124, 3) := by decide +kernel
theorem dL_law_1045 : decode cL_law 1045 = .ok (.aload_n 2, 1) := by decide +kernel
theorem dL_law_1046 : decode cL_law 1046 = .ok (.aload_n 0, 1) := by decide +kernel
theorem dL_law_1047 : decode cL_law 1047 = .ok (.iload_n 3, 1) := by decide +kernel
theorem dL_law_1048 : decode cL_law 1048 = .ok (.iconst 1, 1) := by decide +kernel
theorem dL_law_1049 : decode cL_law 1049 = .ok (.iadd, 1) := by decide +kernel
theorem dL_law_1050 : decode cL_law 1050 = .ok (.iaload, 1) := by decide +kernel
theorem dL_law_1051 : decode cL_law 1051 = .ok (.aload_n 0, 1) := by decide +kernel
theorem dL_law_1052 : decode cL_law 1052 = .ok (.iload_n 3, 1) := by decide +kernel
theorem dL_law_1053 : decode cL_law 1053 = .ok (.iconst 2, 1) := by decide +kernel
theorem dL_law_1054 : decode cL_law 1054 = .ok (.iadd, 1) := by decide +kernel
theorem dL_law_1055 : decode cL_law 1055 = .ok (.iaload, 1) := by decide +kernel
theorem dL_law_1056 : decode cL_law 1056 = .ok (.invokevirtual 127, 3) := by decide +kernel
theorem dL_law_1059 : decode cL_law 1059 = .ok (.if_icmp .eq 212, 3) := by decide +kernel
theorem dL_law_1062 : decode cL_law 1062 = .ok (.iconst 0, 1) := by decide +kernel
theorem dL_law_1063 : decode cL_law 1063 = .ok (.ireturn, 1) := by decide +kernel
theorem dL_law_1064 : decode cL_law 1064 = .ok (.aload_n 1, 1) := by decide +kernel
theorem dL_law_1065 : decode cL_law 1065 = .ok (.invokevirtual 128, 3) := by decide +kernel
theorem dL_law_1068 : decode cL_law 1068 = .ok (.aload_n 2, 1) := by decide +kernel
theorem dL_law_1069 : decode cL_law 1069 = .ok (.invokevirtual 131, 3) := by decide +kernel
theorem dL_law_1072 : decode cL_law 1072 = .ok (.if_icmp .eq 199, 3) := by decide +kernel
theorem dL_law_1075 : decode cL_law 1075 = .ok (.iconst 0, 1) := by decide +kernel
theorem dL_law_1076 : decode cL_law 1076 = .ok (.ireturn, 1) := by decide +kernel
theorem dL_law_1077 : decode cL_law 1077 = .ok (.aload_n 1, 1) := by decide +kernel
theorem dL_law_1078 : decode cL_law 1078 = .ok (.aload_n 0, 1) := by decide +kernel
theorem dL_law_1079 : decode cL_law 1079 = .ok (.iload_n 3, 1) := by decide +kernel
theorem dL_law_1080 : decode cL_law 1080 = .ok (.iconst 1, 1) := by decide +kernel
theorem dL_law_1081 : decode cL_law 1081 = .ok (.iadd, 1) := by decide +kernel
theorem dL_law_1082 : decode cL_law 1082 = .ok (.iaload, 1) := by decide +kernel
theorem dL_law_1083 : decode cL_law 1083 = .ok (.invokevirtual 132, 3) := by decide +kernel
theorem dL_law_1086 : decode cL_law 1086 = .ok (.aload_n 2, 1) := by decide +kernel
theorem dL_law_1087 : decode cL_law 1087 = .ok (.aload_n 0, 1) := by decide +kernel
theorem dL_law_1088 : decode cL_law 1088 = .ok (.iload_n 3, 1) := by decide +kernel
theorem dL_law_1089 : decode cL_law 1089 = .ok (.iconst 1, 1) := by decide +kernel
theorem dL_law_1090 : decode cL_law 1090 = .ok (.iadd, 1) := by decide +kernel
theorem dL_law_1091 : decode cL_law 1091 = .ok (.iaload, 1) := by decide +kernel
theorem dL_law_1092 : decode cL_law 1092 = .ok (.invokevirtual 135, 3) := by decide +kernel
theorem dL_law_1095 : decode cL_law 1095 = .ok (.if_icmp .eq 176, 3) := by decide +kernel
theorem dL_law_1098 : decode cL_law 1098 = .ok (.iconst 0, 1) := by decide +kernel
theorem dL_law_1099 : decode cL_law 1099 = .ok (.ireturn, 1) := by decide +kernel
theorem dL_law_1100 : decode cL_law 1100 = .ok (.aload_n 1, 1) := by decide +kernel
theorem dL_law_1101 : decode cL_law 1101 = .ok (.aload_n 0, 1) := by decide +kernel
theorem dL_law_1102 : decode cL_law 1102 = .ok (.iload_n 3, 1) := by decide +kernel
theorem dL_law_1103 : decode cL_law 1103 = .ok (.iconst 1, 1) := by decide +kernel
theorem dL_law_1104 : decode cL_law 1104 = .ok (.iadd, 1) := by decide +kernel
theorem dL_law_1105 : decode cL_law 1105 = .ok (.iaload, 1) := by decide +kernel
theorem dL_law_1106 : decode cL_law 1106 = .ok (.invokevirtual 136, 3) := by decide +kernel
theorem dL_law_1109 : decode cL_law 1109 = .ok (.aload_n 2, 1) := by decide +kernel
theorem dL_law_1110 : decode cL_law 1110 = .ok (.aload_n 0, 1) := by decide +kernel
theorem dL_law_1111 : decode cL_law 1111 = .ok (.iload_n 3, 1) := by decide +kernel
theorem dL_law_1112 : decode cL_law 1112 = .ok (.iconst 1, 1) := by decide +kernel
theorem dL_law_1113 : decode cL_law 1113 = .ok (.iadd, 1) := by decide +kernel
theorem dL_law_1114 : decode cL_law 1114 = .ok (.iaload, 1) := by decide +kernel
theorem dL_law_1115 : decode cL_law 1115 = .ok (.invokevirtual 139, 3) := by decide +kernel
theorem dL_law_1118 : decode cL_law 1118 = .ok (.if_icmp .eq 153, 3) := by decide +kernel
theorem dL_law_1121 : decode cL_law 1121 = .ok (.iconst 0, 1) := by decide +kernel
theorem dL_law_1122 : decode cL_law 1122 = .ok (.ireturn, 1) := by decide +kernel
theorem dL_law_1123 : decode cL_law 1123 = .ok (.aload_n 1, 1) := by decide +kernel
theorem dL_law_1124 : decode cL_law 1124 = .ok (.aload_n 0, 1) := by decide +kernel
theorem dL_law_1125 : decode cL_law 1125 = .ok (.iload_n 3, 1) := by decide +kernel
theorem dL_law_1126 : decode cL_law 1126 = .ok (.iconst 1, 1) := by decide +kernel
theorem dL_law_1127 : decode cL_law 1127 = .ok (.iadd, 1) := by decide +kernel
theorem dL_law_1128 : decode cL_law 1128 = .ok (.iaload, 1) := by decide +kernel
theorem dL_law_1129 : decode cL_law 1129 = .ok (.invokevirtual 140, 3) := by decide +kernel
theorem dL_law_1132 : decode cL_law 1132 = .ok (.aload_n 2, 1) := by decide +kernel
theorem dL_law_1133 : decode cL_law 1133 = .ok (.aload_n 0, 1) := by decide +kernel
theorem dL_law_1134 : decode cL_law 1134 = .ok (.iload_n 3, 1) := by decide +kernel
theorem dL_law_1135 : decode cL_law 1135 = .ok (.iconst 1, 1) := by decide +kernel
theorem dL_law_1136 : decode cL_law 1136 = .ok (.iadd, 1) := by decide +kernel
theorem dL_law_1137 : decode cL_law 1137 = .ok (.iaload, 1) := by decide +kernel
theorem dL_law_1138 : decode cL_law 1138 = .ok (.invokevirtual 143, 3) := by decide +kernel
theorem dL_law_1141 : decode cL_law 1141 = .ok (.if_icmp .eq 130, 3) := by decide +kernel
theorem dL_law_1144 : decode cL_law 1144 = .ok (.iconst 0, 1) := by decide +kernel
theorem dL_law_1145 : decode cL_law 1145 = .ok (.ireturn, 1) := by decide +kernel
theorem dL_law_1146 : decode cL_law 1146 = .ok (.aload_n 1, 1) := by decide +kernel
theorem dL_law_1147 : decode cL_law 1147 = .ok (.aload_n 0, 1) := by decide +kernel
theorem dL_law_1148 : decode cL_law 1148 = .ok (.iload_n 3, 1) := by decide +kernel
theorem dL_law_1149 : decode cL_law 1149 = .ok (.iconst 1, 1) := by decide +kernel
theorem dL_law_1150 : decode cL_law 1150 = .ok (.iadd, 1) := by decide +kernel
theorem dL_law_1151 : decode cL_law 1151 = .ok (.iaload, 1) := by decide +kernel
theorem dL_law_1152 : decode cL_law 1152 = .ok (.aload_n 0, 1) := by decide +kernel
theorem dL_law_1153 : decode cL_law 1153 = .ok (.iload_n 3, 1) := by decide +kernel
theorem dL_law_1154 : decode cL_law 1154 = .ok (.iconst 2, 1) := by decide +kernel
theorem dL_law_1155 : decode cL_law 1155 = .ok (.iadd, 1) := by decide +kernel
theorem dL_law_1156 : decode cL_law 1156 = .ok (.iaload, 1) := by decide +kernel
theorem dL_law_1157 : decode cL_law 1157 = .ok (.invokevirtual 144, 3) := by decide +kernel
theorem dL_law_1160 : decode cL_law 1160 = .ok (.aload_n 2, 1) := by decide +kernel
theorem dL_law_1161 : decode cL_law 1161 = .ok (.aload_n 0, 1) := by decide +kernel
theorem dL_law_1162 : decode cL_law 1162 = .ok (.iload_n 3, 1) := by decide +kernel
theorem dL_law_1163 : decode cL_law 1163 = .ok (.iconst 1, 1) := by decide +kernel
theorem dL_law_1164 : decode cL_law 1164 = .ok (.iadd, 1) := by decide +kernel
theorem dL_law_1165 : decode cL_law 1165 = .ok (.iaload, 1) := by decide +kernel
theorem dL_law_1166 : decode cL_law 1166 = .ok (.aload_n 0, 1) := by decide +kernel
theorem dL_law_1167 : decode cL_law 1167 = .ok (.iload_n 3, 1) := by decide +kernel
theorem dL_law_1168 : decode cL_law 1168 = .ok (.iconst 2, 1) := by decide +kernel
theorem dL_law_1169 : decode cL_law 1169 = .ok (.iadd, 1) := by decide +kernel
theorem dL_law_1170 : decode cL_law 1170 = .ok (.iaload, 1) := by decide +kernel
theorem dL_law_1171 : decode cL_law 1171 = .ok (.invokevirtual 147, 3) := by decide +kernel
theorem dL_law_1174 : decode cL_law 1174 = .ok (.if_icmp .eq 97, 3) := by decide +kernel
theorem dL_law_1177 : decode cL_law 1177 = .ok (.iconst 0, 1) := by decide +kernel
theorem dL_law_1178 : decode cL_law 1178 = .ok (.ireturn, 1) := by decide +kernel
theorem dL_law_1179 : decode cL_law 1179 = .ok (.aload_n 1, 1) := by decide +kernel
theorem dL_law_1180 : decode cL_law 1180 = .ok (.aload_n 0, 1) := by decide +kernel
theorem dL_law_1181 : decode cL_law 1181 = .ok (.iload_n 3, 1) := by decide +kernel
theorem dL_law_1182 : decode cL_law 1182 = .ok (.iconst 1, 1) := by decide +kernel
theorem dL_law_1183 : decode cL_law 1183 = .ok (.iadd, 1) := by decide +kernel
theorem dL_law_1184 : decode cL_law 1184 = .ok (.iaload, 1) := by decide +kernel
theorem dL_law_1185 : decode cL_law 1185 = .ok (.aload_n 0, 1) := by decide +kernel
theorem dL_law_1186 : decode cL_law 1186 = .ok (.iload_n 3, 1) := by decide +kernel
theorem dL_law_1187 : decode cL_law 1187 = .ok (.iconst 2, 1) := by decide +kernel
theorem dL_law_1188 : decode cL_law 1188 = .ok (.iadd, 1) := by decide +kernel
theorem dL_law_1189 : decode cL_law 1189 = .ok (.iaload, 1) := by decide +kernel
theorem dL_law_1190 : decode cL_law 1190 = .ok (.invokevirtual 148, 3) := by decide +kernel
theorem dL_law_1193 : decode cL_law 1193 = .ok (.aload_n 2, 1) := by decide +kernel
theorem dL_law_1194 : decode cL_law 1194 = .ok (.aload_n 0, 1) := by decide +kernel
theorem dL_law_1195 : decode cL_law 1195 = .ok (.iload_n 3, 1) := by decide +kernel
theorem dL_law_1196 : decode cL_law 1196 = .ok (.iconst 1, 1) := by decide +kernel
theorem dL_law_1197 : decode cL_law 1197 = .ok (.iadd, 1) := by decide +kernel
theorem dL_law_1198 : decode cL_law 1198 = .ok (.iaload, 1) := by decide +kernel
theorem dL_law_1199 : decode cL_law 1199 = .ok (.aload_n 0, 1) := by decide +kernel
theorem dL_law_1200 : decode cL_law 1200 = .ok (.iload_n 3, 1) := by decide +kernel
theorem dL_law_1201 : decode cL_law 1201 = .ok (.iconst 2, 1) := by decide +kernel
theorem dL_law_1202 : decode cL_law 1202 = .ok (.iadd, 1) := by decide +kernel
theorem dL_law_1203 : decode cL_law 1203 = .ok (.iaload, 1) := by decide +kernel
theorem dL_law_1204 : decode cL_law 1204 = .ok (.invokevirtual 151, 3) := by decide +kernel
theorem dL_law_1207 : decode cL_law 1207 = .ok (.if_icmp .eq 64, 3) := by decide +kernel
theorem dL_law_1210 : decode cL_law 1210 = .ok (.iconst 0, 1) := by decide +kernel
theorem dL_law_1211 : decode cL_law 1211 = .ok (.ireturn, 1) := by decide +kernel
theorem dL_law_1212 : decode cL_law 1212 = .ok (.aload_n 1, 1) := by decide +kernel
theorem dL_law_1213 : decode cL_law 1213 = .ok (.aload_n 0, 1) := by decide +kernel
theorem dL_law_1214 : decode cL_law 1214 = .ok (.iload_n 3, 1) := by decide +kernel
theorem dL_law_1215 : decode cL_law 1215 = .ok (.iconst 1, 1) := by decide +kernel
theorem dL_law_1216 : decode cL_law 1216 = .ok (.iadd, 1) := by decide +kernel
theorem dL_law_1217 : decode cL_law 1217 = .ok (.iaload, 1) := by decide +kernel
theorem dL_law_1218 : decode cL_law 1218 = .ok (.invokevirtual 152, 3) := by decide +kernel
theorem dL_law_1221 : decode cL_law 1221 = .ok (.aload_n 2, 1) := by decide +kernel
theorem dL_law_1222 : decode cL_law 1222 = .ok (.aload_n 0, 1) := by decide +kernel
theorem dL_law_1223 : decode cL_law 1223 = .ok (.iload_n 3, 1) := by decide +kernel
theorem dL_law_1224 : decode cL_law 1224 = .ok (.iconst 1, 1) := by decide +kernel
theorem dL_law_1225 : decode cL_law 1225 = .ok (.iadd, 1) := by decide +kernel
theorem dL_law_1226 : decode cL_law 1226 = .ok (.iaload, 1) := by decide +kernel
theorem dL_law_1227 : decode cL_law 1227 = .ok (.invokevirtual 155, 3) := by decide +kernel
theorem dL_law_1230 : decode cL_law 1230 = .ok (.if_icmp .eq 41, 3) := by decide +kernel
theorem dL_law_1233 : decode cL_law 1233 = .ok (.iconst 0, 1) := by decide +kernel
theorem dL_law_1234 : decode cL_law 1234 = .ok (.ireturn, 1) := by decide +kernel
theorem dL_law_1235 : decode cL_law 1235 = .ok (.aload_n 1, 1) := by decide +kernel
theorem dL_law_1236 : decode cL_law 1236 = .ok (.aload_n 0, 1) := by decide +kernel
theorem dL_law_1237 : decode cL_law 1237 = .ok (.iload_n 3, 1) := by decide +kernel
theorem dL_law_1238 : decode cL_law 1238 = .ok (.iconst 1, 1) := by decide +kernel
theorem dL_law_1239 : decode cL_law 1239 = .ok (.iadd, 1) := by decide +kernel
theorem dL_law_1240 : decode cL_law 1240 = .ok (.iaload, 1) := by decide +kernel
theorem dL_law_1241 : decode cL_law 1241 = .ok (.invokevirtual 156, 3) := by decide +kernel
theorem dL_law_1244 : decode cL_law 1244 = .ok (.aload_n 2, 1) := by decide +kernel
theorem dL_law_1245 : decode cL_law 1245 = .ok (.aload_n 0, 1) := by decide +kernel
theorem dL_law_1246 : decode cL_law 1246 = .ok (.iload_n 3, 1) := by decide +kernel
theorem dL_law_1247 : decode cL_law 1247 = .ok (.iconst 1, 1) := by decide +kernel
theorem dL_law_1248 : decode cL_law 1248 = .ok (.iadd, 1) := by decide +kernel
theorem dL_law_1249 : decode cL_law 1249 = .ok (.iaload, 1) := by decide +kernel
theorem dL_law_1250 : decode cL_law 1250 = .ok (.invokevirtual 159, 3) := by decide +kernel
theorem dL_law_1253 : decode cL_law 1253 = .ok (.if_icmp .eq 18, 3) := by decide +kernel
theorem dL_law_1256 : decode cL_law 1256 = .ok (.iconst 0, 1) := by decide +kernel
theorem dL_law_1257 : decode cL_law 1257 = .ok (.ireturn, 1) := by decide +kernel
theorem dL_law_1258 : decode cL_law 1258 = .ok (.aload_n 1, 1) := by decide +kernel
theorem dL_law_1259 : decode cL_law 1259 = .ok (.invokevirtual 160, 3) := by decide +kernel
theorem dL_law_1262 : decode cL_law 1262 = .ok (.aload_n 2, 1) := by decide +kernel
theorem dL_law_1263 : decode cL_law 1263 = .ok (.invokevirtual 163, 3) := by decide +kernel
theorem dL_law_1266 : decode cL_law 1266 = .ok (.if_icmp .eq 5, 3) := by decide +kernel
theorem dL_law_1269 : decode cL_law 1269 = .ok (.iconst 0, 1) := by decide +kernel
theorem dL_law_1270 : decode cL_law 1270 = .ok (.ireturn, 1) := by decide +kernel
theorem dL_law_1271 : decode cL_law 1271 = .ok (.iinc 3 6, 3) := by decide +kernel
theorem dL_law_1274 : decode cL_law 1274 = .ok (.goto (-1256), 3) := by decide +kernel
theorem dL_law_1277 : decode cL_law 1277 = .ok (.iconst 1, 1) := by decide +kernel
theorem dL_law_1278 : decode cL_law 1278 = .ok (.ireturn, 1) := by decide +kernel
end
