section
-- ===== PART A: goes FIRST, ahead of the names: the tables' words, and 'selects' of the private methods out of them =====
/-- a private method of a class that the tables say can be made, by its rows of tables_1 -/
def lw_okq (q : MethodName × Nat) : Prop := (q.1.cls ≠ "java/lang/invoke/MethodHandle" ∧ q.1.cls ≠ "java/lang/invoke/VarHandle") ∧ Cond.instantiable q.1.cls q.2 ∈ tables_1 ∧ Cond.privateMethod q.1 ∈ tables_1 ∧ Cond.instanceMethod q.1 ∈ tables_1
theorem lw_p0 : lw_okq (⟨"OrchardWall", "found", "(I)I"⟩, 14) := ⟨⟨by decide +kernel, by decide +kernel⟩, List.mem_of_getElem? (i := 20) (by decide +kernel), List.mem_of_getElem? (i := 338) (by decide +kernel), List.mem_of_getElem? (i := 339) (by decide +kernel)⟩
theorem lw_p1 : lw_okq (⟨"OrchardWall", "well", "(I)I"⟩, 14) := ⟨⟨by decide +kernel, by decide +kernel⟩, List.mem_of_getElem? (i := 20) (by decide +kernel), List.mem_of_getElem? (i := 347) (by decide +kernel), List.mem_of_getElem? (i := 348) (by decide +kernel)⟩
theorem lw_p2 : lw_okq (⟨"OrchardWall$Reader", "advance", "()V"⟩, 7) := ⟨⟨by decide +kernel, by decide +kernel⟩, List.mem_of_getElem? (i := 50) (by decide +kernel), List.mem_of_getElem? (i := 413) (by decide +kernel), List.mem_of_getElem? (i := 414) (by decide +kernel)⟩
theorem lw_p3 : lw_okq (⟨"OrchardWall$Reader", "advanceOverFigures", "()V"⟩, 7) := ⟨⟨by decide +kernel, by decide +kernel⟩, List.mem_of_getElem? (i := 50) (by decide +kernel), List.mem_of_getElem? (i := 420) (by decide +kernel), List.mem_of_getElem? (i := 421) (by decide +kernel)⟩
theorem lw_p4 : lw_okq (⟨"OrchardWall$Reader", "readLaw", "(LOrchardWall$Orchard;)Z"⟩, 7) := ⟨⟨by decide +kernel, by decide +kernel⟩, List.mem_of_getElem? (i := 50) (by decide +kernel), List.mem_of_getElem? (i := 429) (by decide +kernel), List.mem_of_getElem? (i := 430) (by decide +kernel)⟩
theorem lw_p5 : lw_okq (⟨"OrchardWall$Reader", "take", "(I)Z"⟩, 7) := ⟨⟨by decide +kernel, by decide +kernel⟩, List.mem_of_getElem? (i := 50) (by decide +kernel), List.mem_of_getElem? (i := 433) (by decide +kernel), List.mem_of_getElem? (i := 434) (by decide +kernel)⟩
theorem lw_p6 : lw_okq (⟨"OrchardWall$Reader", "fail", "(I)Z"⟩, 7) := ⟨⟨by decide +kernel, by decide +kernel⟩, List.mem_of_getElem? (i := 50) (by decide +kernel), List.mem_of_getElem? (i := 437) (by decide +kernel), List.mem_of_getElem? (i := 438) (by decide +kernel)⟩
theorem lw_p7 : lw_okq (⟨"OrchardWall$Reader", "takeField", "(IIII)I"⟩, 7) := ⟨⟨by decide +kernel, by decide +kernel⟩, List.mem_of_getElem? (i := 50) (by decide +kernel), List.mem_of_getElem? (i := 441) (by decide +kernel), List.mem_of_getElem? (i := 442) (by decide +kernel)⟩
theorem lw_p8 : lw_okq (⟨"OrchardWall$Reader", "readHens", "(LOrchardWall$Orchard;)Z"⟩, 7) := ⟨⟨by decide +kernel, by decide +kernel⟩, List.mem_of_getElem? (i := 50) (by decide +kernel), List.mem_of_getElem? (i := 445) (by decide +kernel), List.mem_of_getElem? (i := 446) (by decide +kernel)⟩
theorem lw_p9 : lw_okq (⟨"OrchardWall$Reader", "readTrees", "(LOrchardWall$Orchard;)Z"⟩, 7) := ⟨⟨by decide +kernel, by decide +kernel⟩, List.mem_of_getElem? (i := 50) (by decide +kernel), List.mem_of_getElem? (i := 459) (by decide +kernel), List.mem_of_getElem? (i := 460) (by decide +kernel)⟩
theorem lw_p10 : lw_okq (⟨"OrchardWall$Reader", "readRaiders", "(LOrchardWall$Orchard;)Z"⟩, 7) := ⟨⟨by decide +kernel, by decide +kernel⟩, List.mem_of_getElem? (i := 50) (by decide +kernel), List.mem_of_getElem? (i := 463) (by decide +kernel), List.mem_of_getElem? (i := 464) (by decide +kernel)⟩
theorem lw_p11 : lw_okq (⟨"OrchardWall$Reader", "isAtEnd", "()Z"⟩, 7) := ⟨⟨by decide +kernel, by decide +kernel⟩, List.mem_of_getElem? (i := 50) (by decide +kernel), List.mem_of_getElem? (i := 554) (by decide +kernel), List.mem_of_getElem? (i := 555) (by decide +kernel)⟩
theorem lw_p12 : lw_okq (⟨"OrchardWall", "isPlan", "(III)Z"⟩, 14) := ⟨⟨by decide +kernel, by decide +kernel⟩, List.mem_of_getElem? (i := 20) (by decide +kernel), List.mem_of_getElem? (i := 591) (by decide +kernel), List.mem_of_getElem? (i := 592) (by decide +kernel)⟩
theorem lw_p13 : lw_okq (⟨"OrchardWall", "raidOf", "(I)V"⟩, 14) := ⟨⟨by decide +kernel, by decide +kernel⟩, List.mem_of_getElem? (i := 20) (by decide +kernel), List.mem_of_getElem? (i := 624) (by decide +kernel), List.mem_of_getElem? (i := 625) (by decide +kernel)⟩
theorem lw_p14 : lw_okq (⟨"OrchardWall$Raid", "move", "(I)V"⟩, 17) := ⟨⟨by decide +kernel, by decide +kernel⟩, List.mem_of_getElem? (i := 183) (by decide +kernel), List.mem_of_getElem? (i := 639) (by decide +kernel), List.mem_of_getElem? (i := 640) (by decide +kernel)⟩
theorem lw_p15 : lw_okq (⟨"OrchardWall$Raid", "isIn", "(I)Z"⟩, 17) := ⟨⟨by decide +kernel, by decide +kernel⟩, List.mem_of_getElem? (i := 183) (by decide +kernel), List.mem_of_getElem? (i := 643) (by decide +kernel), List.mem_of_getElem? (i := 644) (by decide +kernel)⟩
def lw_privs_1 : List (MethodName × Nat) := [(⟨"OrchardWall", "found", "(I)I"⟩, 14), (⟨"OrchardWall", "well", "(I)I"⟩, 14), (⟨"OrchardWall$Reader", "advance", "()V"⟩, 7), (⟨"OrchardWall$Reader", "advanceOverFigures", "()V"⟩, 7), (⟨"OrchardWall$Reader", "readLaw", "(LOrchardWall$Orchard;)Z"⟩, 7), (⟨"OrchardWall$Reader", "take", "(I)Z"⟩, 7), (⟨"OrchardWall$Reader", "fail", "(I)Z"⟩, 7), (⟨"OrchardWall$Reader", "takeField", "(IIII)I"⟩, 7), (⟨"OrchardWall$Reader", "readHens", "(LOrchardWall$Orchard;)Z"⟩, 7), (⟨"OrchardWall$Reader", "readTrees", "(LOrchardWall$Orchard;)Z"⟩, 7), (⟨"OrchardWall$Reader", "readRaiders", "(LOrchardWall$Orchard;)Z"⟩, 7), (⟨"OrchardWall$Reader", "isAtEnd", "()Z"⟩, 7), (⟨"OrchardWall", "isPlan", "(III)Z"⟩, 14), (⟨"OrchardWall", "raidOf", "(I)V"⟩, 14), (⟨"OrchardWall$Raid", "move", "(I)V"⟩, 17), (⟨"OrchardWall$Raid", "isIn", "(I)Z"⟩, 17)]
theorem lw_r1 : ∀ q ∈ lw_privs_1, lw_okq q := List.forall_mem_cons.mpr ⟨lw_p0, List.forall_mem_cons.mpr ⟨lw_p1, List.forall_mem_cons.mpr ⟨lw_p2, List.forall_mem_cons.mpr ⟨lw_p3, List.forall_mem_cons.mpr ⟨lw_p4, List.forall_mem_cons.mpr ⟨lw_p5, List.forall_mem_cons.mpr ⟨lw_p6, List.forall_mem_cons.mpr ⟨lw_p7, List.forall_mem_cons.mpr ⟨lw_p8, List.forall_mem_cons.mpr ⟨lw_p9, List.forall_mem_cons.mpr ⟨lw_p10, List.forall_mem_cons.mpr ⟨lw_p11, List.forall_mem_cons.mpr ⟨lw_p12, List.forall_mem_cons.mpr ⟨lw_p13, List.forall_mem_cons.mpr ⟨lw_p14, List.forall_mem_cons.mpr ⟨lw_p15, fun _ h => absurd h List.not_mem_nil⟩⟩⟩⟩⟩⟩⟩⟩⟩⟩⟩⟩⟩⟩⟩⟩
theorem lw_p16 : lw_okq (⟨"OrchardWall$Raid", "pick", "(I)V"⟩, 17) := ⟨⟨by decide +kernel, by decide +kernel⟩, List.mem_of_getElem? (i := 183) (by decide +kernel), List.mem_of_getElem? (i := 647) (by decide +kernel), List.mem_of_getElem? (i := 648) (by decide +kernel)⟩
theorem lw_p17 : lw_okq (⟨"OrchardWall$Raid", "pace", "(I)I"⟩, 17) := ⟨⟨by decide +kernel, by decide +kernel⟩, List.mem_of_getElem? (i := 183) (by decide +kernel), List.mem_of_getElem? (i := 651) (by decide +kernel), List.mem_of_getElem? (i := 652) (by decide +kernel)⟩
theorem lw_p18 : lw_okq (⟨"OrchardWall$Raid", "step", "(I)V"⟩, 17) := ⟨⟨by decide +kernel, by decide +kernel⟩, List.mem_of_getElem? (i := 183) (by decide +kernel), List.mem_of_getElem? (i := 655) (by decide +kernel), List.mem_of_getElem? (i := 656) (by decide +kernel)⟩
theorem lw_p19 : lw_okq (⟨"OrchardWall$Raid", "leave", "(I)V"⟩, 17) := ⟨⟨by decide +kernel, by decide +kernel⟩, List.mem_of_getElem? (i := 183) (by decide +kernel), List.mem_of_getElem? (i := 667) (by decide +kernel), List.mem_of_getElem? (i := 668) (by decide +kernel)⟩
theorem lw_p20 : lw_okq (⟨"OrchardWall$Raid", "endSecond", "()V"⟩, 17) := ⟨⟨by decide +kernel, by decide +kernel⟩, List.mem_of_getElem? (i := 183) (by decide +kernel), List.mem_of_getElem? (i := 671) (by decide +kernel), List.mem_of_getElem? (i := 672) (by decide +kernel)⟩
theorem lw_p21 : lw_okq (⟨"OrchardWall$Raid", "callBack", "()V"⟩, 17) := ⟨⟨by decide +kernel, by decide +kernel⟩, List.mem_of_getElem? (i := 183) (by decide +kernel), List.mem_of_getElem? (i := 675) (by decide +kernel), List.mem_of_getElem? (i := 676) (by decide +kernel)⟩
theorem lw_p22 : lw_okq (⟨"OrchardWall$Raid", "catchAll", "()V"⟩, 17) := ⟨⟨by decide +kernel, by decide +kernel⟩, List.mem_of_getElem? (i := 183) (by decide +kernel), List.mem_of_getElem? (i := 679) (by decide +kernel), List.mem_of_getElem? (i := 680) (by decide +kernel)⟩
theorem lw_p23 : lw_okq (⟨"OrchardWall", "raidAlone", "(IIII)V"⟩, 14) := ⟨⟨by decide +kernel, by decide +kernel⟩, List.mem_of_getElem? (i := 20) (by decide +kernel), List.mem_of_getElem? (i := 762) (by decide +kernel), List.mem_of_getElem? (i := 763) (by decide +kernel)⟩
theorem lw_p24 : lw_okq (⟨"OrchardWall", "compareAlone", "(IIII)Z"⟩, 14) := ⟨⟨by decide +kernel, by decide +kernel⟩, List.mem_of_getElem? (i := 20) (by decide +kernel), List.mem_of_getElem? (i := 775) (by decide +kernel), List.mem_of_getElem? (i := 776) (by decide +kernel)⟩
theorem lw_p25 : lw_okq (⟨"OrchardWall", "refusalOfDays", "(III)I"⟩, 14) := ⟨⟨by decide +kernel, by decide +kernel⟩, List.mem_of_getElem? (i := 20) (by decide +kernel), List.mem_of_getElem? (i := 787) (by decide +kernel), List.mem_of_getElem? (i := 788) (by decide +kernel)⟩
theorem lw_p26 : lw_okq (⟨"OrchardWall$Days", "product", "(I)J"⟩, 4) := ⟨⟨by decide +kernel, by decide +kernel⟩, List.mem_of_getElem? (i := 264) (by decide +kernel), List.mem_of_getElem? (i := 799) (by decide +kernel), List.mem_of_getElem? (i := 800) (by decide +kernel)⟩
theorem lw_p27 : lw_okq (⟨"OrchardWall$Days", "sumOfParts", "(IJ)J"⟩, 4) := ⟨⟨by decide +kernel, by decide +kernel⟩, List.mem_of_getElem? (i := 264) (by decide +kernel), List.mem_of_getElem? (i := 803) (by decide +kernel), List.mem_of_getElem? (i := 804) (by decide +kernel)⟩
theorem lw_p28 : lw_okq (⟨"OrchardWall$Days", "part", "(JI)J"⟩, 4) := ⟨⟨by decide +kernel, by decide +kernel⟩, List.mem_of_getElem? (i := 264) (by decide +kernel), List.mem_of_getElem? (i := 807) (by decide +kernel), List.mem_of_getElem? (i := 808) (by decide +kernel)⟩
theorem lw_p29 : lw_okq (⟨"OrchardWall", "refusalOfTold", "(IIIZ)I"⟩, 14) := ⟨⟨by decide +kernel, by decide +kernel⟩, List.mem_of_getElem? (i := 20) (by decide +kernel), List.mem_of_getElem? (i := 836) (by decide +kernel), List.mem_of_getElem? (i := 837) (by decide +kernel)⟩
theorem lw_p30 : lw_okq (⟨"OrchardWall", "isMissingJustSo", "(II)Z"⟩, 14) := ⟨⟨by decide +kernel, by decide +kernel⟩, List.mem_of_getElem? (i := 20) (by decide +kernel), List.mem_of_getElem? (i := 856) (by decide +kernel), List.mem_of_getElem? (i := 857) (by decide +kernel)⟩
theorem lw_p31 : lw_okq (⟨"OrchardWall", "imageAt", "(I)LOrchardWall$Orchard;"⟩, 14) := ⟨⟨by decide +kernel, by decide +kernel⟩, List.mem_of_getElem? (i := 20) (by decide +kernel), List.mem_of_getElem? (i := 888) (by decide +kernel), List.mem_of_getElem? (i := 889) (by decide +kernel)⟩
def lw_privs_2 : List (MethodName × Nat) := [(⟨"OrchardWall$Raid", "pick", "(I)V"⟩, 17), (⟨"OrchardWall$Raid", "pace", "(I)I"⟩, 17), (⟨"OrchardWall$Raid", "step", "(I)V"⟩, 17), (⟨"OrchardWall$Raid", "leave", "(I)V"⟩, 17), (⟨"OrchardWall$Raid", "endSecond", "()V"⟩, 17), (⟨"OrchardWall$Raid", "callBack", "()V"⟩, 17), (⟨"OrchardWall$Raid", "catchAll", "()V"⟩, 17), (⟨"OrchardWall", "raidAlone", "(IIII)V"⟩, 14), (⟨"OrchardWall", "compareAlone", "(IIII)Z"⟩, 14), (⟨"OrchardWall", "refusalOfDays", "(III)I"⟩, 14), (⟨"OrchardWall$Days", "product", "(I)J"⟩, 4), (⟨"OrchardWall$Days", "sumOfParts", "(IJ)J"⟩, 4), (⟨"OrchardWall$Days", "part", "(JI)J"⟩, 4), (⟨"OrchardWall", "refusalOfTold", "(IIIZ)I"⟩, 14), (⟨"OrchardWall", "isMissingJustSo", "(II)Z"⟩, 14), (⟨"OrchardWall", "imageAt", "(I)LOrchardWall$Orchard;"⟩, 14)]
theorem lw_r2 : ∀ q ∈ lw_privs_2, lw_okq q := List.forall_mem_cons.mpr ⟨lw_p16, List.forall_mem_cons.mpr ⟨lw_p17, List.forall_mem_cons.mpr ⟨lw_p18, List.forall_mem_cons.mpr ⟨lw_p19, List.forall_mem_cons.mpr ⟨lw_p20, List.forall_mem_cons.mpr ⟨lw_p21, List.forall_mem_cons.mpr ⟨lw_p22, List.forall_mem_cons.mpr ⟨lw_p23, List.forall_mem_cons.mpr ⟨lw_p24, List.forall_mem_cons.mpr ⟨lw_p25, List.forall_mem_cons.mpr ⟨lw_p26, List.forall_mem_cons.mpr ⟨lw_p27, List.forall_mem_cons.mpr ⟨lw_p28, List.forall_mem_cons.mpr ⟨lw_p29, List.forall_mem_cons.mpr ⟨lw_p30, List.forall_mem_cons.mpr ⟨lw_p31, fun _ h => absurd h List.not_mem_nil⟩⟩⟩⟩⟩⟩⟩⟩⟩⟩⟩⟩⟩⟩⟩⟩
theorem lw_p32 : lw_okq (⟨"OrchardWall", "firstBody", "(II)I"⟩, 14) := ⟨⟨by decide +kernel, by decide +kernel⟩, List.mem_of_getElem? (i := 20) (by decide +kernel), List.mem_of_getElem? (i := 913) (by decide +kernel), List.mem_of_getElem? (i := 914) (by decide +kernel)⟩
theorem lw_p33 : lw_okq (⟨"OrchardWall", "body", "(III)I"⟩, 14) := ⟨⟨by decide +kernel, by decide +kernel⟩, List.mem_of_getElem? (i := 20) (by decide +kernel), List.mem_of_getElem? (i := 921) (by decide +kernel), List.mem_of_getElem? (i := 922) (by decide +kernel)⟩
theorem lw_p34 : lw_okq (⟨"OrchardWallModel", "finding", "(I)I"⟩, 41) := ⟨⟨by decide +kernel, by decide +kernel⟩, List.mem_of_getElem? (i := 941) (by decide +kernel), List.mem_of_getElem? (i := 1086) (by decide +kernel), List.mem_of_getElem? (i := 1087) (by decide +kernel)⟩
theorem lw_p35 : lw_okq (⟨"OrchardWallModel", "beginText", "()V"⟩, 41) := ⟨⟨by decide +kernel, by decide +kernel⟩, List.mem_of_getElem? (i := 941) (by decide +kernel), List.mem_of_getElem? (i := 1117) (by decide +kernel), List.mem_of_getElem? (i := 1118) (by decide +kernel)⟩
theorem lw_p36 : lw_okq (⟨"OrchardWallModel", "nextToken", "()V"⟩, 41) := ⟨⟨by decide +kernel, by decide +kernel⟩, List.mem_of_getElem? (i := 941) (by decide +kernel), List.mem_of_getElem? (i := 1121) (by decide +kernel), List.mem_of_getElem? (i := 1122) (by decide +kernel)⟩
theorem lw_p37 : lw_okq (⟨"OrchardWallModel", "isLetter", "(I)Z"⟩, 41) := ⟨⟨by decide +kernel, by decide +kernel⟩, List.mem_of_getElem? (i := 941) (by decide +kernel), List.mem_of_getElem? (i := 1129) (by decide +kernel), List.mem_of_getElem? (i := 1130) (by decide +kernel)⟩
theorem lw_p38 : lw_okq (⟨"OrchardWallModel", "must", "(Z)V"⟩, 41) := ⟨⟨by decide +kernel, by decide +kernel⟩, List.mem_of_getElem? (i := 941) (by decide +kernel), List.mem_of_getElem? (i := 1133) (by decide +kernel), List.mem_of_getElem? (i := 1134) (by decide +kernel)⟩
theorem lw_p39 : lw_okq (⟨"OrchardWallModel", "bad", "(I)V"⟩, 41) := ⟨⟨by decide +kernel, by decide +kernel⟩, List.mem_of_getElem? (i := 941) (by decide +kernel), List.mem_of_getElem? (i := 1137) (by decide +kernel), List.mem_of_getElem? (i := 1138) (by decide +kernel)⟩
theorem lw_p40 : lw_okq (⟨"OrchardWallModel", "number", "(II)I"⟩, 41) := ⟨⟨by decide +kernel, by decide +kernel⟩, List.mem_of_getElem? (i := 941) (by decide +kernel), List.mem_of_getElem? (i := 1141) (by decide +kernel), List.mem_of_getElem? (i := 1142) (by decide +kernel)⟩
theorem lw_p41 : lw_okq (⟨"OrchardWallModel", "mustSign", "(I)V"⟩, 41) := ⟨⟨by decide +kernel, by decide +kernel⟩, List.mem_of_getElem? (i := 941) (by decide +kernel), List.mem_of_getElem? (i := 1145) (by decide +kernel), List.mem_of_getElem? (i := 1146) (by decide +kernel)⟩
theorem lw_p42 : lw_okq (⟨"OrchardWallModel", "readHens", "()V"⟩, 41) := ⟨⟨by decide +kernel, by decide +kernel⟩, List.mem_of_getElem? (i := 941) (by decide +kernel), List.mem_of_getElem? (i := 1149) (by decide +kernel), List.mem_of_getElem? (i := 1150) (by decide +kernel)⟩
theorem lw_p43 : lw_okq (⟨"OrchardWallModel", "begins", "(II)V"⟩, 41) := ⟨⟨by decide +kernel, by decide +kernel⟩, List.mem_of_getElem? (i := 941) (by decide +kernel), List.mem_of_getElem? (i := 1153) (by decide +kernel), List.mem_of_getElem? (i := 1154) (by decide +kernel)⟩
theorem lw_p44 : lw_okq (⟨"OrchardWallModel", "readTree", "()V"⟩, 41) := ⟨⟨by decide +kernel, by decide +kernel⟩, List.mem_of_getElem? (i := 941) (by decide +kernel), List.mem_of_getElem? (i := 1157) (by decide +kernel), List.mem_of_getElem? (i := 1158) (by decide +kernel)⟩
theorem lw_p45 : lw_okq (⟨"OrchardWallModel", "readRaider", "()V"⟩, 41) := ⟨⟨by decide +kernel, by decide +kernel⟩, List.mem_of_getElem? (i := 941) (by decide +kernel), List.mem_of_getElem? (i := 1164) (by decide +kernel), List.mem_of_getElem? (i := 1165) (by decide +kernel)⟩
theorem lw_p46 : lw_okq (⟨"OrchardWallModel", "failed", "()Z"⟩, 41) := ⟨⟨by decide +kernel, by decide +kernel⟩, List.mem_of_getElem? (i := 941) (by decide +kernel), List.mem_of_getElem? (i := 1168) (by decide +kernel), List.mem_of_getElem? (i := 1169) (by decide +kernel)⟩
theorem lw_p47 : lw_okq (⟨"OrchardWallModel", "isRaider", "(I)Z"⟩, 41) := ⟨⟨by decide +kernel, by decide +kernel⟩, List.mem_of_getElem? (i := 941) (by decide +kernel), List.mem_of_getElem? (i := 1177) (by decide +kernel), List.mem_of_getElem? (i := 1178) (by decide +kernel)⟩
def lw_privs_3 : List (MethodName × Nat) := [(⟨"OrchardWall", "firstBody", "(II)I"⟩, 14), (⟨"OrchardWall", "body", "(III)I"⟩, 14), (⟨"OrchardWallModel", "finding", "(I)I"⟩, 41), (⟨"OrchardWallModel", "beginText", "()V"⟩, 41), (⟨"OrchardWallModel", "nextToken", "()V"⟩, 41), (⟨"OrchardWallModel", "isLetter", "(I)Z"⟩, 41), (⟨"OrchardWallModel", "must", "(Z)V"⟩, 41), (⟨"OrchardWallModel", "bad", "(I)V"⟩, 41), (⟨"OrchardWallModel", "number", "(II)I"⟩, 41), (⟨"OrchardWallModel", "mustSign", "(I)V"⟩, 41), (⟨"OrchardWallModel", "readHens", "()V"⟩, 41), (⟨"OrchardWallModel", "begins", "(II)V"⟩, 41), (⟨"OrchardWallModel", "readTree", "()V"⟩, 41), (⟨"OrchardWallModel", "readRaider", "()V"⟩, 41), (⟨"OrchardWallModel", "failed", "()Z"⟩, 41), (⟨"OrchardWallModel", "isRaider", "(I)Z"⟩, 41)]
theorem lw_r3 : ∀ q ∈ lw_privs_3, lw_okq q := List.forall_mem_cons.mpr ⟨lw_p32, List.forall_mem_cons.mpr ⟨lw_p33, List.forall_mem_cons.mpr ⟨lw_p34, List.forall_mem_cons.mpr ⟨lw_p35, List.forall_mem_cons.mpr ⟨lw_p36, List.forall_mem_cons.mpr ⟨lw_p37, List.forall_mem_cons.mpr ⟨lw_p38, List.forall_mem_cons.mpr ⟨lw_p39, List.forall_mem_cons.mpr ⟨lw_p40, List.forall_mem_cons.mpr ⟨lw_p41, List.forall_mem_cons.mpr ⟨lw_p42, List.forall_mem_cons.mpr ⟨lw_p43, List.forall_mem_cons.mpr ⟨lw_p44, List.forall_mem_cons.mpr ⟨lw_p45, List.forall_mem_cons.mpr ⟨lw_p46, List.forall_mem_cons.mpr ⟨lw_p47, fun _ h => absurd h List.not_mem_nil⟩⟩⟩⟩⟩⟩⟩⟩⟩⟩⟩⟩⟩⟩⟩⟩
theorem lw_p48 : lw_okq (⟨"OrchardWallModel", "isTree", "(I)Z"⟩, 41) := ⟨⟨by decide +kernel, by decide +kernel⟩, List.mem_of_getElem? (i := 941) (by decide +kernel), List.mem_of_getElem? (i := 1181) (by decide +kernel), List.mem_of_getElem? (i := 1182) (by decide +kernel)⟩
theorem lw_p49 : lw_okq (⟨"OrchardWallModel", "isWatching", "(I)Z"⟩, 41) := ⟨⟨by decide +kernel, by decide +kernel⟩, List.mem_of_getElem? (i := 941) (by decide +kernel), List.mem_of_getElem? (i := 1186) (by decide +kernel), List.mem_of_getElem? (i := 1187) (by decide +kernel)⟩
theorem lw_p50 : lw_okq (⟨"OrchardWallModel", "of", "(II)I"⟩, 41) := ⟨⟨by decide +kernel, by decide +kernel⟩, List.mem_of_getElem? (i := 941) (by decide +kernel), List.mem_of_getElem? (i := 1190) (by decide +kernel), List.mem_of_getElem? (i := 1191) (by decide +kernel)⟩
theorem lw_p51 : lw_okq (⟨"OrchardWallModel", "keep", "()V"⟩, 41) := ⟨⟨by decide +kernel, by decide +kernel⟩, List.mem_of_getElem? (i := 941) (by decide +kernel), List.mem_of_getElem? (i := 1195) (by decide +kernel), List.mem_of_getElem? (i := 1196) (by decide +kernel)⟩
theorem lw_p52 : lw_okq (⟨"OrchardWallModel", "isThere", "()Z"⟩, 41) := ⟨⟨by decide +kernel, by decide +kernel⟩, List.mem_of_getElem? (i := 941) (by decide +kernel), List.mem_of_getElem? (i := 1203) (by decide +kernel), List.mem_of_getElem? (i := 1204) (by decide +kernel)⟩
theorem lw_p53 : lw_okq (⟨"OrchardWallModel", "withPlans", "()I"⟩, 41) := ⟨⟨by decide +kernel, by decide +kernel⟩, List.mem_of_getElem? (i := 941) (by decide +kernel), List.mem_of_getElem? (i := 1207) (by decide +kernel), List.mem_of_getElem? (i := 1208) (by decide +kernel)⟩
theorem lw_p54 : lw_okq (⟨"OrchardWallModel", "raidNow", "()I"⟩, 41) := ⟨⟨by decide +kernel, by decide +kernel⟩, List.mem_of_getElem? (i := 941) (by decide +kernel), List.mem_of_getElem? (i := 1211) (by decide +kernel), List.mem_of_getElem? (i := 1212) (by decide +kernel)⟩
theorem lw_p55 : lw_okq (⟨"OrchardWallModel", "layPlans", "()V"⟩, 41) := ⟨⟨by decide +kernel, by decide +kernel⟩, List.mem_of_getElem? (i := 941) (by decide +kernel), List.mem_of_getElem? (i := 1215) (by decide +kernel), List.mem_of_getElem? (i := 1216) (by decide +kernel)⟩
theorem lw_p56 : lw_okq (⟨"OrchardWallModel", "layApples", "()V"⟩, 41) := ⟨⟨by decide +kernel, by decide +kernel⟩, List.mem_of_getElem? (i := 941) (by decide +kernel), List.mem_of_getElem? (i := 1219) (by decide +kernel), List.mem_of_getElem? (i := 1220) (by decide +kernel)⟩
theorem lw_p57 : lw_okq (⟨"OrchardWallModel", "everybody", "()I"⟩, 41) := ⟨⟨by decide +kernel, by decide +kernel⟩, List.mem_of_getElem? (i := 941) (by decide +kernel), List.mem_of_getElem? (i := 1223) (by decide +kernel), List.mem_of_getElem? (i := 1224) (by decide +kernel)⟩
theorem lw_p58 : lw_okq (⟨"OrchardWallModel", "raidOf", "(I)I"⟩, 41) := ⟨⟨by decide +kernel, by decide +kernel⟩, List.mem_of_getElem? (i := 941) (by decide +kernel), List.mem_of_getElem? (i := 1227) (by decide +kernel), List.mem_of_getElem? (i := 1228) (by decide +kernel)⟩
theorem lw_p59 : lw_okq (⟨"OrchardWallModel", "kindNow", "(I)I"⟩, 41) := ⟨⟨by decide +kernel, by decide +kernel⟩, List.mem_of_getElem? (i := 941) (by decide +kernel), List.mem_of_getElem? (i := 1231) (by decide +kernel), List.mem_of_getElem? (i := 1232) (by decide +kernel)⟩
theorem lw_p60 : lw_okq (⟨"OrchardWallModel", "isOver", "()Z"⟩, 41) := ⟨⟨by decide +kernel, by decide +kernel⟩, List.mem_of_getElem? (i := 941) (by decide +kernel), List.mem_of_getElem? (i := 1235) (by decide +kernel), List.mem_of_getElem? (i := 1236) (by decide +kernel)⟩
theorem lw_p61 : lw_okq (⟨"OrchardWallModel", "picks", "(I)V"⟩, 41) := ⟨⟨by decide +kernel, by decide +kernel⟩, List.mem_of_getElem? (i := 941) (by decide +kernel), List.mem_of_getElem? (i := 1239) (by decide +kernel), List.mem_of_getElem? (i := 1240) (by decide +kernel)⟩
theorem lw_p62 : lw_okq (⟨"OrchardWallModel", "walks", "(II)V"⟩, 41) := ⟨⟨by decide +kernel, by decide +kernel⟩, List.mem_of_getElem? (i := 941) (by decide +kernel), List.mem_of_getElem? (i := 1243) (by decide +kernel), List.mem_of_getElem? (i := 1244) (by decide +kernel)⟩
theorem lw_p63 : lw_okq (⟨"OrchardWallModel", "paceOf", "(I)I"⟩, 41) := ⟨⟨by decide +kernel, by decide +kernel⟩, List.mem_of_getElem? (i := 941) (by decide +kernel), List.mem_of_getElem? (i := 1247) (by decide +kernel), List.mem_of_getElem? (i := 1248) (by decide +kernel)⟩
def lw_privs_4 : List (MethodName × Nat) := [(⟨"OrchardWallModel", "isTree", "(I)Z"⟩, 41), (⟨"OrchardWallModel", "isWatching", "(I)Z"⟩, 41), (⟨"OrchardWallModel", "of", "(II)I"⟩, 41), (⟨"OrchardWallModel", "keep", "()V"⟩, 41), (⟨"OrchardWallModel", "isThere", "()Z"⟩, 41), (⟨"OrchardWallModel", "withPlans", "()I"⟩, 41), (⟨"OrchardWallModel", "raidNow", "()I"⟩, 41), (⟨"OrchardWallModel", "layPlans", "()V"⟩, 41), (⟨"OrchardWallModel", "layApples", "()V"⟩, 41), (⟨"OrchardWallModel", "everybody", "()I"⟩, 41), (⟨"OrchardWallModel", "raidOf", "(I)I"⟩, 41), (⟨"OrchardWallModel", "kindNow", "(I)I"⟩, 41), (⟨"OrchardWallModel", "isOver", "()Z"⟩, 41), (⟨"OrchardWallModel", "picks", "(I)V"⟩, 41), (⟨"OrchardWallModel", "walks", "(II)V"⟩, 41), (⟨"OrchardWallModel", "paceOf", "(I)I"⟩, 41)]
theorem lw_r4 : ∀ q ∈ lw_privs_4, lw_okq q := List.forall_mem_cons.mpr ⟨lw_p48, List.forall_mem_cons.mpr ⟨lw_p49, List.forall_mem_cons.mpr ⟨lw_p50, List.forall_mem_cons.mpr ⟨lw_p51, List.forall_mem_cons.mpr ⟨lw_p52, List.forall_mem_cons.mpr ⟨lw_p53, List.forall_mem_cons.mpr ⟨lw_p54, List.forall_mem_cons.mpr ⟨lw_p55, List.forall_mem_cons.mpr ⟨lw_p56, List.forall_mem_cons.mpr ⟨lw_p57, List.forall_mem_cons.mpr ⟨lw_p58, List.forall_mem_cons.mpr ⟨lw_p59, List.forall_mem_cons.mpr ⟨lw_p60, List.forall_mem_cons.mpr ⟨lw_p61, List.forall_mem_cons.mpr ⟨lw_p62, List.forall_mem_cons.mpr ⟨lw_p63, fun _ h => absurd h List.not_mem_nil⟩⟩⟩⟩⟩⟩⟩⟩⟩⟩⟩⟩⟩⟩⟩⟩
theorem lw_p64 : lw_okq (⟨"OrchardWallModel", "treeCell", "(I)I"⟩, 41) := ⟨⟨by decide +kernel, by decide +kernel⟩, List.mem_of_getElem? (i := 941) (by decide +kernel), List.mem_of_getElem? (i := 1251) (by decide +kernel), List.mem_of_getElem? (i := 1252) (by decide +kernel)⟩
theorem lw_p65 : lw_okq (⟨"OrchardWallModel", "cackle", "(I)V"⟩, 41) := ⟨⟨by decide +kernel, by decide +kernel⟩, List.mem_of_getElem? (i := 941) (by decide +kernel), List.mem_of_getElem? (i := 1258) (by decide +kernel), List.mem_of_getElem? (i := 1259) (by decide +kernel)⟩
theorem lw_p66 : lw_okq (⟨"OrchardWallModel", "hears", "(I)V"⟩, 41) := ⟨⟨by decide +kernel, by decide +kernel⟩, List.mem_of_getElem? (i := 941) (by decide +kernel), List.mem_of_getElem? (i := 1265) (by decide +kernel), List.mem_of_getElem? (i := 1266) (by decide +kernel)⟩
theorem lw_p67 : lw_okq (⟨"OrchardWallModel", "gotOf", "(I)I"⟩, 41) := ⟨⟨by decide +kernel, by decide +kernel⟩, List.mem_of_getElem? (i := 941) (by decide +kernel), List.mem_of_getElem? (i := 1269) (by decide +kernel), List.mem_of_getElem? (i := 1270) (by decide +kernel)⟩
theorem lw_p68 : lw_okq (⟨"OrchardWallModel", "linesOf", "(IZ)I"⟩, 41) := ⟨⟨by decide +kernel, by decide +kernel⟩, List.mem_of_getElem? (i := 941) (by decide +kernel), List.mem_of_getElem? (i := 1295) (by decide +kernel), List.mem_of_getElem? (i := 1296) (by decide +kernel)⟩
theorem lw_p69 : lw_okq (⟨"OrchardWallModel", "aloneOf", "(IIII)I"⟩, 41) := ⟨⟨by decide +kernel, by decide +kernel⟩, List.mem_of_getElem? (i := 941) (by decide +kernel), List.mem_of_getElem? (i := 1335) (by decide +kernel), List.mem_of_getElem? (i := 1336) (by decide +kernel)⟩
theorem lw_p70 : lw_okq (⟨"OrchardWallModel", "noDays", "(II)I"⟩, 41) := ⟨⟨by decide +kernel, by decide +kernel⟩, List.mem_of_getElem? (i := 941) (by decide +kernel), List.mem_of_getElem? (i := 1351) (by decide +kernel), List.mem_of_getElem? (i := 1352) (by decide +kernel)⟩
theorem lw_p71 : lw_okq (⟨"OrchardWallModel", "bestDays", "(II)I"⟩, 41) := ⟨⟨by decide +kernel, by decide +kernel⟩, List.mem_of_getElem? (i := 941) (by decide +kernel), List.mem_of_getElem? (i := 1356) (by decide +kernel), List.mem_of_getElem? (i := 1357) (by decide +kernel)⟩
theorem lw_p72 : lw_okq (⟨"OrchardWallModel", "layValue", "(III)V"⟩, 41) := ⟨⟨by decide +kernel, by decide +kernel⟩, List.mem_of_getElem? (i := 941) (by decide +kernel), List.mem_of_getElem? (i := 1360) (by decide +kernel), List.mem_of_getElem? (i := 1361) (by decide +kernel)⟩
theorem lw_p73 : lw_okq (⟨"OrchardWallModel", "partsOf", "(IIIJ)J"⟩, 41) := ⟨⟨by decide +kernel, by decide +kernel⟩, List.mem_of_getElem? (i := 941) (by decide +kernel), List.mem_of_getElem? (i := 1364) (by decide +kernel), List.mem_of_getElem? (i := 1365) (by decide +kernel)⟩
theorem lw_p74 : lw_okq (⟨"OrchardWallModel", "sizeOf", "(I)I"⟩, 41) := ⟨⟨by decide +kernel, by decide +kernel⟩, List.mem_of_getElem? (i := 941) (by decide +kernel), List.mem_of_getElem? (i := 1410) (by decide +kernel), List.mem_of_getElem? (i := 1411) (by decide +kernel)⟩
theorem lw_p75 : lw_okq (⟨"OrchardWallModel", "watchSize", "(I)I"⟩, 41) := ⟨⟨by decide +kernel, by decide +kernel⟩, List.mem_of_getElem? (i := 941) (by decide +kernel), List.mem_of_getElem? (i := 1414) (by decide +kernel), List.mem_of_getElem? (i := 1415) (by decide +kernel)⟩
theorem lw_p76 : lw_okq (⟨"OrchardWallModel", "began", "(I)V"⟩, 41) := ⟨⟨by decide +kernel, by decide +kernel⟩, List.mem_of_getElem? (i := 941) (by decide +kernel), List.mem_of_getElem? (i := 1418) (by decide +kernel), List.mem_of_getElem? (i := 1419) (by decide +kernel)⟩
theorem lw_p77 : lw_okq (⟨"OrchardWallModel", "plainSize", "(I)I"⟩, 41) := ⟨⟨by decide +kernel, by decide +kernel⟩, List.mem_of_getElem? (i := 941) (by decide +kernel), List.mem_of_getElem? (i := 1422) (by decide +kernel), List.mem_of_getElem? (i := 1423) (by decide +kernel)⟩
theorem lw_p78 : lw_okq (⟨"OrchardWallModel", "markOf", "(I)I"⟩, 41) := ⟨⟨by decide +kernel, by decide +kernel⟩, List.mem_of_getElem? (i := 941) (by decide +kernel), List.mem_of_getElem? (i := 1426) (by decide +kernel), List.mem_of_getElem? (i := 1427) (by decide +kernel)⟩
def lw_privs_5 : List (MethodName × Nat) := [(⟨"OrchardWallModel", "treeCell", "(I)I"⟩, 41), (⟨"OrchardWallModel", "cackle", "(I)V"⟩, 41), (⟨"OrchardWallModel", "hears", "(I)V"⟩, 41), (⟨"OrchardWallModel", "gotOf", "(I)I"⟩, 41), (⟨"OrchardWallModel", "linesOf", "(IZ)I"⟩, 41), (⟨"OrchardWallModel", "aloneOf", "(IIII)I"⟩, 41), (⟨"OrchardWallModel", "noDays", "(II)I"⟩, 41), (⟨"OrchardWallModel", "bestDays", "(II)I"⟩, 41), (⟨"OrchardWallModel", "layValue", "(III)V"⟩, 41), (⟨"OrchardWallModel", "partsOf", "(IIIJ)J"⟩, 41), (⟨"OrchardWallModel", "sizeOf", "(I)I"⟩, 41), (⟨"OrchardWallModel", "watchSize", "(I)I"⟩, 41), (⟨"OrchardWallModel", "began", "(I)V"⟩, 41), (⟨"OrchardWallModel", "plainSize", "(I)I"⟩, 41), (⟨"OrchardWallModel", "markOf", "(I)I"⟩, 41)]
theorem lw_r5 : ∀ q ∈ lw_privs_5, lw_okq q := List.forall_mem_cons.mpr ⟨lw_p64, List.forall_mem_cons.mpr ⟨lw_p65, List.forall_mem_cons.mpr ⟨lw_p66, List.forall_mem_cons.mpr ⟨lw_p67, List.forall_mem_cons.mpr ⟨lw_p68, List.forall_mem_cons.mpr ⟨lw_p69, List.forall_mem_cons.mpr ⟨lw_p70, List.forall_mem_cons.mpr ⟨lw_p71, List.forall_mem_cons.mpr ⟨lw_p72, List.forall_mem_cons.mpr ⟨lw_p73, List.forall_mem_cons.mpr ⟨lw_p74, List.forall_mem_cons.mpr ⟨lw_p75, List.forall_mem_cons.mpr ⟨lw_p76, List.forall_mem_cons.mpr ⟨lw_p77, List.forall_mem_cons.mpr ⟨lw_p78, fun _ h => absurd h List.not_mem_nil⟩⟩⟩⟩⟩⟩⟩⟩⟩⟩⟩⟩⟩⟩⟩
def lw_privs : List (MethodName × Nat) := lw_privs_1 ++ (lw_privs_2 ++ (lw_privs_3 ++ (lw_privs_4 ++ (lw_privs_5))))
def lw_tbl : List Cond := k2_sels lw_privs ++ tables_1
theorem lw_privs_ok : ∀ q ∈ lw_privs, lw_okq q := by
  show ∀ q ∈ lw_privs_1 ++ (lw_privs_2 ++ (lw_privs_3 ++ (lw_privs_4 ++ (lw_privs_5)))), lw_okq q
  exact List.forall_mem_append.mpr ⟨lw_r1, List.forall_mem_append.mpr ⟨lw_r2, List.forall_mem_append.mpr ⟨lw_r3, List.forall_mem_append.mpr ⟨lw_r4, lw_r5⟩⟩⟩⟩
end
section
def RX0 : String := "OrchardWall$Acts"
def TX0 : u_T := fun k => match k with
  | 0 => ("OrchardWall$Acts", "before", "[[I", true)
  | 1 => ("OrchardWall$Acts", "next", "I", false)
  | _ => ("OrchardWall$Acts", "kept", "I", false)
def tyX0 : Nat → FieldType := fun k => match k with
  | 0 => .array (.array .int)
  | 1 => .int
  | _ => .int
abbrev wsX00 : List Cond := u_ws RX0 TX0 3
theorem nmX0 : ∀ a, a < 3 → ∀ b, b < 3 → a ≠ b → (TX0 a).2.1 ≠ (TX0 b).2.1 := by decide +kernel
theorem tyX0_ok : ∀ k, k < 3 → parseFieldDescriptor (TX0 k).2.2.1 = some (tyX0 k) := by decide +kernel
abbrev cX0_init : ByteArray := prog_2_method_1_code
def yX0_init : MethodName := ⟨RX0, "<init>", "()V"⟩
abbrev cX0_keep : ByteArray := prog_2_method_2_code
def yX0_keep : MethodName := ⟨RX0, "keep", "(LOrchardWall$Orchard;)V"⟩
abbrev cX0_takeBack : ByteArray := prog_2_method_3_code
def yX0_takeBack : MethodName := ⟨RX0, "takeBack", "(LOrchardWall$Orchard;)Z"⟩
abbrev cX0_forget : ByteArray := prog_2_method_4_code
def yX0_forget : MethodName := ⟨RX0, "forget", "()V"⟩
def RX1 : String := "OrchardWall$Book"
def TX1 : u_T := fun k => match k with
  | 0 => ("OrchardWall$Book", "hours", "[I", true)
  | 1 => ("OrchardWall$Book", "slept", "[I", true)
  | _ => ("OrchardWall$Book", "lines", "I", false)
def tyX1 : Nat → FieldType := fun k => match k with
  | 0 => .array .int
  | 1 => .array .int
  | _ => .int
abbrev wsX10 : List Cond := u_ws RX1 TX1 3
theorem nmX1 : ∀ a, a < 3 → ∀ b, b < 3 → a ≠ b → (TX1 a).2.1 ≠ (TX1 b).2.1 := by decide +kernel
theorem tyX1_ok : ∀ k, k < 3 → parseFieldDescriptor (TX1 k).2.2.1 = some (tyX1 k) := by decide +kernel
abbrev cX1_init : ByteArray := prog_3_method_1_code
def yX1_init : MethodName := ⟨RX1, "<init>", "()V"⟩
abbrev cX1_isFull : ByteArray := prog_3_method_2_code
def yX1_isFull : MethodName := ⟨RX1, "isFull", "()Z"⟩
abbrev cX1_append : ByteArray := prog_3_method_3_code
def yX1_append : MethodName := ⟨RX1, "append", "(II)I"⟩
abbrev cX1_empty : ByteArray := prog_3_method_4_code
def yX1_empty : MethodName := ⟨RX1, "empty", "()I"⟩
abbrev cX1_linesOf : ByteArray := prog_3_method_5_code
def yX1_linesOf : MethodName := ⟨RX1, "linesOf", "(I)I"⟩
abbrev cX1_sleptIn : ByteArray := prog_3_method_6_code
def yX1_sleptIn : MethodName := ⟨RX1, "sleptIn", "(I)I"⟩
abbrev cX1_quietestHour : ByteArray := prog_3_method_7_code
def yX1_quietestHour : MethodName := ⟨RX1, "quietestHour", "()I"⟩
def RX2 : String := "OrchardWall$Days"
def TX2 : u_T := fun k => match k with
  | 0 => ("OrchardWall$Days", "stakes", "[I", true)
  | 1 => ("OrchardWall$Days", "bestSet", "I", false)
  | 2 => ("OrchardWall$Days", "bestAbove", "J", false)
  | _ => ("OrchardWall$Days", "bestBelow", "J", false)
def tyX2 : Nat → FieldType := fun k => match k with
  | 0 => .array .int
  | 1 => .int
  | 2 => .long
  | _ => .long
abbrev wsX20 : List Cond := u_ws RX2 TX2 4
theorem nmX2 : ∀ a, a < 4 → ∀ b, b < 4 → a ≠ b → (TX2 a).2.1 ≠ (TX2 b).2.1 := by decide +kernel
theorem tyX2_ok : ∀ k, k < 4 → parseFieldDescriptor (TX2 k).2.2.1 = some (tyX2 k) := by decide +kernel
abbrev cX2_init : ByteArray := prog_4_method_1_code
def yX2_init : MethodName := ⟨RX2, "<init>", "()V"⟩
abbrev cX2_solve : ByteArray := prog_4_method_2_code
def yX2_solve : MethodName := ⟨RX2, "solve", "(I)V"⟩
abbrev cX2_odds : ByteArray := prog_4_method_3_code
def yX2_odds : MethodName := ⟨RX2, "odds", "(IZ)J"⟩
abbrev cX2_product : ByteArray := prog_4_method_4_code
def yX2_product : MethodName := ⟨RX2, "product", "(I)J"⟩
abbrev cX2_sumOfParts : ByteArray := prog_4_method_5_code
def yX2_sumOfParts : MethodName := ⟨RX2, "sumOfParts", "(IJ)J"⟩
abbrev cX2_part : ByteArray := prog_4_method_6_code
def yX2_part : MethodName := ⟨RX2, "part", "(JI)J"⟩
def RX3 : String := "OrchardWall$Orchard"
def TX3 : u_T := fun k => match k with
  | 0 => ("OrchardWall$Orchard", "stands", "Z", false)
  | 1 => ("OrchardWall$Orchard", "house", "I", false)
  | 2 => ("OrchardWall$Orchard", "entry", "I", false)
  | 3 => ("OrchardWall$Orchard", "ears", "I", false)
  | 4 => ("OrchardWall$Orchard", "delay", "I", false)
  | 5 => ("OrchardWall$Orchard", "dog", "I", false)
  | 6 => ("OrchardWall$Orchard", "hens", "I", false)
  | 7 => ("OrchardWall$Orchard", "trees", "I", false)
  | 8 => ("OrchardWall$Orchard", "raiders", "I", false)
  | 9 => ("OrchardWall$Orchard", "loud", "[I", true)
  | 10 => ("OrchardWall$Orchard", "treeCell", "[I", true)
  | 11 => ("OrchardWall$Orchard", "treeWorth", "[I", true)
  | 12 => ("OrchardWall$Orchard", "kinds", "[I", true)
  | 13 => ("OrchardWall$Orchard", "full", "[I", true)
  | _ => ("OrchardWall$Orchard", "now", "[I", true)
def tyX3 : Nat → FieldType := fun k => match k with
  | 0 => .boolean
  | 1 => .int
  | 2 => .int
  | 3 => .int
  | 4 => .int
  | 5 => .int
  | 6 => .int
  | 7 => .int
  | 8 => .int
  | 9 => .array .int
  | 10 => .array .int
  | 11 => .array .int
  | 12 => .array .int
  | 13 => .array .int
  | _ => .array .int
abbrev wsX30 : List Cond := u_ws RX3 TX3 15
theorem nmX3 : ∀ a, a < 15 → ∀ b, b < 15 → a ≠ b → (TX3 a).2.1 ≠ (TX3 b).2.1 := by decide +kernel
theorem tyX3_ok : ∀ k, k < 15 → parseFieldDescriptor (TX3 k).2.2.1 = some (tyX3 k) := by decide +kernel
abbrev cX3_init : ByteArray := prog_5_method_1_code
def yX3_init : MethodName := ⟨RX3, "<init>", "()V"⟩
abbrev cX3_clear : ByteArray := prog_5_method_2_code
def yX3_clear : MethodName := ⟨RX3, "clear", "()V"⟩
abbrev cX3_become : ByteArray := prog_5_method_3_code
def yX3_become : MethodName := ⟨RX3, "become", "(LOrchardWall$Orchard;)V"⟩
abbrev cX3_hasRaider : ByteArray := prog_5_method_4_code
def yX3_hasRaider : MethodName := ⟨RX3, "hasRaider", "(I)Z"⟩
abbrev cX3_hasTree : ByteArray := prog_5_method_5_code
def yX3_hasTree : MethodName := ⟨RX3, "hasTree", "(I)Z"⟩
abbrev cX3_canPlan : ByteArray := prog_5_method_6_code
def yX3_canPlan : MethodName := ⟨RX3, "canPlan", "(I)Z"⟩
abbrev cX3_hasPlan : ByteArray := prog_5_method_7_code
def yX3_hasPlan : MethodName := ⟨RX3, "hasPlan", "(I)Z"⟩
abbrev cX3_isPlanned : ByteArray := prog_5_method_8_code
def yX3_isPlanned : MethodName := ⟨RX3, "isPlanned", "()Z"⟩
abbrev cX3_allPlan : ByteArray := prog_5_method_9_code
def yX3_allPlan : MethodName := ⟨RX3, "allPlan", "(I)Z"⟩
abbrev cX3_addHens : ByteArray := prog_5_method_10_code
def yX3_addHens : MethodName := ⟨RX3, "addHens", "(II)V"⟩
def RX4 : String := "OrchardWall$Raid"
def TX4 : u_T := fun k => match k with
  | 0 => ("OrchardWall$Raid", "orchard", "LOrchardWall$Orchard;", true)
  | 1 => ("OrchardWall$Raid", "delay", "I", false)
  | 2 => ("OrchardWall$Raid", "noise", "I", false)
  | 3 => ("OrchardWall$Raid", "second", "I", false)
  | 4 => ("OrchardWall$Raid", "door", "I", false)
  | 5 => ("OrchardWall$Raid", "last", "I", false)
  | 6 => ("OrchardWall$Raid", "inside", "I", false)
  | 7 => ("OrchardWall$Raid", "left", "[I", true)
  | 8 => ("OrchardWall$Raid", "goal", "[I", true)
  | 9 => ("OrchardWall$Raid", "planned", "[I", true)
  | 10 => ("OrchardWall$Raid", "how", "[I", true)
  | 11 => ("OrchardWall$Raid", "doing", "[I", true)
  | 12 => ("OrchardWall$Raid", "seconds", "[I", true)
  | 13 => ("OrchardWall$Raid", "steps", "[I", true)
  | 14 => ("OrchardWall$Raid", "load", "[I", true)
  | 15 => ("OrchardWall$Raid", "had", "[I", true)
  | _ => ("OrchardWall$Raid", "outAt", "[I", true)
def tyX4 : Nat → FieldType := fun k => match k with
  | 0 => .object "OrchardWall$Orchard"
  | 1 => .int
  | 2 => .int
  | 3 => .int
  | 4 => .int
  | 5 => .int
  | 6 => .int
  | 7 => .array .int
  | 8 => .array .int
  | 9 => .array .int
  | 10 => .array .int
  | 11 => .array .int
  | 12 => .array .int
  | 13 => .array .int
  | 14 => .array .int
  | 15 => .array .int
  | _ => .array .int
abbrev wsX40 : List Cond := u_ws RX4 TX4 17
theorem nmX4 : ∀ a, a < 17 → ∀ b, b < 17 → a ≠ b → (TX4 a).2.1 ≠ (TX4 b).2.1 := by decide +kernel
theorem tyX4_ok : ∀ k, k < 17 → parseFieldDescriptor (TX4 k).2.2.1 = some (tyX4 k) := by decide +kernel
abbrev cX4_init : ByteArray := prog_6_method_1_code
def yX4_init : MethodName := ⟨RX4, "<init>", "(LOrchardWall$Orchard;)V"⟩
abbrev cX4_gather : ByteArray := prog_6_method_2_code
def yX4_gather : MethodName := ⟨RX4, "gather", "(I)V"⟩
abbrev cX4_tell : ByteArray := prog_6_method_3_code
def yX4_tell : MethodName := ⟨RX4, "tell", "(IIII)V"⟩
abbrev cX4_run : ByteArray := prog_6_method_4_code
def yX4_run : MethodName := ⟨RX4, "run", "()V"⟩
abbrev cX4_isIn : ByteArray := prog_6_method_5_code
def yX4_isIn : MethodName := ⟨RX4, "isIn", "(I)Z"⟩
abbrev cX4_move : ByteArray := prog_6_method_6_code
def yX4_move : MethodName := ⟨RX4, "move", "(I)V"⟩
abbrev cX4_pace : ByteArray := prog_6_method_7_code
def yX4_pace : MethodName := ⟨RX4, "pace", "(I)I"⟩
abbrev cX4_step : ByteArray := prog_6_method_8_code
def yX4_step : MethodName := ⟨RX4, "step", "(I)V"⟩
abbrev cX4_cellOnWay : ByteArray := prog_6_method_9_code
def yX4_cellOnWay : MethodName := ⟨RX4, "cellOnWay", "(III)I"⟩
abbrev cX4_pick : ByteArray := prog_6_method_10_code
def yX4_pick : MethodName := ⟨RX4, "pick", "(I)V"⟩
abbrev cX4_leave : ByteArray := prog_6_method_11_code
def yX4_leave : MethodName := ⟨RX4, "leave", "(I)V"⟩
abbrev cX4_endSecond : ByteArray := prog_6_method_12_code
def yX4_endSecond : MethodName := ⟨RX4, "endSecond", "()V"⟩
abbrev cX4_callBack : ByteArray := prog_6_method_13_code
def yX4_callBack : MethodName := ⟨RX4, "callBack", "()V"⟩
abbrev cX4_catchAll : ByteArray := prog_6_method_14_code
def yX4_catchAll : MethodName := ⟨RX4, "catchAll", "()V"⟩
abbrev cX4_isOut : ByteArray := prog_6_method_15_code
def yX4_isOut : MethodName := ⟨RX4, "isOut", "(I)Z"⟩
abbrev cX4_applesGot : ByteArray := prog_6_method_16_code
def yX4_applesGot : MethodName := ⟨RX4, "applesGot", "(I)I"⟩
abbrev cX4_gotByAll : ByteArray := prog_6_method_17_code
def yX4_gotByAll : MethodName := ⟨RX4, "gotByAll", "()I"⟩
abbrev cX4_caughtBits : ByteArray := prog_6_method_18_code
def yX4_caughtBits : MethodName := ⟨RX4, "caughtBits", "()I"⟩
abbrev cX4_leaveBehind : ByteArray := prog_6_method_19_code
def yX4_leaveBehind : MethodName := ⟨RX4, "leaveBehind", "()V"⟩
def RX5 : String := "OrchardWall$Reader"
def TX5 : u_T := fun k => match k with
  | 0 => ("OrchardWall$Reader", "tape", "[I", true)
  | 1 => ("OrchardWall$Reader", "length", "I", false)
  | 2 => ("OrchardWall$Reader", "fault", "I", false)
  | 3 => ("OrchardWall$Reader", "token", "I", false)
  | 4 => ("OrchardWall$Reader", "number", "I", false)
  | 5 => ("OrchardWall$Reader", "place", "I", false)
  | _ => ("OrchardWall$Reader", "behind", "I", false)
def tyX5 : Nat → FieldType := fun k => match k with
  | 0 => .array .int
  | 1 => .int
  | 2 => .int
  | 3 => .int
  | 4 => .int
  | 5 => .int
  | _ => .int
abbrev wsX50 : List Cond := u_ws RX5 TX5 7
theorem nmX5 : ∀ a, a < 7 → ∀ b, b < 7 → a ≠ b → (TX5 a).2.1 ≠ (TX5 b).2.1 := by decide +kernel
theorem tyX5_ok : ∀ k, k < 7 → parseFieldDescriptor (TX5 k).2.2.1 = some (tyX5 k) := by decide +kernel
abbrev cX5_init : ByteArray := prog_7_method_1_code
def yX5_init : MethodName := ⟨RX5, "<init>", "()V"⟩
abbrev cX5_isFull : ByteArray := prog_7_method_2_code
def yX5_isFull : MethodName := ⟨RX5, "isFull", "()Z"⟩
abbrev cX5_append : ByteArray := prog_7_method_3_code
def yX5_append : MethodName := ⟨RX5, "append", "(I)I"⟩
abbrev cX5_read : ByteArray := prog_7_method_4_code
def yX5_read : MethodName := ⟨RX5, "read", "(LOrchardWall$Orchard;)I"⟩
abbrev cX5_readLaw : ByteArray := prog_7_method_5_code
def yX5_readLaw : MethodName := ⟨RX5, "readLaw", "(LOrchardWall$Orchard;)Z"⟩
abbrev cX5_readHens : ByteArray := prog_7_method_6_code
def yX5_readHens : MethodName := ⟨RX5, "readHens", "(LOrchardWall$Orchard;)Z"⟩
abbrev cX5_readTrees : ByteArray := prog_7_method_7_code
def yX5_readTrees : MethodName := ⟨RX5, "readTrees", "(LOrchardWall$Orchard;)Z"⟩
abbrev cX5_readRaiders : ByteArray := prog_7_method_8_code
def yX5_readRaiders : MethodName := ⟨RX5, "readRaiders", "(LOrchardWall$Orchard;)Z"⟩
abbrev cX5_isAtEnd : ByteArray := prog_7_method_9_code
def yX5_isAtEnd : MethodName := ⟨RX5, "isAtEnd", "()Z"⟩
abbrev cX5_fail : ByteArray := prog_7_method_10_code
def yX5_fail : MethodName := ⟨RX5, "fail", "(I)Z"⟩
abbrev cX5_take : ByteArray := prog_7_method_11_code
def yX5_take : MethodName := ⟨RX5, "take", "(I)Z"⟩
abbrev cX5_takeField : ByteArray := prog_7_method_12_code
def yX5_takeField : MethodName := ⟨RX5, "takeField", "(IIII)I"⟩
abbrev cX5_advance : ByteArray := prog_7_method_13_code
def yX5_advance : MethodName := ⟨RX5, "advance", "()V"⟩
abbrev cX5_advanceOverFigures : ByteArray := prog_7_method_14_code
def yX5_advanceOverFigures : MethodName := ⟨RX5, "advanceOverFigures", "()V"⟩
abbrev cX5_isFigure : ByteArray := prog_7_method_15_code
def yX5_isFigure : MethodName := ⟨RX5, "isFigure", "(I)Z"⟩
def RX6 : String := "OrchardWall$Rows"
def TX6 : u_T := fun k => match k with
  | 0 => ("OrchardWall$Rows", "lanes", "[I", true)
  | 1 => ("OrchardWall$Rows", "sizes", "[I", true)
  | _ => ("OrchardWall$Rows", "items", "[[I", true)
def tyX6 : Nat → FieldType := fun k => match k with
  | 0 => .array .int
  | 1 => .array .int
  | _ => .array (.array .int)
abbrev wsX60 : List Cond := u_ws RX6 TX6 3
theorem nmX6 : ∀ a, a < 3 → ∀ b, b < 3 → a ≠ b → (TX6 a).2.1 ≠ (TX6 b).2.1 := by decide +kernel
theorem tyX6_ok : ∀ k, k < 3 → parseFieldDescriptor (TX6 k).2.2.1 = some (tyX6 k) := by decide +kernel
abbrev cX6_init : ByteArray := prog_8_method_1_code
def yX6_init : MethodName := ⟨RX6, "<init>", "()V"⟩
abbrev cX6_isRow : ByteArray := prog_8_method_2_code
def yX6_isRow : MethodName := ⟨RX6, "isRow", "(I)Z"⟩
abbrev cX6_isMissing : ByteArray := prog_8_method_3_code
def yX6_isMissing : MethodName := ⟨RX6, "isMissing", "(I)Z"⟩
abbrev cX6_make : ByteArray := prog_8_method_4_code
def yX6_make : MethodName := ⟨RX6, "make", "(III)V"⟩
abbrev cX6_lose : ByteArray := prog_8_method_5_code
def yX6_lose : MethodName := ⟨RX6, "lose", "(I)I"⟩
abbrev cX6_troubleWith : ByteArray := prog_8_method_6_code
def yX6_troubleWith : MethodName := ⟨RX6, "troubleWith", "(III)I"⟩
abbrev cX6_troubleBetween : ByteArray := prog_8_method_7_code
def yX6_troubleBetween : MethodName := ⟨RX6, "troubleBetween", "(IIIII)I"⟩
abbrev cX6_move : ByteArray := prog_8_method_8_code
def yX6_move : MethodName := ⟨RX6, "move", "(IIIII)V"⟩
abbrev cX6_put : ByteArray := prog_8_method_9_code
def yX6_put : MethodName := ⟨RX6, "put", "(III)I"⟩
abbrev cX6_item : ByteArray := prog_8_method_10_code
def yX6_item : MethodName := ⟨RX6, "item", "(II)I"⟩
abbrev cX6_sumOf : ByteArray := prog_8_method_11_code
def yX6_sumOf : MethodName := ⟨RX6, "sumOf", "(III)J"⟩
abbrev cX6_present : ByteArray := prog_8_method_12_code
def yX6_present : MethodName := ⟨RX6, "present", "()I"⟩
def RX7 : String := "OrchardWall"
def TX7 : u_T := fun k => match k with
  | 0 => ("OrchardWall", "rows", "LOrchardWall$Rows;", true)
  | 1 => ("OrchardWall", "reader", "LOrchardWall$Reader;", true)
  | 2 => ("OrchardWall", "orchard", "LOrchardWall$Orchard;", true)
  | 3 => ("OrchardWall", "draft", "LOrchardWall$Orchard;", true)
  | 4 => ("OrchardWall", "imageZero", "LOrchardWall$Orchard;", true)
  | 5 => ("OrchardWall", "imageOne", "LOrchardWall$Orchard;", true)
  | 6 => ("OrchardWall", "acts", "LOrchardWall$Acts;", true)
  | 7 => ("OrchardWall", "raid", "LOrchardWall$Raid;", true)
  | 8 => ("OrchardWall", "book", "LOrchardWall$Book;", true)
  | 9 => ("OrchardWall", "days", "LOrchardWall$Days;", true)
  | 10 => ("OrchardWall", "best", "[I", true)
  | 11 => ("OrchardWall", "traced", "[I", true)
  | 12 => ("OrchardWall", "tracedLength", "I", false)
  | _ => ("OrchardWall", "finding", "I", false)
def tyX7 : Nat → FieldType := fun k => match k with
  | 0 => .object "OrchardWall$Rows"
  | 1 => .object "OrchardWall$Reader"
  | 2 => .object "OrchardWall$Orchard"
  | 3 => .object "OrchardWall$Orchard"
  | 4 => .object "OrchardWall$Orchard"
  | 5 => .object "OrchardWall$Orchard"
  | 6 => .object "OrchardWall$Acts"
  | 7 => .object "OrchardWall$Raid"
  | 8 => .object "OrchardWall$Book"
  | 9 => .object "OrchardWall$Days"
  | 10 => .array .int
  | 11 => .array .int
  | 12 => .int
  | _ => .int
abbrev wsX70 : List Cond := u_ws RX7 TX7 14
theorem nmX7 : ∀ a, a < 14 → ∀ b, b < 14 → a ≠ b → (TX7 a).2.1 ≠ (TX7 b).2.1 := by decide +kernel
theorem tyX7_ok : ∀ k, k < 14 → parseFieldDescriptor (TX7 k).2.2.1 = some (tyX7 k) := by decide +kernel
abbrev cX7_init : ByteArray := prog_1_method_1_code
def yX7_init : MethodName := ⟨RX7, "<init>", "()V"⟩
abbrev cX7_row : ByteArray := prog_1_method_2_code
def yX7_row : MethodName := ⟨RX7, "row", "(III)I"⟩
abbrev cX7_set : ByteArray := prog_1_method_3_code
def yX7_set : MethodName := ⟨RX7, "set", "(III)I"⟩
abbrev cX7_copy : ByteArray := prog_1_method_4_code
def yX7_copy : MethodName := ⟨RX7, "copy", "(IIIII)I"⟩
abbrev cX7_drop : ByteArray := prog_1_method_5_code
def yX7_drop : MethodName := ⟨RX7, "drop", "(I)I"⟩
abbrev cX7_feed : ByteArray := prog_1_method_6_code
def yX7_feed : MethodName := ⟨RX7, "feed", "(I)I"⟩
abbrev cX7_orchard : ByteArray := prog_1_method_7_code
def yX7_orchard : MethodName := ⟨RX7, "orchard", "()I"⟩
abbrev cX7_fault : ByteArray := prog_1_method_8_code
def yX7_fault : MethodName := ⟨RX7, "fault", "()I"⟩
abbrev cX7_undo : ByteArray := prog_1_method_9_code
def yX7_undo : MethodName := ⟨RX7, "undo", "()I"⟩
abbrev cX7_plan : ByteArray := prog_1_method_10_code
def yX7_plan : MethodName := ⟨RX7, "plan", "(IIII)I"⟩
abbrev cX7_raid : ByteArray := prog_1_method_11_code
def yX7_raid : MethodName := ⟨RX7, "raid", "()I"⟩
abbrev cX7_grow : ByteArray := prog_1_method_12_code
def yX7_grow : MethodName := ⟨RX7, "grow", "(II)I"⟩
abbrev cX7_write : ByteArray := prog_1_method_13_code
def yX7_write : MethodName := ⟨RX7, "write", "(II)I"⟩
abbrev cX7_tear : ByteArray := prog_1_method_14_code
def yX7_tear : MethodName := ⟨RX7, "tear", "()I"⟩
abbrev cX7_raider : ByteArray := prog_1_method_15_code
def yX7_raider : MethodName := ⟨RX7, "raider", "(II)I"⟩
abbrev cX7_tree : ByteArray := prog_1_method_16_code
def yX7_tree : MethodName := ⟨RX7, "tree", "(II)I"⟩
abbrev cX7_far : ByteArray := prog_1_method_17_code
def yX7_far : MethodName := ⟨RX7, "far", "(II)I"⟩
abbrev cX7_ahead : ByteArray := prog_1_method_18_code
def yX7_ahead : MethodName := ⟨RX7, "ahead", "(I)I"⟩
abbrev cX7_raiderAhead : ByteArray := prog_1_method_19_code
def yX7_raiderAhead : MethodName := ⟨RX7, "raiderAhead", "(II)I"⟩
abbrev cX7_safe : ByteArray := prog_1_method_20_code
def yX7_safe : MethodName := ⟨RX7, "safe", "(III)I"⟩
abbrev cX7_bestAlone : ByteArray := prog_1_method_21_code
def yX7_bestAlone : MethodName := ⟨RX7, "bestAlone", "(II)I"⟩
abbrev cX7_watch : ByteArray := prog_1_method_22_code
def yX7_watch : MethodName := ⟨RX7, "watch", "(I)I"⟩
abbrev cX7_days : ByteArray := prog_1_method_23_code
def yX7_days : MethodName := ⟨RX7, "days", "(III)I"⟩
abbrev cX7_daysValue : ByteArray := prog_1_method_24_code
def yX7_daysValue : MethodName := ⟨RX7, "daysValue", "(IIIII)J"⟩
abbrev cX7_shares : ByteArray := prog_1_method_25_code
def yX7_shares : MethodName := ⟨RX7, "shares", "(II)I"⟩
abbrev cX7_bare : ByteArray := prog_1_method_26_code
def yX7_bare : MethodName := ⟨RX7, "bare", "(I)I"⟩
abbrev cX7_who : ByteArray := prog_1_method_27_code
def yX7_who : MethodName := ⟨RX7, "who", "(III)I"⟩
abbrev cX7_sleep : ByteArray := prog_1_method_28_code
def yX7_sleep : MethodName := ⟨RX7, "sleep", "(II)I"⟩
abbrev cX7_quietest : ByteArray := prog_1_method_29_code
def yX7_quietest : MethodName := ⟨RX7, "quietest", "()I"⟩
abbrev cX7_image : ByteArray := prog_1_method_30_code
def yX7_image : MethodName := ⟨RX7, "image", "(I)I"⟩
abbrev cX7_restore : ByteArray := prog_1_method_31_code
def yX7_restore : MethodName := ⟨RX7, "restore", "(I)I"⟩
abbrev cX7_kind : ByteArray := prog_1_method_32_code
def yX7_kind : MethodName := ⟨RX7, "kind", "(I)I"⟩
abbrev cX7_as : ByteArray := prog_1_method_33_code
def yX7_as : MethodName := ⟨RX7, "as", "(II)I"⟩
abbrev cX7_ask : ByteArray := prog_1_method_34_code
def yX7_ask : MethodName := ⟨RX7, "ask", "(II)I"⟩
abbrev cX7_trace : ByteArray := prog_1_method_35_code
def yX7_trace : MethodName := ⟨RX7, "trace", "(I)I"⟩
abbrev cX7_count : ByteArray := prog_1_method_36_code
def yX7_count : MethodName := ⟨RX7, "count", "(I)I"⟩
abbrev cX7_status : ByteArray := prog_1_method_37_code
def yX7_status : MethodName := ⟨RX7, "status", "()I"⟩
abbrev cX7_found : ByteArray := prog_1_method_38_code
def yX7_found : MethodName := ⟨RX7, "found", "(I)I"⟩
abbrev cX7_well : ByteArray := prog_1_method_39_code
def yX7_well : MethodName := ⟨RX7, "well", "(I)I"⟩
abbrev cX7_isBit : ByteArray := prog_1_method_40_code
def yX7_isBit : MethodName := ⟨RX7, "isBit", "(I)Z"⟩
abbrev cX7_isHour : ByteArray := prog_1_method_41_code
def yX7_isHour : MethodName := ⟨RX7, "isHour", "(I)Z"⟩
abbrev cX7_isCell : ByteArray := prog_1_method_42_code
def yX7_isCell : MethodName := ⟨RX7, "isCell", "(I)Z"⟩
abbrev cX7_distance : ByteArray := prog_1_method_43_code
def yX7_distance : MethodName := ⟨RX7, "distance", "(II)I"⟩
abbrev cX7_commonPart : ByteArray := prog_1_method_44_code
def yX7_commonPart : MethodName := ⟨RX7, "commonPart", "(JJ)J"⟩
abbrev cX7_isPlan : ByteArray := prog_1_method_45_code
def yX7_isPlan : MethodName := ⟨RX7, "isPlan", "(III)Z"⟩
abbrev cX7_raidOf : ByteArray := prog_1_method_46_code
def yX7_raidOf : MethodName := ⟨RX7, "raidOf", "(I)V"⟩
abbrev cX7_raidAlone : ByteArray := prog_1_method_47_code
def yX7_raidAlone : MethodName := ⟨RX7, "raidAlone", "(IIII)V"⟩
abbrev cX7_compareAlone : ByteArray := prog_1_method_48_code
def yX7_compareAlone : MethodName := ⟨RX7, "compareAlone", "(IIII)Z"⟩
abbrev cX7_refusalOfDays : ByteArray := prog_1_method_49_code
def yX7_refusalOfDays : MethodName := ⟨RX7, "refusalOfDays", "(III)I"⟩
abbrev cX7_refusalOfTold : ByteArray := prog_1_method_50_code
def yX7_refusalOfTold : MethodName := ⟨RX7, "refusalOfTold", "(IIIZ)I"⟩
abbrev cX7_isMissingJustSo : ByteArray := prog_1_method_51_code
def yX7_isMissingJustSo : MethodName := ⟨RX7, "isMissingJustSo", "(II)Z"⟩
abbrev cX7_imageAt : ByteArray := prog_1_method_52_code
def yX7_imageAt : MethodName := ⟨RX7, "imageAt", "(I)LOrchardWall$Orchard;"⟩
abbrev cX7_isOfKind : ByteArray := prog_1_method_53_code
def yX7_isOfKind : MethodName := ⟨RX7, "isOfKind", "(II)Z"⟩
abbrev cX7_firstBody : ByteArray := prog_1_method_54_code
def yX7_firstBody : MethodName := ⟨RX7, "firstBody", "(II)I"⟩
abbrev cX7_body : ByteArray := prog_1_method_55_code
def yX7_body : MethodName := ⟨RX7, "body", "(III)I"⟩
def RX8 : String := "OrchardWallModel"
def TX8 : u_T := fun k => match k with
  | 0 => ("OrchardWallModel", "thrown", "I", false)
  | 1 => ("OrchardWallModel", "status", "I", false)
  | 2 => ("OrchardWallModel", "lane", "[I", true)
  | 3 => ("OrchardWallModel", "many", "[I", true)
  | 4 => ("OrchardWallModel", "item", "[I", true)
  | 5 => ("OrchardWallModel", "wall", "[I", true)
  | 6 => ("OrchardWallModel", "fresh", "[I", true)
  | 7 => ("OrchardWallModel", "was", "[I", true)
  | 8 => ("OrchardWallModel", "acts", "I", false)
  | 9 => ("OrchardWallModel", "tape", "[I", true)
  | 10 => ("OrchardWallModel", "taped", "I", false)
  | 11 => ("OrchardWallModel", "cursor", "I", false)
  | 12 => ("OrchardWallModel", "start", "I", false)
  | 13 => ("OrchardWallModel", "token", "I", false)
  | 14 => ("OrchardWallModel", "value", "I", false)
  | 15 => ("OrchardWallModel", "fault", "I", false)
  | 16 => ("OrchardWallModel", "faultAt", "I", false)
  | 17 => ("OrchardWallModel", "latest", "I", false)
  | 18 => ("OrchardWallModel", "toTree", "[I", true)
  | 19 => ("OrchardWallModel", "planned", "[I", true)
  | 20 => ("OrchardWallModel", "how", "[I", true)
  | 21 => ("OrchardWallModel", "apples", "[I", true)
  | 22 => ("OrchardWallModel", "on", "[I", true)
  | 23 => ("OrchardWallModel", "does", "[I", true)
  | 24 => ("OrchardWallModel", "seconds", "[I", true)
  | 25 => ("OrchardWallModel", "load", "[I", true)
  | 26 => ("OrchardWallModel", "flown", "[I", true)
  | 27 => ("OrchardWallModel", "outAt", "[I", true)
  | 28 => ("OrchardWallModel", "noise", "I", false)
  | 29 => ("OrchardWallModel", "door", "I", false)
  | 30 => ("OrchardWallModel", "ended", "I", false)
  | 31 => ("OrchardWallModel", "delay", "I", false)
  | 32 => ("OrchardWallModel", "turned", "I", false)
  | 33 => ("OrchardWallModel", "line", "[I", true)
  | 34 => ("OrchardWallModel", "lines", "I", false)
  | 35 => ("OrchardWallModel", "above", "J", false)
  | 36 => ("OrchardWallModel", "below", "J", false)
  | 37 => ("OrchardWallModel", "isKept", "[Z", true)
  | 38 => ("OrchardWallModel", "kept", "[I", true)
  | 39 => ("OrchardWallModel", "trace", "[I", true)
  | _ => ("OrchardWallModel", "traced", "I", false)
def tyX8 : Nat → FieldType := fun k => match k with
  | 0 => .int
  | 1 => .int
  | 2 => .array .int
  | 3 => .array .int
  | 4 => .array .int
  | 5 => .array .int
  | 6 => .array .int
  | 7 => .array .int
  | 8 => .int
  | 9 => .array .int
  | 10 => .int
  | 11 => .int
  | 12 => .int
  | 13 => .int
  | 14 => .int
  | 15 => .int
  | 16 => .int
  | 17 => .int
  | 18 => .array .int
  | 19 => .array .int
  | 20 => .array .int
  | 21 => .array .int
  | 22 => .array .int
  | 23 => .array .int
  | 24 => .array .int
  | 25 => .array .int
  | 26 => .array .int
  | 27 => .array .int
  | 28 => .int
  | 29 => .int
  | 30 => .int
  | 31 => .int
  | 32 => .int
  | 33 => .array .int
  | 34 => .int
  | 35 => .long
  | 36 => .long
  | 37 => .array .boolean
  | 38 => .array .int
  | 39 => .array .int
  | _ => .int
abbrev wsX80 : List Cond := u_ws RX8 TX8 41
theorem nmX8 : ∀ a, a < 41 → ∀ b, b < 41 → a ≠ b → (TX8 a).2.1 ≠ (TX8 b).2.1 := by decide +kernel
theorem tyX8_ok : ∀ k, k < 41 → parseFieldDescriptor (TX8 k).2.2.1 = some (tyX8 k) := by decide +kernel
abbrev cX8_init : ByteArray := prog_10_method_1_code
def yX8_init : MethodName := ⟨RX8, "<init>", "()V"⟩
abbrev cX8_in : ByteArray := prog_10_method_3_code
def yX8_in : MethodName := ⟨RX8, "in", "(JJJ)Z"⟩
abbrev cX8_finding : ByteArray := prog_10_method_4_code
def yX8_finding : MethodName := ⟨RX8, "finding", "(I)I"⟩
abbrev cX8_isRow : ByteArray := prog_10_method_5_code
def yX8_isRow : MethodName := ⟨RX8, "isRow", "(I)Z"⟩
abbrev cX8_row : ByteArray := prog_10_method_6_code
def yX8_row : MethodName := ⟨RX8, "row", "(III)I"⟩
abbrev cX8_set : ByteArray := prog_10_method_7_code
def yX8_set : MethodName := ⟨RX8, "set", "(III)I"⟩
abbrev cX8_copy : ByteArray := prog_10_method_8_code
def yX8_copy : MethodName := ⟨RX8, "copy", "(IIIII)I"⟩
abbrev cX8_drop : ByteArray := prog_10_method_9_code
def yX8_drop : MethodName := ⟨RX8, "drop", "(I)I"⟩
abbrev cX8_feed : ByteArray := prog_10_method_10_code
def yX8_feed : MethodName := ⟨RX8, "feed", "(I)I"⟩
abbrev cX8_bad : ByteArray := prog_10_method_11_code
def yX8_bad : MethodName := ⟨RX8, "bad", "(I)V"⟩
abbrev cX8_nextToken : ByteArray := prog_10_method_12_code
def yX8_nextToken : MethodName := ⟨RX8, "nextToken", "()V"⟩
abbrev cX8_must : ByteArray := prog_10_method_13_code
def yX8_must : MethodName := ⟨RX8, "must", "(Z)V"⟩
abbrev cX8_isLetter : ByteArray := prog_10_method_14_code
def yX8_isLetter : MethodName := ⟨RX8, "isLetter", "(I)Z"⟩
abbrev cX8_number : ByteArray := prog_10_method_15_code
def yX8_number : MethodName := ⟨RX8, "number", "(II)I"⟩
abbrev cX8_mustSign : ByteArray := prog_10_method_16_code
def yX8_mustSign : MethodName := ⟨RX8, "mustSign", "(I)V"⟩
abbrev cX8_beginText : ByteArray := prog_10_method_17_code
def yX8_beginText : MethodName := ⟨RX8, "beginText", "()V"⟩
abbrev cX8_failed : ByteArray := prog_10_method_18_code
def yX8_failed : MethodName := ⟨RX8, "failed", "()Z"⟩
abbrev cX8_fault : ByteArray := prog_10_method_19_code
def yX8_fault : MethodName := ⟨RX8, "fault", "()I"⟩
abbrev cX8_kindBy : ByteArray := prog_10_method_20_code
def yX8_kindBy : MethodName := ⟨RX8, "kindBy", "(I)I"⟩
abbrev cX8_begins : ByteArray := prog_10_method_21_code
def yX8_begins : MethodName := ⟨RX8, "begins", "(II)V"⟩
abbrev cX8_readHens : ByteArray := prog_10_method_22_code
def yX8_readHens : MethodName := ⟨RX8, "readHens", "()V"⟩
abbrev cX8_readTree : ByteArray := prog_10_method_23_code
def yX8_readTree : MethodName := ⟨RX8, "readTree", "()V"⟩
abbrev cX8_readRaider : ByteArray := prog_10_method_24_code
def yX8_readRaider : MethodName := ⟨RX8, "readRaider", "()V"⟩
abbrev cX8_orchard : ByteArray := prog_10_method_25_code
def yX8_orchard : MethodName := ⟨RX8, "orchard", "()I"⟩
abbrev cX8_isThere : ByteArray := prog_10_method_26_code
def yX8_isThere : MethodName := ⟨RX8, "isThere", "()Z"⟩
abbrev cX8_isRaider : ByteArray := prog_10_method_27_code
def yX8_isRaider : MethodName := ⟨RX8, "isRaider", "(I)Z"⟩
abbrev cX8_isTree : ByteArray := prog_10_method_28_code
def yX8_isTree : MethodName := ⟨RX8, "isTree", "(I)Z"⟩
abbrev cX8_isCell : ByteArray := prog_10_method_29_code
def yX8_isCell : MethodName := ⟨RX8, "isCell", "(I)Z"⟩
abbrev cX8_of : ByteArray := prog_10_method_30_code
def yX8_of : MethodName := ⟨RX8, "of", "(II)I"⟩
abbrev cX8_isWatching : ByteArray := prog_10_method_31_code
def yX8_isWatching : MethodName := ⟨RX8, "isWatching", "(I)Z"⟩
abbrev cX8_farOf : ByteArray := prog_10_method_32_code
def yX8_farOf : MethodName := ⟨RX8, "farOf", "(II)I"⟩
abbrev cX8_cellOn : ByteArray := prog_10_method_33_code
def yX8_cellOn : MethodName := ⟨RX8, "cellOn", "(III)I"⟩
abbrev cX8_layPlans : ByteArray := prog_10_method_34_code
def yX8_layPlans : MethodName := ⟨RX8, "layPlans", "()V"⟩
abbrev cX8_layApples : ByteArray := prog_10_method_35_code
def yX8_layApples : MethodName := ⟨RX8, "layApples", "()V"⟩
abbrev cX8_paceOf : ByteArray := prog_10_method_36_code
def yX8_paceOf : MethodName := ⟨RX8, "paceOf", "(I)I"⟩
abbrev cX8_treeCell : ByteArray := prog_10_method_37_code
def yX8_treeCell : MethodName := ⟨RX8, "treeCell", "(I)I"⟩
abbrev cX8_cackle : ByteArray := prog_10_method_38_code
def yX8_cackle : MethodName := ⟨RX8, "cackle", "(I)V"⟩
abbrev cX8_walks : ByteArray := prog_10_method_39_code
def yX8_walks : MethodName := ⟨RX8, "walks", "(II)V"⟩
abbrev cX8_picks : ByteArray := prog_10_method_40_code
def yX8_picks : MethodName := ⟨RX8, "picks", "(I)V"⟩
abbrev cX8_isOver : ByteArray := prog_10_method_41_code
def yX8_isOver : MethodName := ⟨RX8, "isOver", "()Z"⟩
abbrev cX8_hears : ByteArray := prog_10_method_42_code
def yX8_hears : MethodName := ⟨RX8, "hears", "(I)V"⟩
abbrev cX8_raidOf : ByteArray := prog_10_method_43_code
def yX8_raidOf : MethodName := ⟨RX8, "raidOf", "(I)I"⟩
abbrev cX8_kindNow : ByteArray := prog_10_method_44_code
def yX8_kindNow : MethodName := ⟨RX8, "kindNow", "(I)I"⟩
abbrev cX8_gotOf : ByteArray := prog_10_method_45_code
def yX8_gotOf : MethodName := ⟨RX8, "gotOf", "(I)I"⟩
abbrev cX8_everybody : ByteArray := prog_10_method_46_code
def yX8_everybody : MethodName := ⟨RX8, "everybody", "()I"⟩
abbrev cX8_raidNow : ByteArray := prog_10_method_47_code
def yX8_raidNow : MethodName := ⟨RX8, "raidNow", "()I"⟩
abbrev cX8_withPlans : ByteArray := prog_10_method_48_code
def yX8_withPlans : MethodName := ⟨RX8, "withPlans", "()I"⟩
abbrev cX8_keep : ByteArray := prog_10_method_49_code
def yX8_keep : MethodName := ⟨RX8, "keep", "()V"⟩
abbrev cX8_plan : ByteArray := prog_10_method_50_code
def yX8_plan : MethodName := ⟨RX8, "plan", "(IIII)I"⟩
abbrev cX8_raid : ByteArray := prog_10_method_51_code
def yX8_raid : MethodName := ⟨RX8, "raid", "()I"⟩
abbrev cX8_grow : ByteArray := prog_10_method_52_code
def yX8_grow : MethodName := ⟨RX8, "grow", "(II)I"⟩
abbrev cX8_undo : ByteArray := prog_10_method_53_code
def yX8_undo : MethodName := ⟨RX8, "undo", "()I"⟩
abbrev cX8_write : ByteArray := prog_10_method_54_code
def yX8_write : MethodName := ⟨RX8, "write", "(II)I"⟩
abbrev cX8_tear : ByteArray := prog_10_method_55_code
def yX8_tear : MethodName := ⟨RX8, "tear", "()I"⟩
abbrev cX8_linesOf : ByteArray := prog_10_method_56_code
def yX8_linesOf : MethodName := ⟨RX8, "linesOf", "(IZ)I"⟩
abbrev cX8_common : ByteArray := prog_10_method_57_code
def yX8_common : MethodName := ⟨RX8, "common", "(JJ)J"⟩
abbrev cX8_sleep : ByteArray := prog_10_method_58_code
def yX8_sleep : MethodName := ⟨RX8, "sleep", "(II)I"⟩
abbrev cX8_quietest : ByteArray := prog_10_method_59_code
def yX8_quietest : MethodName := ⟨RX8, "quietest", "()I"⟩
abbrev cX8_raider : ByteArray := prog_10_method_60_code
def yX8_raider : MethodName := ⟨RX8, "raider", "(II)I"⟩
abbrev cX8_tree : ByteArray := prog_10_method_61_code
def yX8_tree : MethodName := ⟨RX8, "tree", "(II)I"⟩
abbrev cX8_far : ByteArray := prog_10_method_62_code
def yX8_far : MethodName := ⟨RX8, "far", "(II)I"⟩
abbrev cX8_ahead : ByteArray := prog_10_method_63_code
def yX8_ahead : MethodName := ⟨RX8, "ahead", "(I)I"⟩
abbrev cX8_raiderAhead : ByteArray := prog_10_method_64_code
def yX8_raiderAhead : MethodName := ⟨RX8, "raiderAhead", "(II)I"⟩
abbrev cX8_aloneOf : ByteArray := prog_10_method_65_code
def yX8_aloneOf : MethodName := ⟨RX8, "aloneOf", "(IIII)I"⟩
abbrev cX8_safe : ByteArray := prog_10_method_66_code
def yX8_safe : MethodName := ⟨RX8, "safe", "(III)I"⟩
abbrev cX8_bestAlone : ByteArray := prog_10_method_67_code
def yX8_bestAlone : MethodName := ⟨RX8, "bestAlone", "(II)I"⟩
abbrev cX8_watch : ByteArray := prog_10_method_68_code
def yX8_watch : MethodName := ⟨RX8, "watch", "(I)I"⟩
abbrev cX8_layValue : ByteArray := prog_10_method_69_code
def yX8_layValue : MethodName := ⟨RX8, "layValue", "(III)V"⟩
abbrev cX8_partsOf : ByteArray := prog_10_method_70_code
def yX8_partsOf : MethodName := ⟨RX8, "partsOf", "(IIIJ)J"⟩
abbrev cX8_bestDays : ByteArray := prog_10_method_71_code
def yX8_bestDays : MethodName := ⟨RX8, "bestDays", "(II)I"⟩
abbrev cX8_noDays : ByteArray := prog_10_method_72_code
def yX8_noDays : MethodName := ⟨RX8, "noDays", "(II)I"⟩
abbrev cX8_days : ByteArray := prog_10_method_73_code
def yX8_days : MethodName := ⟨RX8, "days", "(III)I"⟩
abbrev cX8_daysValue : ByteArray := prog_10_method_74_code
def yX8_daysValue : MethodName := ⟨RX8, "daysValue", "(IIIII)J"⟩
abbrev cX8_shares : ByteArray := prog_10_method_75_code
def yX8_shares : MethodName := ⟨RX8, "shares", "(II)I"⟩
abbrev cX8_bare : ByteArray := prog_10_method_76_code
def yX8_bare : MethodName := ⟨RX8, "bare", "(I)I"⟩
abbrev cX8_who : ByteArray := prog_10_method_77_code
def yX8_who : MethodName := ⟨RX8, "who", "(III)I"⟩
abbrev cX8_image : ByteArray := prog_10_method_78_code
def yX8_image : MethodName := ⟨RX8, "image", "(I)I"⟩
abbrev cX8_restore : ByteArray := prog_10_method_79_code
def yX8_restore : MethodName := ⟨RX8, "restore", "(I)I"⟩
abbrev cX8_isOf : ByteArray := prog_10_method_80_code
def yX8_isOf : MethodName := ⟨RX8, "isOf", "(II)Z"⟩
abbrev cX8_kind : ByteArray := prog_10_method_81_code
def yX8_kind : MethodName := ⟨RX8, "kind", "(I)I"⟩
abbrev cX8_as : ByteArray := prog_10_method_82_code
def yX8_as : MethodName := ⟨RX8, "as", "(II)I"⟩
abbrev cX8_began : ByteArray := prog_10_method_83_code
def yX8_began : MethodName := ⟨RX8, "began", "(I)V"⟩
abbrev cX8_plainSize : ByteArray := prog_10_method_84_code
def yX8_plainSize : MethodName := ⟨RX8, "plainSize", "(I)I"⟩
abbrev cX8_watchSize : ByteArray := prog_10_method_85_code
def yX8_watchSize : MethodName := ⟨RX8, "watchSize", "(I)I"⟩
abbrev cX8_markOf : ByteArray := prog_10_method_86_code
def yX8_markOf : MethodName := ⟨RX8, "markOf", "(I)I"⟩
abbrev cX8_sizeOf : ByteArray := prog_10_method_87_code
def yX8_sizeOf : MethodName := ⟨RX8, "sizeOf", "(I)I"⟩
abbrev cX8_ask : ByteArray := prog_10_method_88_code
def yX8_ask : MethodName := ⟨RX8, "ask", "(II)I"⟩
abbrev cX8_trace : ByteArray := prog_10_method_89_code
def yX8_trace : MethodName := ⟨RX8, "trace", "(I)I"⟩
abbrev cX8_count : ByteArray := prog_10_method_90_code
def yX8_count : MethodName := ⟨RX8, "count", "(I)I"⟩
abbrev cX8_status : ByteArray := prog_10_method_91_code
def yX8_status : MethodName := ⟨RX8, "status", "()I"⟩
def RJx145de : String := "java/io/Serializable"
def RJx9f9b0 : String := "java/lang/CharSequence"
def RJ11 : String := "java/lang/Character"
abbrev cJ11_isValidCodePoint_9a6ad : ByteArray := prog_11_method_11_code
def yJ11_isValidCodePoint_9a6ad : MethodName := ⟨RJ11, "isValidCodePoint", "(I)Z"⟩
abbrev cJ11_highSurrogate_5068e : ByteArray := prog_11_method_28_code
def yJ11_highSurrogate_5068e : MethodName := ⟨RJ11, "highSurrogate", "(I)C"⟩
abbrev cJ11_lowSurrogate_5068e : ByteArray := prog_11_method_29_code
def yJ11_lowSurrogate_5068e : MethodName := ⟨RJ11, "lowSurrogate", "(I)C"⟩
def RJxb160c : String := "java/lang/Comparable"
def RJ6 : String := "java/lang/Integer"
abbrev cJ6_bitCount_0f7a4 : ByteArray := prog_12_method_49_code
def yJ6_bitCount_0f7a4 : MethodName := ⟨RJ6, "bitCount", "(I)I"⟩
abbrev cJ6_signum_0f7a4 : ByteArray := prog_12_method_56_code
def yJ6_signum_0f7a4 : MethodName := ⟨RJ6, "signum", "(I)I"⟩
def RJ9 : String := "java/lang/Math"
abbrev cJ9_abs_0f7a4 : ByteArray := prog_13_method_59_code
def yJ9_abs_0f7a4 : MethodName := ⟨RJ9, "abs", "(I)I"⟩
abbrev cJ9_abs_067f4 : ByteArray := prog_13_method_61_code
def yJ9_abs_067f4 : MethodName := ⟨RJ9, "abs", "(J)J"⟩
abbrev cJ9_max_7cf53 : ByteArray := prog_13_method_65_code
def yJ9_max_7cf53 : MethodName := ⟨RJ9, "max", "(II)I"⟩
abbrev cJ9_min_7cf53 : ByteArray := prog_13_method_69_code
def yJ9_min_7cf53 : MethodName := ⟨RJ9, "min", "(II)I"⟩
def RJ0 : String := "java/lang/String"
abbrev cJ0_length_8abf5 : ByteArray := prog_14_method_54_code
def yJ0_length_8abf5 : MethodName := ⟨RJ0, "length", "()I"⟩
abbrev cJ0_indexOf_0f7a4 : ByteArray := prog_14_method_79_code
def yJ0_indexOf_0f7a4 : MethodName := ⟨RJ0, "indexOf", "(I)I"⟩
abbrev cJ0_indexOf_7cf53 : ByteArray := prog_14_method_80_code
def yJ0_indexOf_7cf53 : MethodName := ⟨RJ0, "indexOf", "(II)I"⟩
abbrev cJ0_coder_7d493 : ByteArray := prog_14_method_152_code
def yJ0_coder_7d493 : MethodName := ⟨RJ0, "coder", "()B"⟩
abbrev cJ0_isLatin1_aae02 : ByteArray := prog_14_method_154_code
def yJ0_isLatin1_aae02 : MethodName := ⟨RJ0, "isLatin1", "()Z"⟩
abbrev cJ0_checkBoundsBeginEnd_23922 : ByteArray := prog_14_method_158_code
def yJ0_checkBoundsBeginEnd_23922 : MethodName := ⟨RJ0, "checkBoundsBeginEnd", "(III)V"⟩
def RJ1 : String := "java/lang/StringLatin1"
abbrev cJ1_canEncode_9a6ad : ByteArray := prog_15_method_4_code
def yJ1_canEncode_9a6ad : MethodName := ⟨RJ1, "canEncode", "(I)Z"⟩
abbrev cJ1_indexOf_4cfef : ByteArray := prog_15_method_22_code
def yJ1_indexOf_4cfef : MethodName := ⟨RJ1, "indexOf", "([BIII)I"⟩
abbrev cJ1_indexOfChar_4cfef : ByteArray := prog_15_method_23_code
def yJ1_indexOfChar_4cfef : MethodName := ⟨RJ1, "indexOfChar", "([BIII)I"⟩
def RJ2 : String := "java/lang/StringUTF16"
abbrev cJ2_getChar_3b067 : ByteArray := prog_16_method_5_code
def yJ2_getChar_3b067 : MethodName := ⟨RJ2, "getChar", "([BI)C"⟩
abbrev cJ2_length_9d52b : ByteArray := prog_16_method_6_code
def yJ2_length_9d52b : MethodName := ⟨RJ2, "length", "([B)I"⟩
abbrev cJ2_indexOf_4cfef : ByteArray := prog_16_method_40_code
def yJ2_indexOf_4cfef : MethodName := ⟨RJ2, "indexOf", "([BIII)I"⟩
abbrev cJ2_indexOfChar_4cfef : ByteArray := prog_16_method_47_code
def yJ2_indexOfChar_4cfef : MethodName := ⟨RJ2, "indexOfChar", "([BIII)I"⟩
abbrev cJ2_indexOfCharUnsafe_4cfef : ByteArray := prog_16_method_48_code
def yJ2_indexOfCharUnsafe_4cfef : MethodName := ⟨RJ2, "indexOfCharUnsafe", "([BIII)I"⟩
abbrev cJ2_indexOfSupplementary_4cfef : ByteArray := prog_16_method_49_code
def yJ2_indexOfSupplementary_4cfef : MethodName := ⟨RJ2, "indexOfSupplementary", "([BIII)I"⟩
abbrev cJ2_checkBoundsBeginEnd_d044e : ByteArray := prog_16_method_93_code
def yJ2_checkBoundsBeginEnd_d044e : MethodName := ⟨RJ2, "checkBoundsBeginEnd", "(II[B)V"⟩
def RJ10 : String := "java/lang/System"
def RJxfd54e : String := "java/lang/constant/Constable"
def RJx3cf43 : String := "java/lang/constant/ConstantDesc"
def RJ7 : String := "java/util/Arrays"
abbrev cJ7_fill_53178 : ByteArray := prog_18_method_103_code
def yJ7_fill_53178 : MethodName := ⟨RJ7, "fill", "([II)V"⟩
def RJ3 : String := "jdk/internal/util/Preconditions"
abbrev cJ3_checkFromToIndex_8c36e : ByteArray := prog_19_method_12_code
def yJ3_checkFromToIndex_8c36e : MethodName := ⟨RJ3, "checkFromToIndex", "(IIILjava/util/function/BiFunction;)I"⟩
def RL : String := "OrchardWallLaw"
abbrev cL_law : ByteArray := code
def yL_law : MethodName := ⟨RL, "law", "([I)Z"⟩
abbrev vwCl : List vw_C := [(RX0, TX0, 3), (RX1, TX1, 3), (RX2, TX2, 4), (RX3, TX3, 15), (RX4, TX4, 17), (RX5, TX5, 7), (RX6, TX6, 3), (RX7, TX7, 14), (RX8, TX8, 41)]
end
section
/-! the words that every contract takes: those of lw_tbl that stay good -/
def TB : List Cond := lw_tbl.filter goodWord
theorem tb_of {w : Cond} (i : Nat) (h : lw_tbl[i]? = some w) (hg : goodWord w = true) : w ∈ TB := List.mem_filter.mpr ⟨List.mem_of_getElem? h, hg⟩
theorem tb_good {w : Cond} (h : w ∈ TB) : (w.onTables && w.keeps) = true ∨ ∃ ty, w = .arrayClass ty := good_of_word (List.mem_filter.mp h).2
theorem tb_gd {c : Cond} (h : c ∈ TB) : GoodIn TB (c :: TB) := fun w hw => (List.mem_cons.mp hw).elim (fun e => by subst e; exact ⟨h, tb_good h⟩) (fun hw => ⟨hw, tb_good hw⟩)
/-! a memory: a cell's number, a place in it: an int; the long fields apart -/
abbrev MM : Type := (Nat → Nat → Int32) × (Nat → Int64)
def mm_r (u : MM) (k i : Nat) : Int32 := u.1 k i
def mm_rl (u : MM) (i : Nat) : Int64 := u.2 i
def mm_w (u : MM) (k i : Nat) (v : Int32) : MM := (fun a b => if a = k ∧ b = i then v else u.1 a b, u.2)
def mm_wl (u : MM) (i : Nat) (v : Int64) : MM := (u.1, fun b => if b = i then v else u.2 b)
def mm_cp (u : MM) (a sp b dp n : Nat) : MM := (fun k i => if k = b then va_cpy (u.1 a) (u.1 b) sp dp n i else u.1 k i, u.2)
def mm_fl (u : MM) (k n : Nat) (v : Int32) : MM := (fun a b => if a = k ∧ b < n then v else u.1 a b, u.2)
/-! the steps of a method, as a function: none where the machine itself would throw, or the fuel of a loop is used up -/
def mo_ld {α : Type} (u : MM) (k n : Nat) (j : Int32) (f : Int32 → Option α) : Option α := if j < 0 ∨ n ≤ j.toNatClampNeg then none else f (mm_r u k j.toNatClampNeg)
def mo_st {α : Type} (u : MM) (k n : Nat) (j v : Int32) (f : MM → Option α) : Option α := if j < 0 ∨ n ≤ j.toNatClampNeg then none else f (mm_w u k j.toNatClampNeg v)
def mo_la {α : Type} (n : Nat) (j : Int32) (f : Nat → Option α) : Option α := if j < 0 ∨ n ≤ j.toNatClampNeg then none else f j.toNatClampNeg
def mo_tb {α : Type} (t : List Int32) (j : Int32) (f : Int32 → Option α) : Option α := if j < 0 ∨ t.length ≤ j.toNatClampNeg then none else f (t.getD j.toNatClampNeg 0)
def mo_pf {α : Type} (u : MM) (k i : Nat) (v : Int32) (f : MM → Option α) : Option α := f (mm_w u k i v)
def mo_pl {α : Type} (u : MM) (i : Nat) (v : Int64) (f : MM → Option α) : Option α := f (mm_wl u i v)
def mo_ci {α : Type} (o : Option (Int32 × MM)) (f : Int32 → MM → Option α) : Option α := match o with
  | none => none
  | some x => f x.1 x.2
def mo_cl {α : Type} (o : Option (Int64 × MM)) (f : Int64 → MM → Option α) : Option α := match o with
  | none => none
  | some x => f x.1 x.2
def mo_cv {α : Type} (o : Option MM) (f : MM → Option α) : Option α := match o with
  | none => none
  | some x => f x
def mo_dv {α : Type} (x y : Int32) (f : Int32 → Option α) : Option α := if y = 0 then none else f (x / y)
def mo_rm {α : Type} (x y : Int32) (f : Int32 → Option α) : Option α := if y = 0 then none else f (x - x / y * y)
def mo_dl {α : Type} (x y : Int64) (f : Int64 → Option α) : Option α := if y = 0 then none else f (x / y)
def mo_rl {α : Type} (x y : Int64) (f : Int64 → Option α) : Option α := if y = 0 then none else f (x - x / y * y)
def mo_cp {α : Type} (u : MM) (a na b nb : Nat) (sp dp n : Int32) (f : MM → Option α) : Option α := if sp < 0 ∨ dp < 0 ∨ n < 0 ∨ na < sp.toNatClampNeg + n.toNatClampNeg ∨ nb < dp.toNatClampNeg + n.toNatClampNeg then none else f (mm_cp u a sp.toNatClampNeg b dp.toNatClampNeg n.toNatClampNeg)
def mo_zr (v : Int32) (u : MM) : Option (Int32 × MM) := if v = 0 ∨ v = 1 then some (v, u) else none
def mo_fx {β : Type} (bot : β) (F : β → β) : Nat → β
  | 0 => bot
  | n + 1 => F (mo_fx bot F n)
def mo_abs (x : Int32) : Int32 := if 0 ≤ x then x else 0 - x
def mo_min (x y : Int32) : Int32 := if y < x then y else x
def mo_max (x y : Int32) : Int32 := if x < y then y else x
def mo_absl (x : Int64) : Int64 := if 0 < x then x else -x
/-! a world: the tables' numbers, array classes, which cells may change, the cells, what stays -/
abbrev VV : Type := va_G × List (ClassId × FieldType) × (Nat → Prop) × (MM → va_W) × (State → Heap → Prop)
def GV (V : VV) : Prop := (∀ u, va_D V.2.2.1 (V.2.2.2.1 u)) ∧ (∀ (s U : State) (H : Heap), s.WarmedH U.vm → V.2.2.2.2 s H → V.2.2.2.2 U H) ∧ (∀ (U : State) (H H1 : Heap), (∀ a : Nat, a < H.size → ¬ V.2.2.1 a → H1[a]? = H[a]?) → V.2.2.2.2 U H → V.2.2.2.2 U H1) ∧ (∀ (U U' : State) (H : Heap), U.vm = U'.vm → V.2.2.2.2 U H → V.2.2.2.2 U' H)
/-- a method's start -/
def PW (V : VV) (u : MM) (U : State) : Prop := va_P V.1 vwCl (V.2.2.2.1 u) U.heap ∧ va_K V.1 vwCl V.2.1 U ∧ V.2.2.2.2 U U.heap
def WW (V : VV) (u : MM) (t : State) : Prop := va_P V.1 vwCl (V.2.2.2.1 u) t.heap
def EI (V : VV) (out : Int32 × MM) : Array Value → State → Outcome → State → Prop := va_Qi (fun r u => r = out.1 ∧ u = out.2) (WW V) V.2.2.1
def EL (V : VV) (out : Int64 × MM) : Array Value → State → Outcome → State → Prop := va_Ql (fun r u => r = out.1 ∧ u = out.2) (WW V) V.2.2.1
def EV (V : VV) (out : MM) : Array Value → State → Outcome → State → Prop := va_Qv (fun u => u = out) (WW V) V.2.2.1
/-- contracts: what the function says, the method does -/
def CI (V : VV) (y : MethodName) (bytes : ByteArray) (maxL : Nat) (rt : Option FieldType) (rm : Room) (av : List Value) (u : MM) (o : Option (Int32 × MM)) : Prop := ∀ (l : Launch) (out : Int32 × MM), o = some out → Met l y (Cond.code y bytes maxL rt :: TB) rm (va_Pc av (PW V u)) (EI V out) 0 0 V.2.2.1
def CL (V : VV) (y : MethodName) (bytes : ByteArray) (maxL : Nat) (rt : Option FieldType) (rm : Room) (av : List Value) (u : MM) (o : Option (Int64 × MM)) : Prop := ∀ (l : Launch) (out : Int64 × MM), o = some out → Met l y (Cond.code y bytes maxL rt :: TB) rm (va_Pc av (PW V u)) (EL V out) 0 0 V.2.2.1
def CV (V : VV) (y : MethodName) (bytes : ByteArray) (maxL : Nat) (rt : Option FieldType) (rm : Room) (av : List Value) (u : MM) (o : Option MM) : Prop := ∀ (l : Launch) (out : MM), o = some out → Met l y (Cond.code y bytes maxL rt :: TB) rm (va_Pc av (PW V u)) (EV V out) 0 0 V.2.2.1
/-! a frame of a method -/
abbrev CX : Type := (Program × Launch × Env × Room × State) × (MethodId × Array Value × List Frame × Method × Code)
abbrev WX (X : CX) (H : Heap) (locs : List Loc) (Q : State → Prop) (g : JFrame) : Prop := W X.1.1 X.1.2.1 X.1.2.2.1 X.1.2.2.2.1 X.1.2.2.2.2 X.2.1 X.2.2.1 X.2.2.2.1 X.2.2.2.2.1 X.2.2.2.2.2 H locs 0 0 Q g
def FX (X : CX) (V : VV) (cc : ByteArray) (nL : Nat) (own : String) (rt : Option FieldType) (rm : Room) : Prop :=
  X.1.1.tables.exec = Jvm.exec ∧ X.2.2.2.2.2.code = cc ∧ X.2.2.2.2.2.maxLocals = nL ∧ X.1.2.2.2.2.vm.findClass own = some X.2.1.cls ∧ (∀ w ∈ TB, w.before X.2.2.1 X.1.2.2.2.2 = true) ∧ va_K V.1 vwCl V.2.1 X.1.2.2.2.2 ∧ GV V ∧ V.2.2.2.2 X.1.2.2.2.2 X.1.2.2.2.2.heap ∧ X.2.2.2.2.1.locks = false ∧ X.2.2.2.2.1.sig.returnType = rt ∧ X.1.2.2.2.1 = rm
def JJ (X : CX) (V : VV) (nL : Nat) {α : Type} (Q : α → State → Prop) (pc : Nat) (lv : List (Nat × Value)) (st : List Value) (u : MM) (o : Option α) : Prop :=
  ∀ out : α, o = some out → ∀ (H : Heap) (locs : List Loc) (la : Array Slot), va_P V.1 vwCl (V.2.2.2.1 u) H → va_S V.2.2.1 X.1.2.2.2.2.heap H locs → lv_has la nL lv → WX X H locs (Q out) (F0 X.2.1 pc la st)
def QI (X : CX) (V : VV) (out : Int32 × MM) : State → Prop := MQ X.2.2.2.1 (EI V out) X.2.2.1 X.1.2.2.2.2 0 0 V.2.2.1
def QL (X : CX) (V : VV) (out : Int64 × MM) : State → Prop := MQ X.2.2.2.1 (EL V out) X.2.2.1 X.1.2.2.2.2 0 0 V.2.2.1
def QV (X : CX) (V : VV) (out : MM) : State → Prop := MQ X.2.2.2.1 (EV V out) X.2.2.1 X.1.2.2.2.2 0 0 V.2.2.1
/-- room by depth -/
abbrev RM (d : Nat) : Room := { frames := d, cells := 0, slots := 0, locals := 40 * d }
/-! ===== a contract out of its walk ===== -/
theorem ci_of {V : VV} {y : MethodName} {cc : ByteArray} {nL : Nat} {rt : Option FieldType} {rm : Room} {av : List Value} {u : MM} {o : Option (Int32 × MM)} (hV : GV V) (hy : plainName y.cls = true) (hn : (lg_sl av).length ≤ nL)
    (k : ∀ X : CX, FX X V cc nL y.cls rt rm → JJ X V nL (QI X V) 0 (lv_args 0 av) [] u o) : CI V y cc nL rt rm av u o := by
  intro l out ho
  refine Met.ofW (cc := cc) (maxL := nL) (ret := rt) hy rfl ?_
  intro p e s m args below meth c s₁ B hml hv
  obtain ⟨rfl, hP, hK, hro⟩ := hv
  have hts := atoms_spec (ws := Cond.code y cc nL rt :: TB) B.pre
  have hl := lv_entry av (n := nL) hn
  rw [lg_entry_eq]
  exact k ((p, l, e, rm, s), (m, av.toArray, below, meth, c)) ⟨B.exec, B.bytes, hml, findClass_of_methodNamed B.named, fun w hw => hts w (List.mem_cons_of_mem _ hw), hK, hV, hro, B.notSynchronized, B.returns, rfl⟩ out ho s.heap [] _ hP va_S.rf hl
theorem cl_of {V : VV} {y : MethodName} {cc : ByteArray} {nL : Nat} {rt : Option FieldType} {rm : Room} {av : List Value} {u : MM} {o : Option (Int64 × MM)} (hV : GV V) (hy : plainName y.cls = true) (hn : (lg_sl av).length ≤ nL)
    (k : ∀ X : CX, FX X V cc nL y.cls rt rm → JJ X V nL (QL X V) 0 (lv_args 0 av) [] u o) : CL V y cc nL rt rm av u o := by
  intro l out ho
  refine Met.ofW (cc := cc) (maxL := nL) (ret := rt) hy rfl ?_
  intro p e s m args below meth c s₁ B hml hv
  obtain ⟨rfl, hP, hK, hro⟩ := hv
  have hts := atoms_spec (ws := Cond.code y cc nL rt :: TB) B.pre
  have hl := lv_entry av (n := nL) hn
  rw [lg_entry_eq]
  exact k ((p, l, e, rm, s), (m, av.toArray, below, meth, c)) ⟨B.exec, B.bytes, hml, findClass_of_methodNamed B.named, fun w hw => hts w (List.mem_cons_of_mem _ hw), hK, hV, hro, B.notSynchronized, B.returns, rfl⟩ out ho s.heap [] _ hP va_S.rf hl
theorem cv_of {V : VV} {y : MethodName} {cc : ByteArray} {nL : Nat} {rt : Option FieldType} {rm : Room} {av : List Value} {u : MM} {o : Option MM} (hV : GV V) (hy : plainName y.cls = true) (hn : (lg_sl av).length ≤ nL)
    (k : ∀ X : CX, FX X V cc nL y.cls rt rm → JJ X V nL (QV X V) 0 (lv_args 0 av) [] u o) : CV V y cc nL rt rm av u o := by
  intro l out ho
  refine Met.ofW (cc := cc) (maxL := nL) (ret := rt) hy rfl ?_
  intro p e s m args below meth c s₁ B hml hv
  obtain ⟨rfl, hP, hK, hro⟩ := hv
  have hts := atoms_spec (ws := Cond.code y cc nL rt :: TB) B.pre
  have hl := lv_entry av (n := nL) hn
  rw [lg_entry_eq]
  exact k ((p, l, e, rm, s), (m, av.toArray, below, meth, c)) ⟨B.exec, B.bytes, hml, findClass_of_methodNamed B.named, fun w hw => hts w (List.mem_cons_of_mem _ hw), hK, hV, hro, B.notSynchronized, B.returns, rfl⟩ out ho s.heap [] _ hP va_S.rf hl
end
section
section JR
variable {X : CX} {V : VV} {cc : ByteArray} {nL : Nat} {own : String} {rt : Option FieldType} {rm : Room} {α : Type} {Q : α → State → Prop} {pc : Nat} {lv lv' : List (Nat × Value)} {st : List Value} {u : MM} {o o1 o2 : Option α}
theorem j_none : JJ X V nL Q pc lv st u (none : Option α) := fun out ho => by cases ho
/-- fewer locals, in another order -/
theorem j_sub (ks : List Nat) (hk : lv_pick lv ks = lv') (kk : JJ X V nL Q pc lv' st u o) : JJ X V nL Q pc lv st u o := fun out ho H locs la hP hS hl => kk out ho H locs la hP hS (lv_sub hl ks hk)
theorem j_pc {pc' : Nat} (h : pc = pc') (kk : JJ X V nL Q pc' lv st u o) : JJ X V nL Q pc lv st u o := h ▸ kk
theorem j_iload (F : FX X V cc nL own rt rm) {i : Nat} {x : Int32} (hd : decode cc pc = .ok (.iload i, 2)) (k : Nat) (hk : lv[k]? = some (i, .int x)) (kk : JJ X V nL Q (pc + 2) lv (.int x :: st) u o) : JJ X V nL Q pc lv st u o := fun out ho H locs la hP hS hl => lv_iload F.1 F.2.1 hd (lv_at hl k hk) (kk out ho H locs la hP hS hl)
theorem j_iload_n (F : FX X V cc nL own rt rm) {n : Fin 4} {i : Nat} {x : Int32} (hd : decode cc pc = .ok (.iload_n n, 1)) (hi : (n : Nat) = i) (k : Nat) (hk : lv[k]? = some (i, .int x)) (kk : JJ X V nL Q (pc + 1) lv (.int x :: st) u o) : JJ X V nL Q pc lv st u o := fun out ho H locs la hP hS hl => lv_iload_n F.1 F.2.1 hd hi (lv_at hl k hk) (kk out ho H locs la hP hS hl)
theorem j_lload (F : FX X V cc nL own rt rm) {i : Nat} {x : Int64} (hd : decode cc pc = .ok (.lload i, 2)) (k : Nat) (hk : lv[k]? = some (i, .long x)) (kk : JJ X V nL Q (pc + 2) lv (.long x :: st) u o) : JJ X V nL Q pc lv st u o := fun out ho H locs la hP hS hl => lv_lload F.1 F.2.1 hd (lv_at hl k hk) (kk out ho H locs la hP hS hl)
theorem j_lload_n (F : FX X V cc nL own rt rm) {n : Fin 4} {i : Nat} {x : Int64} (hd : decode cc pc = .ok (.lload_n n, 1)) (hi : (n : Nat) = i) (k : Nat) (hk : lv[k]? = some (i, .long x)) (kk : JJ X V nL Q (pc + 1) lv (.long x :: st) u o) : JJ X V nL Q pc lv st u o := fun out ho H locs la hP hS hl => lv_lload_n F.1 F.2.1 hd hi (lv_at hl k hk) (kk out ho H locs la hP hS hl)
theorem j_aload (F : FX X V cc nL own rt rm) {i : Nat} {x : Nat} (hd : decode cc pc = .ok (.aload i, 2)) (k : Nat) (hk : lv[k]? = some (i, .ref x)) (kk : JJ X V nL Q (pc + 2) lv (.ref x :: st) u o) : JJ X V nL Q pc lv st u o := fun out ho H locs la hP hS hl => lv_aload F.1 F.2.1 hd (lv_at hl k hk) (kk out ho H locs la hP hS hl)
theorem j_aload_n (F : FX X V cc nL own rt rm) {n : Fin 4} {i : Nat} {x : Nat} (hd : decode cc pc = .ok (.aload_n n, 1)) (hi : (n : Nat) = i) (k : Nat) (hk : lv[k]? = some (i, .ref x)) (kk : JJ X V nL Q (pc + 1) lv (.ref x :: st) u o) : JJ X V nL Q pc lv st u o := fun out ho H locs la hP hS hl => lv_aload_n F.1 F.2.1 hd hi (lv_at hl k hk) (kk out ho H locs la hP hS hl)
theorem j_istore (F : FX X V cc nL own rt rm) {i : Nat} {x : Int32} (hd : decode cc pc = .ok (.istore i, 2)) (hn : i < nL) (hl : (i, Value.int x) :: lv.filter (fun q => !(q.1 == i) && !(q.1 + 1 == i && q.2.category == 2)) = lv') (kk : JJ X V nL Q (pc + 2) lv' st u o) : JJ X V nL Q pc lv (.int x :: st) u o := fun out ho H locs la hP hS h => lv_istore F.1 F.2.1 hd h hn hl (fun la h => kk out ho H locs la hP hS h)
theorem j_istore_n (F : FX X V cc nL own rt rm) {n : Fin 4} {i : Nat} {x : Int32} (hd : decode cc pc = .ok (.istore_n n, 1)) (hi : (n : Nat) = i) (hn : i < nL) (hl : (i, Value.int x) :: lv.filter (fun q => !(q.1 == i) && !(q.1 + 1 == i && q.2.category == 2)) = lv') (kk : JJ X V nL Q (pc + 1) lv' st u o) : JJ X V nL Q pc lv (.int x :: st) u o := fun out ho H locs la hP hS h => lv_istore_n F.1 F.2.1 hd hi h hn hl (fun la h => kk out ho H locs la hP hS h)
theorem j_lstore (F : FX X V cc nL own rt rm) {i : Nat} {x : Int64} (hd : decode cc pc = .ok (.lstore i, 2)) (hn : i + 1 < nL) (hl : (i, Value.long x) :: lv.filter (fun q => !(q.1 == i) && (!(q.1 == i + 1) && !(q.1 + 1 == i && q.2.category == 2))) = lv') (kk : JJ X V nL Q (pc + 2) lv' st u o) : JJ X V nL Q pc lv (.long x :: st) u o := fun out ho H locs la hP hS h => lv_lstore F.1 F.2.1 hd h hn hl (fun la h => kk out ho H locs la hP hS h)
theorem j_lstore_n (F : FX X V cc nL own rt rm) {n : Fin 4} {i : Nat} {x : Int64} (hd : decode cc pc = .ok (.lstore_n n, 1)) (hi : (n : Nat) = i) (hn : i + 1 < nL) (hl : (i, Value.long x) :: lv.filter (fun q => !(q.1 == i) && (!(q.1 == i + 1) && !(q.1 + 1 == i && q.2.category == 2))) = lv') (kk : JJ X V nL Q (pc + 1) lv' st u o) : JJ X V nL Q pc lv (.long x :: st) u o := fun out ho H locs la hP hS h => lv_lstore_n F.1 F.2.1 hd hi h hn hl (fun la h => kk out ho H locs la hP hS h)
theorem j_iinc (F : FX X V cc nL own rt rm) {i k : Nat} {n : Int} {x v : Int32} (hd : decode cc pc = .ok (.iinc i n, 3)) (hk : lv[k]? = some (i, .int x)) (hv : x + Int32.ofInt n = v) (hn : i < nL) (hl : (i, Value.int v) :: lv.filter (fun q => !(q.1 == i) && !(q.1 + 1 == i && q.2.category == 2)) = lv') (kk : JJ X V nL Q (pc + 3) lv' st u o) : JJ X V nL Q pc lv st u o := fun out ho H locs la hP hS h => lv_iinc F.1 F.2.1 hd h hk hv hn hl (fun la h => kk out ho H locs la hP hS h)
theorem j_iconst (F : FX X V cc nL own rt rm) {n : Int} {v : Int32} (hd : decode cc pc = .ok (.iconst n, 1)) (hv : Int32.ofInt n = v) (kk : JJ X V nL Q (pc + 1) lv (.int v :: st) u o) : JJ X V nL Q pc lv st u o := fun out ho H locs la hP hS hl => lv_iconst F.1 F.2.1 hd hv (kk out ho H locs la hP hS hl)
theorem j_bipush (F : FX X V cc nL own rt rm) {n : Int} {v : Int32} (hd : decode cc pc = .ok (.bipush n, 2)) (hv : (Int8.ofInt n).toInt32 = v) (kk : JJ X V nL Q (pc + 2) lv (.int v :: st) u o) : JJ X V nL Q pc lv st u o := fun out ho H locs la hP hS hl => lv_bipush F.1 F.2.1 hd hv (kk out ho H locs la hP hS hl)
theorem j_sipush (F : FX X V cc nL own rt rm) {n : Int} {v : Int32} (hd : decode cc pc = .ok (.sipush n, 3)) (hv : (Int16.ofInt n).toInt32 = v) (kk : JJ X V nL Q (pc + 3) lv (.int v :: st) u o) : JJ X V nL Q pc lv st u o := fun out ho H locs la hP hS hl => lv_sipush F.1 F.2.1 hd hv (kk out ho H locs la hP hS hl)
theorem j_lconst (F : FX X V cc nL own rt rm) {n : Fin 2} {v : Int64} (hd : decode cc pc = .ok (.lconst n, 1)) (hv : Int64.ofNat (n : Nat) = v) (kk : JJ X V nL Q (pc + 1) lv (.long v :: st) u o) : JJ X V nL Q pc lv st u o := fun out ho H locs la hP hS hl => lv_lconst F.1 F.2.1 hd hv (kk out ho H locs la hP hS hl)
theorem j_ldc (F : FX X V cc nL own rt rm) {i : Nat} {v : Int32} (hc : Cond.constant own i v ∈ TB) (hd : decode cc pc = .ok (.ldc i, 2)) (kk : JJ X V nL Q (pc + 2) lv (.int v :: st) u o) : JJ X V nL Q pc lv st u o := fun out ho H locs la hP hS hl => lv_ldc F.1 F.2.1 F.2.2.2.1 (F.2.2.2.2.1 _ hc) hd (kk out ho H locs la hP hS hl)
theorem j_ldcw (F : FX X V cc nL own rt rm) {i : Nat} {v : Int32} (hc : Cond.constant own i v ∈ TB) (hd : decode cc pc = .ok (.ldc_w i, 3)) (kk : JJ X V nL Q (pc + 3) lv (.int v :: st) u o) : JJ X V nL Q pc lv st u o := fun out ho H locs la hP hS hl => lv_ldcw F.1 F.2.1 F.2.2.2.1 (F.2.2.2.2.1 _ hc) hd (kk out ho H locs la hP hS hl)
theorem j_ldc2 (F : FX X V cc nL own rt rm) {i : Nat} {v : Int64} (hc : Cond.constantLong own i v ∈ TB) (hd : decode cc pc = .ok (.ldc2_w i, 3)) (kk : JJ X V nL Q (pc + 3) lv (.long v :: st) u o) : JJ X V nL Q pc lv st u o := fun out ho H locs la hP hS hl => lv_ldc2 F.1 F.2.1 F.2.2.2.1 (F.2.2.2.2.1 _ hc) hd (kk out ho H locs la hP hS hl)
theorem j_iadd (F : FX X V cc nL own rt rm) {x y : Int32} (hd : decode cc pc = .ok (.iadd, 1)) (kk : JJ X V nL Q (pc + 1) lv (.int (x + y) :: st) u o) : JJ X V nL Q pc lv (.int y :: .int x :: st) u o := fun out ho H locs la hP hS hl => lv_iadd F.1 F.2.1 hd (kk out ho H locs la hP hS hl)
theorem j_isub (F : FX X V cc nL own rt rm) {x y : Int32} (hd : decode cc pc = .ok (.isub, 1)) (kk : JJ X V nL Q (pc + 1) lv (.int (x - y) :: st) u o) : JJ X V nL Q pc lv (.int y :: .int x :: st) u o := fun out ho H locs la hP hS hl => lv_isub F.1 F.2.1 hd (kk out ho H locs la hP hS hl)
theorem j_imul (F : FX X V cc nL own rt rm) {x y : Int32} (hd : decode cc pc = .ok (.imul, 1)) (kk : JJ X V nL Q (pc + 1) lv (.int (x * y) :: st) u o) : JJ X V nL Q pc lv (.int y :: .int x :: st) u o := fun out ho H locs la hP hS hl => lv_imul F.1 F.2.1 hd (kk out ho H locs la hP hS hl)
theorem j_iand (F : FX X V cc nL own rt rm) {x y : Int32} (hd : decode cc pc = .ok (.iand, 1)) (kk : JJ X V nL Q (pc + 1) lv (.int (x &&& y) :: st) u o) : JJ X V nL Q pc lv (.int y :: .int x :: st) u o := fun out ho H locs la hP hS hl => lv_iand F.1 F.2.1 hd (kk out ho H locs la hP hS hl)
theorem j_ior (F : FX X V cc nL own rt rm) {x y : Int32} (hd : decode cc pc = .ok (.ior, 1)) (kk : JJ X V nL Q (pc + 1) lv (.int (x ||| y) :: st) u o) : JJ X V nL Q pc lv (.int y :: .int x :: st) u o := fun out ho H locs la hP hS hl => lv_ior F.1 F.2.1 hd (kk out ho H locs la hP hS hl)
theorem j_ixor (F : FX X V cc nL own rt rm) {x y : Int32} (hd : decode cc pc = .ok (.ixor, 1)) (kk : JJ X V nL Q (pc + 1) lv (.int (x ^^^ y) :: st) u o) : JJ X V nL Q pc lv (.int y :: .int x :: st) u o := fun out ho H locs la hP hS hl => lv_ixor F.1 F.2.1 hd (kk out ho H locs la hP hS hl)
theorem j_ishl (F : FX X V cc nL own rt rm) {x y : Int32} (hd : decode cc pc = .ok (.ishl, 1)) (kk : JJ X V nL Q (pc + 1) lv (.int (x <<< (y &&& 31)) :: st) u o) : JJ X V nL Q pc lv (.int y :: .int x :: st) u o := fun out ho H locs la hP hS hl => lv_ishl F.1 F.2.1 hd (kk out ho H locs la hP hS hl)
theorem j_ishr (F : FX X V cc nL own rt rm) {x y : Int32} (hd : decode cc pc = .ok (.ishr, 1)) (kk : JJ X V nL Q (pc + 1) lv (.int (x >>> (y &&& 31)) :: st) u o) : JJ X V nL Q pc lv (.int y :: .int x :: st) u o := fun out ho H locs la hP hS hl => lv_ishr F.1 F.2.1 hd (kk out ho H locs la hP hS hl)
theorem j_ladd (F : FX X V cc nL own rt rm) {x y : Int64} (hd : decode cc pc = .ok (.ladd, 1)) (kk : JJ X V nL Q (pc + 1) lv (.long (x + y) :: st) u o) : JJ X V nL Q pc lv (.long y :: .long x :: st) u o := fun out ho H locs la hP hS hl => lv_ladd F.1 F.2.1 hd (kk out ho H locs la hP hS hl)
theorem j_lsub (F : FX X V cc nL own rt rm) {x y : Int64} (hd : decode cc pc = .ok (.lsub, 1)) (kk : JJ X V nL Q (pc + 1) lv (.long (x - y) :: st) u o) : JJ X V nL Q pc lv (.long y :: .long x :: st) u o := fun out ho H locs la hP hS hl => lv_lsub F.1 F.2.1 hd (kk out ho H locs la hP hS hl)
theorem j_lmul (F : FX X V cc nL own rt rm) {x y : Int64} (hd : decode cc pc = .ok (.lmul, 1)) (kk : JJ X V nL Q (pc + 1) lv (.long (x * y) :: st) u o) : JJ X V nL Q pc lv (.long y :: .long x :: st) u o := fun out ho H locs la hP hS hl => lv_lmul F.1 F.2.1 hd (kk out ho H locs la hP hS hl)
theorem j_ineg (F : FX X V cc nL own rt rm) {x : Int32} (hd : decode cc pc = .ok (.ineg, 1)) (kk : JJ X V nL Q (pc + 1) lv (.int (-x) :: st) u o) : JJ X V nL Q pc lv (.int x :: st) u o := fun out ho H locs la hP hS hl => lv_ineg F.1 F.2.1 hd (kk out ho H locs la hP hS hl)
theorem j_lneg (F : FX X V cc nL own rt rm) {x : Int64} (hd : decode cc pc = .ok (.lneg, 1)) (kk : JJ X V nL Q (pc + 1) lv (.long (-x) :: st) u o) : JJ X V nL Q pc lv (.long x :: st) u o := fun out ho H locs la hP hS hl => lv_lneg F.1 F.2.1 hd (kk out ho H locs la hP hS hl)
theorem j_i2l (F : FX X V cc nL own rt rm) {x : Int32} (hd : decode cc pc = .ok (.i2l, 1)) (kk : JJ X V nL Q (pc + 1) lv (.long (x.toInt64) :: st) u o) : JJ X V nL Q pc lv (.int x :: st) u o := fun out ho H locs la hP hS hl => lv_i2l F.1 F.2.1 hd rfl (kk out ho H locs la hP hS hl)
theorem j_l2i (F : FX X V cc nL own rt rm) {x : Int64} (hd : decode cc pc = .ok (.l2i, 1)) (kk : JJ X V nL Q (pc + 1) lv (.int (x.toInt32) :: st) u o) : JJ X V nL Q pc lv (.long x :: st) u o := fun out ho H locs la hP hS hl => lv_l2i F.1 F.2.1 hd rfl (kk out ho H locs la hP hS hl)
theorem j_i2b (F : FX X V cc nL own rt rm) {x : Int32} (hd : decode cc pc = .ok (.i2b, 1)) (kk : JJ X V nL Q (pc + 1) lv (.int (x.toInt8.toInt32) :: st) u o) : JJ X V nL Q pc lv (.int x :: st) u o := fun out ho H locs la hP hS hl => lv_i2b F.1 F.2.1 hd rfl (kk out ho H locs la hP hS hl)
theorem j_i2s (F : FX X V cc nL own rt rm) {x : Int32} (hd : decode cc pc = .ok (.i2s, 1)) (kk : JJ X V nL Q (pc + 1) lv (.int (x.toInt16.toInt32) :: st) u o) : JJ X V nL Q pc lv (.int x :: st) u o := fun out ho H locs la hP hS hl => lv_i2s F.1 F.2.1 hd rfl (kk out ho H locs la hP hS hl)
theorem j_i2c (F : FX X V cc nL own rt rm) {x : Int32} (hd : decode cc pc = .ok (.i2c, 1)) (kk : JJ X V nL Q (pc + 1) lv (.int ((x.toUInt32 % 65536).toInt32) :: st) u o) : JJ X V nL Q pc lv (.int x :: st) u o := fun out ho H locs la hP hS hl => lv_i2c F.1 F.2.1 hd rfl (kk out ho H locs la hP hS hl)
theorem j_iushr (F : FX X V cc nL own rt rm) {x y : Int32} (hd : decode cc pc = .ok (.iushr, 1)) (kk : JJ X V nL Q (pc + 1) lv (.int ((x.toUInt32 >>> (y.toUInt32 &&& Int32.toUInt32 31)).toInt32) :: st) u o) : JJ X V nL Q pc lv (.int y :: .int x :: st) u o := fun out ho H locs la hP hS hl => lv_iushr F.1 F.2.1 hd rfl (kk out ho H locs la hP hS hl)
theorem j_lcmp (F : FX X V cc nL own rt rm) {x y : Int64} (hd : decode cc pc = .ok (.lcmp, 1)) (kk : JJ X V nL Q (pc + 1) lv (.int (lg_cmp x y) :: st) u o) : JJ X V nL Q pc lv (.long y :: .long x :: st) u o := fun out ho H locs la hP hS hl => W.lcmp F.1 F.2.1 hd (kk out ho H locs la hP hS hl)
theorem j_idiv (F : FX X V cc nL own rt rm) {x y : Int32} {f : Int32 → Option α} (hd : decode cc pc = .ok (.idiv, 1)) (kk : ∀ z : Int32, JJ X V nL Q (pc + 1) lv (.int z :: st) u (f z)) : JJ X V nL Q pc lv (.int y :: .int x :: st) u (mo_dv x y f) := fun out ho H locs la hP hS hl => by
  unfold mo_dv at ho
  by_cases h : y = 0
  · rw [if_pos h] at ho; cases ho
  · rw [if_neg h] at ho
    exact lv_idiv F.1 F.2.1 hd h (kk _ out ho H locs la hP hS hl)
theorem j_irem (F : FX X V cc nL own rt rm) {x y : Int32} {f : Int32 → Option α} (hd : decode cc pc = .ok (.irem, 1)) (kk : ∀ z : Int32, JJ X V nL Q (pc + 1) lv (.int z :: st) u (f z)) : JJ X V nL Q pc lv (.int y :: .int x :: st) u (mo_rm x y f) := fun out ho H locs la hP hS hl => by
  unfold mo_rm at ho
  by_cases h : y = 0
  · rw [if_pos h] at ho; cases ho
  · rw [if_neg h] at ho
    exact lv_irem F.1 F.2.1 hd h (kk _ out ho H locs la hP hS hl)
theorem j_ldiv (F : FX X V cc nL own rt rm) {x y : Int64} {f : Int64 → Option α} (hd : decode cc pc = .ok (.ldiv, 1)) (kk : ∀ z : Int64, JJ X V nL Q (pc + 1) lv (.long z :: st) u (f z)) : JJ X V nL Q pc lv (.long y :: .long x :: st) u (mo_dl x y f) := fun out ho H locs la hP hS hl => by
  unfold mo_dl at ho
  by_cases h : y = 0
  · rw [if_pos h] at ho; cases ho
  · rw [if_neg h] at ho
    exact lv_ldiv F.1 F.2.1 hd h (kk _ out ho H locs la hP hS hl)
theorem j_lrem (F : FX X V cc nL own rt rm) {x y : Int64} {f : Int64 → Option α} (hd : decode cc pc = .ok (.lrem, 1)) (kk : ∀ z : Int64, JJ X V nL Q (pc + 1) lv (.long z :: st) u (f z)) : JJ X V nL Q pc lv (.long y :: .long x :: st) u (mo_rl x y f) := fun out ho H locs la hP hS hl => by
  unfold mo_rl at ho
  by_cases h : y = 0
  · rw [if_pos h] at ho; cases ho
  · rw [if_neg h] at ho
    exact lv_lrem F.1 F.2.1 hd h (kk _ out ho H locs la hP hS hl)
theorem j_dup (F : FX X V cc nL own rt rm) {a : Value} (hd : decode cc pc = .ok (.dup, 1)) (ha : a.category = 1) (kk : JJ X V nL Q (pc + 1) lv (a :: a :: st) u o) : JJ X V nL Q pc lv (a :: st) u o := fun out ho H locs la hP hS hl => lv_dup F.1 F.2.1 hd ha (kk out ho H locs la hP hS hl)
theorem j_dup2 (F : FX X V cc nL own rt rm) {a b : Value} (hd : decode cc pc = .ok (.dup2, 1)) (ha : a.category = 1) (hb : b.category = 1) (kk : JJ X V nL Q (pc + 1) lv (a :: b :: a :: b :: st) u o) : JJ X V nL Q pc lv (a :: b :: st) u o := fun out ho H locs la hP hS hl => lv_dup2_11 F.1 F.2.1 hd ha hb (kk out ho H locs la hP hS hl)
theorem j_pop (F : FX X V cc nL own rt rm) {a : Value} (hd : decode cc pc = .ok (.pop, 1)) (ha : a.category = 1) (kk : JJ X V nL Q (pc + 1) lv st u o) : JJ X V nL Q pc lv (a :: st) u o := fun out ho H locs la hP hS hl => lv_pop F.1 F.2.1 hd ha (kk out ho H locs la hP hS hl)
theorem j_goto (F : FX X V cc nL own rt rm) {off : Int} {tgt : Nat} (hd : decode cc pc = .ok (.goto off, 3)) (ht : (pc : Int) + off = (tgt : Int)) (kk : JJ X V nL Q tgt lv st u o) : JJ X V nL Q pc lv st u o := fun out ho H locs la hP hS hl => lv_goto F.1 F.2.1 hd ht (kk out ho H locs la hP hS hl)
theorem j_ifeq (F : FX X V cc nL own rt rm) {x : Int32} {off : Int} {tgt : Nat} (hd : decode cc pc = .ok (.ifCond .eq off, 3)) (ht : (pc : Int) + off = (tgt : Int)) (kt : JJ X V nL Q tgt lv st u o1) (kf : JJ X V nL Q (pc + 3) lv st u o2) : JJ X V nL Q pc lv (.int x :: st) u (if x = 0 then o1 else o2) := fun out ho H locs la hP hS hl => lv_if_eq F.1 F.2.1 hd ht (fun h => kt out (by first | rwa [if_pos h] at ho | rwa [if_neg h] at ho) H locs la hP hS hl) (fun h => kf out (by first | rwa [if_neg h] at ho | rwa [if_pos h] at ho) H locs la hP hS hl)
theorem j_ifne (F : FX X V cc nL own rt rm) {x : Int32} {off : Int} {tgt : Nat} (hd : decode cc pc = .ok (.ifCond .ne off, 3)) (ht : (pc : Int) + off = (tgt : Int)) (kt : JJ X V nL Q tgt lv st u o1) (kf : JJ X V nL Q (pc + 3) lv st u o2) : JJ X V nL Q pc lv (.int x :: st) u (if x = 0 then o2 else o1) := fun out ho H locs la hP hS hl => lv_if_ne F.1 F.2.1 hd ht (fun h => kt out (by first | rwa [if_pos h] at ho | rwa [if_neg h] at ho) H locs la hP hS hl) (fun h => kf out (by first | rwa [if_neg h] at ho | rwa [if_pos h] at ho) H locs la hP hS hl)
theorem j_iflt (F : FX X V cc nL own rt rm) {x : Int32} {off : Int} {tgt : Nat} (hd : decode cc pc = .ok (.ifCond .lt off, 3)) (ht : (pc : Int) + off = (tgt : Int)) (kt : JJ X V nL Q tgt lv st u o1) (kf : JJ X V nL Q (pc + 3) lv st u o2) : JJ X V nL Q pc lv (.int x :: st) u (if x < 0 then o1 else o2) := fun out ho H locs la hP hS hl => lv_if_lt F.1 F.2.1 hd ht (fun h => kt out (by first | rwa [if_pos h] at ho | rwa [if_neg h] at ho) H locs la hP hS hl) (fun h => kf out (by first | rwa [if_neg h] at ho | rwa [if_pos h] at ho) H locs la hP hS hl)
theorem j_ifge (F : FX X V cc nL own rt rm) {x : Int32} {off : Int} {tgt : Nat} (hd : decode cc pc = .ok (.ifCond .ge off, 3)) (ht : (pc : Int) + off = (tgt : Int)) (kt : JJ X V nL Q tgt lv st u o1) (kf : JJ X V nL Q (pc + 3) lv st u o2) : JJ X V nL Q pc lv (.int x :: st) u (if 0 ≤ x then o1 else o2) := fun out ho H locs la hP hS hl => lv_if_ge F.1 F.2.1 hd ht (fun h => kt out (by first | rwa [if_pos h] at ho | rwa [if_neg h] at ho) H locs la hP hS hl) (fun h => kf out (by first | rwa [if_neg h] at ho | rwa [if_pos h] at ho) H locs la hP hS hl)
theorem j_ifgt (F : FX X V cc nL own rt rm) {x : Int32} {off : Int} {tgt : Nat} (hd : decode cc pc = .ok (.ifCond .gt off, 3)) (ht : (pc : Int) + off = (tgt : Int)) (kt : JJ X V nL Q tgt lv st u o1) (kf : JJ X V nL Q (pc + 3) lv st u o2) : JJ X V nL Q pc lv (.int x :: st) u (if 0 < x then o1 else o2) := fun out ho H locs la hP hS hl => lv_if_gt F.1 F.2.1 hd ht (fun h => kt out (by first | rwa [if_pos h] at ho | rwa [if_neg h] at ho) H locs la hP hS hl) (fun h => kf out (by first | rwa [if_neg h] at ho | rwa [if_pos h] at ho) H locs la hP hS hl)
theorem j_ifle (F : FX X V cc nL own rt rm) {x : Int32} {off : Int} {tgt : Nat} (hd : decode cc pc = .ok (.ifCond .le off, 3)) (ht : (pc : Int) + off = (tgt : Int)) (kt : JJ X V nL Q tgt lv st u o1) (kf : JJ X V nL Q (pc + 3) lv st u o2) : JJ X V nL Q pc lv (.int x :: st) u (if x ≤ 0 then o1 else o2) := fun out ho H locs la hP hS hl => lv_if_le F.1 F.2.1 hd ht (fun h => kt out (by first | rwa [if_pos h] at ho | rwa [if_neg h] at ho) H locs la hP hS hl) (fun h => kf out (by first | rwa [if_neg h] at ho | rwa [if_pos h] at ho) H locs la hP hS hl)
theorem j_iceq (F : FX X V cc nL own rt rm) {x y : Int32} {off : Int} {tgt : Nat} (hd : decode cc pc = .ok (.if_icmp .eq off, 3)) (ht : (pc : Int) + off = (tgt : Int)) (kt : JJ X V nL Q tgt lv st u o1) (kf : JJ X V nL Q (pc + 3) lv st u o2) : JJ X V nL Q pc lv (.int y :: .int x :: st) u (if x = y then o1 else o2) := fun out ho H locs la hP hS hl => lv_icmp_eq F.1 F.2.1 hd ht (fun h => kt out (by first | rwa [if_pos h] at ho | rwa [if_neg h] at ho) H locs la hP hS hl) (fun h => kf out (by first | rwa [if_neg h] at ho | rwa [if_pos h] at ho) H locs la hP hS hl)
theorem j_icne (F : FX X V cc nL own rt rm) {x y : Int32} {off : Int} {tgt : Nat} (hd : decode cc pc = .ok (.if_icmp .ne off, 3)) (ht : (pc : Int) + off = (tgt : Int)) (kt : JJ X V nL Q tgt lv st u o1) (kf : JJ X V nL Q (pc + 3) lv st u o2) : JJ X V nL Q pc lv (.int y :: .int x :: st) u (if x = y then o2 else o1) := fun out ho H locs la hP hS hl => lv_icmp_ne F.1 F.2.1 hd ht (fun h => kt out (by first | rwa [if_pos h] at ho | rwa [if_neg h] at ho) H locs la hP hS hl) (fun h => kf out (by first | rwa [if_neg h] at ho | rwa [if_pos h] at ho) H locs la hP hS hl)
theorem j_iclt (F : FX X V cc nL own rt rm) {x y : Int32} {off : Int} {tgt : Nat} (hd : decode cc pc = .ok (.if_icmp .lt off, 3)) (ht : (pc : Int) + off = (tgt : Int)) (kt : JJ X V nL Q tgt lv st u o1) (kf : JJ X V nL Q (pc + 3) lv st u o2) : JJ X V nL Q pc lv (.int y :: .int x :: st) u (if x < y then o1 else o2) := fun out ho H locs la hP hS hl => lv_icmp_lt F.1 F.2.1 hd ht (fun h => kt out (by first | rwa [if_pos h] at ho | rwa [if_neg h] at ho) H locs la hP hS hl) (fun h => kf out (by first | rwa [if_neg h] at ho | rwa [if_pos h] at ho) H locs la hP hS hl)
theorem j_icge (F : FX X V cc nL own rt rm) {x y : Int32} {off : Int} {tgt : Nat} (hd : decode cc pc = .ok (.if_icmp .ge off, 3)) (ht : (pc : Int) + off = (tgt : Int)) (kt : JJ X V nL Q tgt lv st u o1) (kf : JJ X V nL Q (pc + 3) lv st u o2) : JJ X V nL Q pc lv (.int y :: .int x :: st) u (if y ≤ x then o1 else o2) := fun out ho H locs la hP hS hl => lv_icmp_ge F.1 F.2.1 hd ht (fun h => kt out (by first | rwa [if_pos h] at ho | rwa [if_neg h] at ho) H locs la hP hS hl) (fun h => kf out (by first | rwa [if_neg h] at ho | rwa [if_pos h] at ho) H locs la hP hS hl)
theorem j_icgt (F : FX X V cc nL own rt rm) {x y : Int32} {off : Int} {tgt : Nat} (hd : decode cc pc = .ok (.if_icmp .gt off, 3)) (ht : (pc : Int) + off = (tgt : Int)) (kt : JJ X V nL Q tgt lv st u o1) (kf : JJ X V nL Q (pc + 3) lv st u o2) : JJ X V nL Q pc lv (.int y :: .int x :: st) u (if y < x then o1 else o2) := fun out ho H locs la hP hS hl => lv_icmp_gt F.1 F.2.1 hd ht (fun h => kt out (by first | rwa [if_pos h] at ho | rwa [if_neg h] at ho) H locs la hP hS hl) (fun h => kf out (by first | rwa [if_neg h] at ho | rwa [if_pos h] at ho) H locs la hP hS hl)
theorem j_icle (F : FX X V cc nL own rt rm) {x y : Int32} {off : Int} {tgt : Nat} (hd : decode cc pc = .ok (.if_icmp .le off, 3)) (ht : (pc : Int) + off = (tgt : Int)) (kt : JJ X V nL Q tgt lv st u o1) (kf : JJ X V nL Q (pc + 3) lv st u o2) : JJ X V nL Q pc lv (.int y :: .int x :: st) u (if x ≤ y then o1 else o2) := fun out ho H locs la hP hS hl => lv_icmp_le F.1 F.2.1 hd ht (fun h => kt out (by first | rwa [if_pos h] at ho | rwa [if_neg h] at ho) H locs la hP hS hl) (fun h => kf out (by first | rwa [if_neg h] at ho | rwa [if_pos h] at ho) H locs la hP hS hl)
/-- a switch: one known value of it, and outside of all -/
theorem j_sw {x v : Int32} (kt : JJ X V nL Q pc lv (.int v :: st) u o1) (kf : ¬ x = v → JJ X V nL Q pc lv (.int x :: st) u o2) : JJ X V nL Q pc lv (.int x :: st) u (if x = v then o1 else o2) := fun out ho H locs la hP hS hl => by
  by_cases h : x = v
  · rw [if_pos h] at ho
    subst h
    exact kt out ho H locs la hP hS hl
  · rw [if_neg h] at ho
    exact kf h out ho H locs la hP hS hl
theorem j_tabIn (F : FX X V cc nL own rt rm) {dflt lo hi : Int} {offs : Array Int} {len : Nat} {x : Int32} {off : Int} {tgt : Nat} (hd : decode cc pc = .ok (.tableswitch dflt lo hi offs, len)) (h1 : ¬ x.toInt < lo) (h2 : ¬ hi < x.toInt) (ho : offs[(x.toInt - lo).toNat]? = some off) (ht : (pc : Int) + off = (tgt : Int)) (kk : JJ X V nL Q tgt lv st u o) : JJ X V nL Q pc lv (.int x :: st) u o := fun out h H locs la hP hS hl => lv_tableIn F.1 F.2.1 hd h1 h2 ho ht (kk out h H locs la hP hS hl)
theorem j_tabOut (F : FX X V cc nL own rt rm) {dflt lo hi : Int} {offs : Array Int} {len : Nat} {x : Int32} {tgt : Nat} (hd : decode cc pc = .ok (.tableswitch dflt lo hi offs, len)) (h : x.toInt < lo ∨ hi < x.toInt) (ht : (pc : Int) + dflt = (tgt : Int)) (kk : JJ X V nL Q tgt lv st u o) : JJ X V nL Q pc lv (.int x :: st) u o := fun out ho H locs la hP hS hl => lv_tableOut F.1 F.2.1 hd h ht (kk out ho H locs la hP hS hl)
theorem sw_ne {x : Int32} {n : Int} (h : ¬ x = Int32.ofInt n) : ¬ x.toInt = n := fun q => h (by rw [← q, Int32.ofInt_toInt])
/-! ends -/
theorem j_iret (F : FX X V cc nL own (some .int) rm) {v : Int32} (hd : decode cc pc = .ok (.ireturn, 1)) : JJ X V nL (QI X V) pc lv [.int v] u (some (v, u)) := fun out ho H locs la hP hS hl => by
  cases ho
  exact W.iret F.1 F.2.1 F.2.2.2.2.2.2.2.2.2.1 (fun t ht hW => ⟨⟨v, u, rfl, ⟨rfl, rfl⟩, by show va_P _ _ _ t.heap; rw [ht]; exact hP⟩, hS.F ht⟩) hS.2.2 hd (hlocks := F.2.2.2.2.2.2.2.2.1)
theorem j_zret (F : FX X V cc nL own (some .boolean) rm) {v : Int32} (hv : narrow .boolean (.int v) = .int v) (hd : decode cc pc = .ok (.ireturn, 1)) : JJ X V nL (QI X V) pc lv [.int v] u (some (v, u)) := fun out ho H locs la hP hS hl => by
  cases ho
  exact W.zret F.1 F.2.1 F.2.2.2.2.2.2.2.2.2.1 hv (fun t ht hW => ⟨⟨v, u, rfl, ⟨rfl, rfl⟩, by show va_P _ _ _ t.heap; rw [ht]; exact hP⟩, hS.F ht⟩) hS.2.2 hd (hlocks := F.2.2.2.2.2.2.2.2.1)
theorem j_zretv (F : FX X V cc nL own (some .boolean) rm) {v : Int32} (hd : decode cc pc = .ok (.ireturn, 1)) : JJ X V nL (QI X V) pc lv [.int v] u (mo_zr v u) := fun out ho H locs la hP hS hl => by
  unfold mo_zr at ho
  by_cases h : v = 0 ∨ v = 1
  · rw [if_pos h] at ho
    exact j_zret F (by rcases h with rfl | rfl <;> rfl) hd out ho H locs la hP hS hl
  · rw [if_neg h] at ho; cases ho
theorem j_lret (F : FX X V cc nL own (some .long) rm) {v : Int64} (hd : decode cc pc = .ok (.lreturn, 1)) : JJ X V nL (QL X V) pc lv [.long v] u (some (v, u)) := fun out ho H locs la hP hS hl => by
  cases ho
  exact W.lret F.1 F.2.1 F.2.2.2.2.2.2.2.2.2.1 (fun t ht hW => ⟨⟨v, u, rfl, ⟨rfl, rfl⟩, by show va_P _ _ _ t.heap; rw [ht]; exact hP⟩, hS.F ht⟩) hS.2.2 hd (hlocks := F.2.2.2.2.2.2.2.2.1)
theorem j_vret (F : FX X V cc nL own none rm) (hd : decode cc pc = .ok (.return_, 1)) : JJ X V nL (QV X V) pc lv [] u (some u) := fun out ho H locs la hP hS hl => by
  cases ho
  exact W.vret F.1 F.2.1 F.2.2.2.2.2.2.2.2.2.1 (fun t ht hW => ⟨⟨u, rfl, rfl, by show va_P _ _ _ t.heap; rw [ht]; exact hP⟩, hS.F ht⟩) hS.2.2 hd (hlocks := F.2.2.2.2.2.2.2.2.1)
/-! fields: T, N the class's table, k the field's place; fs what the object holds -/
theorem j_get (F : FX X V cc nL own rt rm) {ref C : String} {T : u_T} {N ci index : Nat} (hin : ∀ w ∈ u_ws C T N, w ∈ TB) (q0 : Nat) {a : Nat} {fs : List Value} (he : (V.2.2.2.1 u)[q0]? = some (a, .inr (ci, fs))) (hc : vwCl[ci]? = some (C, T, N)) (k : Nat) (hk : k < N) (hlink : Cond.fieldLink own index ref (T k).2.1 (T k).2.2.1 ∈ TB) (hr : (T k).1 = ref) {v : Value} (hv : fs[k]? = some v) (hd : decode cc pc = .ok (.getfield index, 3)) (kk : JJ X V nL Q (pc + 3) lv (v :: st) u o) : JJ X V nL Q pc lv (.ref a :: st) u o := fun out ho H locs la hP hS hl => va_get F.1 F.2.1 F.2.2.2.2.1 hin F.2.2.2.1 F.2.2.2.2.2.1 hP q0 he hc k hk (F.2.2.2.2.1 _ hlink) (fun x h => by rw [← hr]; exact h) hv hd (kk out ho H locs la hP hS hl)
theorem j_put (F : FX X V cc nL own rt rm) {ref C : String} {T : u_T} {N ci index : Nat} (hin : ∀ w ∈ u_ws C T N, w ∈ TB) (ty0 : Nat → FieldType) (hty : ∀ k, k < N → parseFieldDescriptor (T k).2.2.1 = some (ty0 k)) (hnm : ∀ a, a < N → ∀ b, b < N → a ≠ b → (T a).2.1 ≠ (T b).2.1) (q0 : Nat) {a : Nat} {fs : List Value} (he : (V.2.2.2.1 u)[q0]? = some (a, .inr (ci, fs))) (hc : vwCl[ci]? = some (C, T, N)) (k : Nat) (hk : k < N) (hlink : Cond.fieldLink own index ref (T k).2.1 (T k).2.2.1 ∈ TB) (hr : (T k).1 = ref) (hfin : (T k).2.2.2 = false) {ty : FieldType} {v : Value} (hdt : parseFieldDescriptor (T k).2.2.1 = some ty) (hn : narrow ty v = v) (hfit : fits ty v = true) (hlen : k < fs.length) {u' : MM} (hset : (V.2.2.2.1 u).set q0 (a, .inr (ci, fs.set k v)) = V.2.2.2.1 u') (hd : decode cc pc = .ok (.putfield index, 3)) (kk : JJ X V nL Q (pc + 3) lv st u' o) : JJ X V nL Q pc lv (v :: .ref a :: st) u o := fun out ho H locs la hP hS hl => va_put F.1 F.2.1 F.2.2.2.2.1 hin ty0 hty hnm F.2.2.2.1 F.2.2.2.2.2.1 hP (F.2.2.2.2.2.2.1.1 u) hS q0 he hc k hk (F.2.2.2.2.1 _ hlink) (fun x h => by rw [← hr]; exact h) hfin hdt hn hfit hlen hd (fun H1 locs1 hP1 hD1 hS1 => kk out ho H1 locs1 la (by rw [← hset]; exact hP1) hS1 hl)
/-! arrays -/
theorem j_ld (F : FX X V cc nL own rt rm) (q0 t0 : Nat) {a : Nat} {cA : ClassId} {n : Nat} {j : Int32} {f : Int32 → Option α} (ha : (V.2.2.2.1 u)[q0]? = some (a, .inl (cA, n, .inl (u.1 q0)))) (ht : V.2.1[t0]? = some (cA, .int)) (hd : decode cc pc = .ok (.iaload, 1)) (kk : ∀ z : Int32, JJ X V nL Q (pc + 1) lv (.int z :: st) u (f z)) : JJ X V nL Q pc lv (.int j :: .ref a :: st) u (mo_ld u q0 n j f) := fun out ho H locs la hP hS hl => by
  unfold mo_ld at ho
  by_cases h : j < 0 ∨ n ≤ j.toNatClampNeg
  · rw [if_pos h] at ho; cases ho
  · rw [if_neg h] at ho
    exact va_iald F.1 F.2.1 F.2.2.2.2.2.1 hP q0 t0 ha ht h hd (kk _ out ho H locs la hP hS hl)
theorem j_ldz (F : FX X V cc nL own rt rm) (q0 t0 : Nat) {a : Nat} {cA : ClassId} {n : Nat} {j : Int32} {f : Int32 → Option α} (ha : (V.2.2.2.1 u)[q0]? = some (a, .inl (cA, n, .inl (u.1 q0)))) (ht : V.2.1[t0]? = some (cA, .boolean)) (hd : decode cc pc = .ok (.baload, 1)) (kk : ∀ z : Int32, JJ X V nL Q (pc + 1) lv (.int z :: st) u (f z)) : JJ X V nL Q pc lv (.int j :: .ref a :: st) u (mo_ld u q0 n j f) := fun out ho H locs la hP hS hl => by
  unfold mo_ld at ho
  by_cases h : j < 0 ∨ n ≤ j.toNatClampNeg
  · rw [if_pos h] at ho; cases ho
  · rw [if_neg h] at ho
    exact va_zald F.1 F.2.1 F.2.2.2.2.2.1 hP q0 t0 ha ht h hd (kk _ out ho H locs la hP hS hl)
theorem j_st (F : FX X V cc nL own rt rm) (q0 t0 : Nat) {a : Nat} {cA : ClassId} {n : Nat} {j v : Int32} {f : MM → Option α} (ha : (V.2.2.2.1 u)[q0]? = some (a, .inl (cA, n, .inl (u.1 q0)))) (ht : V.2.1[t0]? = some (cA, .int)) (hset : ∀ i : Nat, (V.2.2.2.1 u).set q0 (a, .inl (cA, n, .inl (upd (u.1 q0) i v))) = V.2.2.2.1 (mm_w u q0 i v)) (hd : decode cc pc = .ok (.iastore, 1)) (kk : ∀ u', JJ X V nL Q (pc + 1) lv st u' (f u')) : JJ X V nL Q pc lv (.int v :: .int j :: .ref a :: st) u (mo_st u q0 n j v f) := fun out ho H locs la hP hS hl => by
  unfold mo_st at ho
  by_cases h : j < 0 ∨ n ≤ j.toNatClampNeg
  · rw [if_pos h] at ho; cases ho
  · rw [if_neg h] at ho
    exact va_iast F.1 F.2.1 F.2.2.2.2.2.1 hP (F.2.2.2.2.2.2.1.1 u) hS q0 t0 ha ht h hd (fun H1 locs1 hP1 hD1 hS1 => kk _ out ho H1 locs1 la (by rw [← hset]; exact hP1) hS1 hl)
theorem j_stz (F : FX X V cc nL own rt rm) (q0 t0 : Nat) {a : Nat} {cA : ClassId} {n : Nat} {j v : Int32} {f : MM → Option α} (ha : (V.2.2.2.1 u)[q0]? = some (a, .inl (cA, n, .inl (u.1 q0)))) (ht : V.2.1[t0]? = some (cA, .boolean)) (hv : vp_nar .boolean v = v) (hset : ∀ i : Nat, (V.2.2.2.1 u).set q0 (a, .inl (cA, n, .inl (upd (u.1 q0) i v))) = V.2.2.2.1 (mm_w u q0 i v)) (hd : decode cc pc = .ok (.bastore, 1)) (kk : ∀ u', JJ X V nL Q (pc + 1) lv st u' (f u')) : JJ X V nL Q pc lv (.int v :: .int j :: .ref a :: st) u (mo_st u q0 n j v f) := fun out ho H locs la hP hS hl => by
  unfold mo_st at ho
  by_cases h : j < 0 ∨ n ≤ j.toNatClampNeg
  · rw [if_pos h] at ho; cases ho
  · rw [if_neg h] at ho
    exact va_zast F.1 F.2.1 F.2.2.2.2.2.1 hP (F.2.2.2.2.2.2.1.1 u) hS q0 t0 ha ht h hd (fun H1 locs1 hP1 hD1 hS1 => kk _ out ho H1 locs1 la (by rw [← hset]; rw [hv] at hP1; exact hP1) hS1 hl)
/-- a row of an array of arrays: the rows are the cells from b on -/
theorem j_la (F : FX X V cc nL own rt rm) (q0 t0 : Nat) {a : Nat} {cA : ClassId} {n : Nat} {g : Nat → Nat} {j : Int32} {f : Nat → Option α} (ha : (V.2.2.2.1 u)[q0]? = some (a, .inl (cA, n, .inr (.inr (.inr (.inr (fun i => some (g i)))))))) (ht : V.2.1[t0]? = some (cA, .array .int)) (hd : decode cc pc = .ok (.aaload, 1)) (kk : ∀ i : Nat, i < n → JJ X V nL Q (pc + 1) lv (.ref (g i) :: st) u (f i)) : JJ X V nL Q pc lv (.int j :: .ref a :: st) u (mo_la n j f) := fun out ho H locs la hP hS hl => by
  unfold mo_la at ho
  by_cases h : j < 0 ∨ n ≤ j.toNatClampNeg
  · rw [if_pos h] at ho; cases ho
  · rw [if_neg h] at ho
    have hlt : j.toNatClampNeg < n := Nat.not_le.mp fun q => h (Or.inr q)
    exact W.aald (v := .ref (g j.toNatClampNeg)) (ty := .array .int) F.1 F.2.1 (hP q0 _ ha) ((F.2.2.2.2.2.1.2 t0 _ ht).1 n (fun j => va_rf (some (g j)))) rfl (fun q => by cases q) (by show ¬ (j < 0 ∨ (arrV _ _ _).slots.size ≤ _); rw [arrV_size]; exact h) (by show (arrV _ _ _).slots[_]? = _; rw [arrV_read _ _ hlt]; rfl) rfl rfl hd (kk _ hlt out ho H locs la hP hS hl)
/-! Math, arraycopy -/
theorem j_abs (F : FX X V cc nL own rt rm) {index : Nat} (hw : Cond.methodLink own index Lib.Math.abs.name ∈ TB ∧ Cond.static Lib.Math.abs.name ∈ TB ∧ Cond.initialized "java/lang/Math" ∈ TB ∧ Cond.code Lib.Math.abs.name Lib.Math.abs.code 1 (some .int) ∈ TB) (hR : 1 ≤ rm.frames ∧ (st.map fun v => v.category).sum + 13 ≤ rm.locals) {x : Int32} (hd : decode cc pc = .ok (.invokestatic index, 3)) (kk : JJ X V nL Q (pc + 3) lv (.int (mo_abs x) :: st) u o) : JJ X V nL Q pc lv (.int x :: st) u o := fun out ho H locs la hP hS hl => va_mabs F.1 F.2.1 (F.2.2.1.trans hl.1.symm) F.2.2.2.1 (F.2.2.2.2.1 _ hw.1) (F.2.2.2.2.1 _ hw.2.1) (F.2.2.2.2.1 _ hw.2.2.1) (F.2.2.2.2.1 _ hw.2.2.2) (by rw [F.2.2.2.2.2.2.2.2.2.2]; exact hR.1) (by rw [F.2.2.2.2.2.2.2.2.2.2]; exact hR.2) (Nat.zero_le _) (Nat.zero_le _) hd (kk out ho H locs la hP hS hl)
theorem j_min (F : FX X V cc nL own rt rm) {index : Nat} (hw : Cond.methodLink own index Lib.Math.min.name ∈ TB ∧ Cond.static Lib.Math.min.name ∈ TB ∧ Cond.initialized "java/lang/Math" ∈ TB ∧ Cond.code Lib.Math.min.name Lib.Math.min.code 2 (some .int) ∈ TB) (hR : 1 ≤ rm.frames ∧ (st.map fun v => v.category).sum + 13 ≤ rm.locals) {x y : Int32} (hd : decode cc pc = .ok (.invokestatic index, 3)) (kk : JJ X V nL Q (pc + 3) lv (.int (mo_min x y) :: st) u o) : JJ X V nL Q pc lv (.int y :: .int x :: st) u o := fun out ho H locs la hP hS hl => va_mmin F.1 F.2.1 (F.2.2.1.trans hl.1.symm) F.2.2.2.1 (F.2.2.2.2.1 _ hw.1) (F.2.2.2.2.1 _ hw.2.1) (F.2.2.2.2.1 _ hw.2.2.1) (F.2.2.2.2.1 _ hw.2.2.2) (by rw [F.2.2.2.2.2.2.2.2.2.2]; exact hR.1) (by rw [F.2.2.2.2.2.2.2.2.2.2]; exact hR.2) (Nat.zero_le _) (Nat.zero_le _) hd (kk out ho H locs la hP hS hl)
theorem j_absl (F : FX X V cc nL own rt rm) {index : Nat} (hw : Cond.methodLink own index Lib.MathLoose.abs_long.x ∈ TB ∧ Cond.static Lib.MathLoose.abs_long.x ∈ TB ∧ Cond.initialized "java/lang/Math" ∈ TB ∧ Cond.code Lib.MathLoose.abs_long.x Lib.MathLoose.abs_long.code 2 (some .long) ∈ TB) (hR : 1 ≤ rm.frames ∧ (st.map fun v => v.category).sum + 13 ≤ rm.locals) {x : Int64} (hd : decode cc pc = .ok (.invokestatic index, 3)) (kk : JJ X V nL Q (pc + 3) lv (.long (mo_absl x) :: st) u o) : JJ X V nL Q pc lv (.long x :: st) u o := fun out ho H locs la hP hS hl => va_mabs_long F.1 F.2.1 (F.2.2.1.trans hl.1.symm) F.2.2.2.1 (F.2.2.2.2.1 _ hw.1) (F.2.2.2.2.1 _ hw.2.1) (F.2.2.2.2.1 _ hw.2.2.1) (F.2.2.2.2.1 _ hw.2.2.2) (by rw [F.2.2.2.2.2.2.2.2.2.2]; exact hR.1) (by rw [F.2.2.2.2.2.2.2.2.2.2]; exact hR.2) (Nat.zero_le _) (Nat.zero_le _) hd (kk out ho H locs la hP hS hl)
theorem j_cp (F : FX X V cc nL own rt rm) {index : Nat} (hw : Cond.methodLink own index arraycopyName ∈ TB ∧ Cond.native arraycopyName ∈ TB ∧ Cond.static arraycopyName ∈ TB ∧ Cond.initialized "java/lang/System" ∈ TB) (hR : 1 ≤ rm.frames ∧ (st.map fun v => v.category).sum + (nativeFrameWords "java/lang/System" "arraycopy" 5 + 11) ≤ rm.locals) (q0 q1 t0 : Nat) {a0 a1 : Nat} {cA : ClassId} {n0 n1 : Nat} (ha0 : (V.2.2.2.1 u)[q0]? = some (a0, .inl (cA, n0, .inl (u.1 q0)))) (ha1 : (V.2.2.2.1 u)[q1]? = some (a1, .inl (cA, n1, .inl (u.1 q1)))) (ht : V.2.1[t0]? = some (cA, .int)) (hset : ∀ sp dp n : Nat, (V.2.2.2.1 u).set q1 (a1, .inl (cA, n1, .inl (va_cpy (u.1 q0) (u.1 q1) sp dp n))) = V.2.2.2.1 (mm_cp u q0 sp q1 dp n)) {sp dp n : Int32} {f : MM → Option α} (hd : decode cc pc = .ok (.invokestatic index, 3)) (kk : ∀ u', JJ X V nL Q (pc + 3) lv st u' (f u')) : JJ X V nL Q pc lv (.int n :: .int dp :: .ref a1 :: .int sp :: .ref a0 :: st) u (mo_cp u q0 n0 q1 n1 sp dp n f) := fun out ho H locs la hP hS hl => by
  unfold mo_cp at ho
  by_cases h : sp < 0 ∨ dp < 0 ∨ n < 0 ∨ n0 < sp.toNatClampNeg + n.toNatClampNeg ∨ n1 < dp.toNatClampNeg + n.toNatClampNeg
  · rw [if_pos h] at ho; cases ho
  · rw [if_neg h] at ho
    refine va_copyi F.1 F.2.1 (F.2.2.1.trans hl.1.symm) F.2.2.2.1 (F.2.2.2.2.1 _ hw.1) (F.2.2.2.2.1 _ hw.2.1) (F.2.2.2.2.1 _ hw.2.2.1) (F.2.2.2.2.1 _ hw.2.2.2) F.2.2.2.2.2.1 hP (F.2.2.2.2.2.2.1.1 u) hS q0 q1 t0 t0 (ty := .int) ha0 ha1 ht ht rfl (fun q => h (Or.inl q)) (fun q => h (Or.inr (Or.inl q))) (fun q => h (Or.inr (Or.inr (Or.inl q)))) (Nat.not_lt.mp fun q => h (Or.inr (Or.inr (Or.inr (Or.inl q))))) (Nat.not_lt.mp fun q => h (Or.inr (Or.inr (Or.inr (Or.inr q))))) (fun i _ => rfl) (by rw [F.2.2.2.2.2.2.2.2.2.2]; exact hR.1) (by rw [F.2.2.2.2.2.2.2.2.2.2]; exact hR.2) hd (fun H1 locs1 hP1 hD1 hS1 => kk _ out ho H1 locs1 la (by rw [← hset]; exact hP1) hS1 hl)
/-! calls -/
theorem pw_blind (hV : GV V) {av : List Value} : FrameBlind (va_Pc av (PW V u)) := fun a U g mk q => by
  obtain ⟨q0, qP, qK, qR⟩ := q
  exact ⟨q0, qP, va_K.moved (u := U) (U := U.calling g mk a) (Vm.Alike.refl U.vm) qK, hV.2.2.2 U (U.calling g mk a) _ rfl qR⟩
theorem pw_pre (F : FX X V cc nL own rt rm) {H : Heap} {locs : List Loc} (hP : va_P V.1 vwCl (V.2.2.2.1 u) H) (hS : va_S V.2.2.1 X.1.2.2.2.2.heap H locs) {av : List Value} (U : State) (hU : U.heap = H) (hW : X.1.2.2.2.2.WarmedH U.vm) : va_Pc av (PW V u) av.toArray U :=
  ⟨rfl, by rw [hU]; exact hP, va_K.moved hW.alike F.2.2.2.2.2.1, F.2.2.2.2.2.2.1.2.1 _ _ _ hW (by rw [hU]; exact F.2.2.2.2.2.2.1.2.2.1 _ _ _ hS.2.1 F.2.2.2.2.2.2.2.1)⟩
theorem j_rv (F : FX X V cc nL own rt rm) {q0 ci b : Nat} {fs : List Value} {q : vw_C} (hc : vwCl[ci]? = some q) (he : (V.2.2.2.1 u)[q0]? = some (b, .inr (ci, fs))) : ∀ (H : Heap) (locs : List Loc), va_P V.1 vwCl (V.2.2.2.1 u) H → va_S V.2.2.1 X.1.2.2.2.2.heap H locs → ∃ cell : Cell, H[b]? = some cell ∧ cell.vm.isStatics = false ∧ X.1.2.2.2.2.vm.findClass q.1 = some cell.cls := fun H locs hP hS => va_recv F.2.2.2.2.2.1 hP hc he
/-! statics, constant texts -/
theorem j_gs (F : FX X V cc nL own rt rm) {C n d ref : String} {v : Value} {index : Nat} (hZ : va_Z C n d v V.2.2.1 X.1.2.2.2.2 X.1.2.2.2.2.heap) (hlink : Cond.fieldLink own index ref n d ∈ TB) (hr : C = ref) (hd : decode cc pc = .ok (.getstatic index, 3)) (kk : JJ X V nL Q (pc + 3) lv (v :: st) u o) : JJ X V nL Q pc lv st u o := fun out ho H locs la hP hS hl => va_gets F.1 F.2.1 hZ hS F.2.2.2.1 (F.2.2.2.2.1 _ hlink) (fun x h => by rw [← hr]; exact h) hd (kk out ho H locs la hP hS hl)
theorem j_ti (F : FX X V cc nL own rt rm) {t : Nat} {tb : List Int32} {N : Nat} {j : Int32} {f : Int32 → Option α} (hT : va_T .int t N (fun j => .int (tb.getD j 0)) V.2.2.1 X.1.2.2.2.2 X.1.2.2.2.2.heap) (hN : tb.length = N) (hd : decode cc pc = .ok (.iaload, 1)) (kk : ∀ z : Int32, JJ X V nL Q (pc + 1) lv (.int z :: st) u (f z)) : JJ X V nL Q pc lv (.int j :: .ref t :: st) u (mo_tb tb j f) := fun out ho H locs la hP hS hl => by
  unfold mo_tb at ho
  by_cases h : j < 0 ∨ tb.length ≤ j.toNatClampNeg
  · rw [if_pos h] at ho; cases ho
  · rw [if_neg h] at ho
    exact va_ti F.1 F.2.1 hT hS (by rw [hN] at h; exact h) rfl hd (kk _ out ho H locs la hP hS hl)
theorem j_tbb (F : FX X V cc nL own rt rm) {t : Nat} {tb : List Int32} {N : Nat} {j : Int32} {f : Int32 → Option α} (hT : va_T .byte t N (fun j => .int (tb.getD j 0)) V.2.2.1 X.1.2.2.2.2 X.1.2.2.2.2.heap) (hN : tb.length = N) (hd : decode cc pc = .ok (.baload, 1)) (kk : ∀ z : Int32, JJ X V nL Q (pc + 1) lv (.int z :: st) u (f z)) : JJ X V nL Q pc lv (.int j :: .ref t :: st) u (mo_tb tb j f) := fun out ho H locs la hP hS hl => by
  unfold mo_tb at ho
  by_cases h : j < 0 ∨ tb.length ≤ j.toNatClampNeg
  · rw [if_pos h] at ho; cases ho
  · rw [if_neg h] at ho
    exact va_tb F.1 F.2.1 hT hS (by rw [hN] at h; exact h) rfl hd (kk _ out ho H locs la hP hS hl)
theorem j_sf (F : FX X V cc nL own rt rm) {C n d ref : String} {v : Value} {q index : Nat} (hE : va_OF C n d v q V.2.2.1 X.1.2.2.2.2 X.1.2.2.2.2.heap) (hlink : Cond.fieldLink own index ref n d ∈ TB) (hr : C = ref) (hd : decode cc pc = .ok (.getfield index, 3)) (kk : JJ X V nL Q (pc + 3) lv (v :: st) u o) : JJ X V nL Q pc lv (.ref q :: st) u o := fun out ho H locs la hP hS hl => vk_getf F.1 F.2.1 hE hS F.2.2.2.1 (F.2.2.2.2.1 _ hlink) (fun x h => by rw [← hr]; exact h) hd (kk out ho H locs la hP hS hl)
theorem j_ldcS (F : FX X V cc nL own rt rm) {tx : String} {q index : Nat} (hZ : vk_R own index tx q X.1.2.2.2.2) (hd : decode cc pc = .ok (.ldc index, 2)) (kk : JJ X V nL Q (pc + 2) lv (.ref q :: st) u o) : JJ X V nL Q pc lv st u o := fun out ho H locs la hP hS hl => va_ldcS F.1 F.2.1 F.2.2.2.1 hZ hd (kk out ho H locs la hP hS hl)
theorem j_alen (F : FX X V cc nL own rt rm) (q0 t0 : Nat) {a : Nat} {cA : ClassId} {x : vp_A} {ty : FieldType} {v : Int32} (ha : (V.2.2.2.1 u)[q0]? = some (a, .inl (cA, x))) (ht : V.2.1[t0]? = some (cA, ty)) (hv : Int32.ofNat x.1 = v) (hd : decode cc pc = .ok (.arraylength, 1)) (kk : JJ X V nL Q (pc + 1) lv (.int v :: st) u o) : JJ X V nL Q pc lv (.ref a :: st) u o := fun out ho H locs la hP hS hl => va_alen F.1 F.2.1 F.2.2.2.2.2.1 hP q0 t0 ha ht hv hd (kk out ho H locs la hP hS hl)
theorem j_tlen (F : FX X V cc nL own rt rm) {ty : FieldType} {t N : Nat} {g : Nat → Value} {v : Int32} (hT : va_T ty t N g V.2.2.1 X.1.2.2.2.2 X.1.2.2.2.2.heap) (hv : Int32.ofNat N = v) (hd : decode cc pc = .ok (.arraylength, 1)) (kk : JJ X V nL Q (pc + 1) lv (.int v :: st) u o) : JJ X V nL Q pc lv (.ref t :: st) u o := fun out ho H locs la hP hS hl => va_tlen F.1 F.2.1 hT hS hv hd (kk out ho H locs la hP hS hl)
theorem j_max (F : FX X V cc nL own rt rm) {index : Nat} (hw : Cond.methodLink own index Lib.Math.max.name ∈ TB ∧ Cond.static Lib.Math.max.name ∈ TB ∧ Cond.initialized "java/lang/Math" ∈ TB ∧ Cond.code Lib.Math.max.name Lib.Math.max.code 2 (some .int) ∈ TB) (hR : 1 ≤ rm.frames ∧ (st.map fun v => v.category).sum + 13 ≤ rm.locals) {x y : Int32} (hd : decode cc pc = .ok (.invokestatic index, 3)) (kk : JJ X V nL Q (pc + 3) lv (.int (mo_max x y) :: st) u o) : JJ X V nL Q pc lv (.int y :: .int x :: st) u o := fun out ho H locs la hP hS hl => va_mmax F.1 F.2.1 (F.2.2.1.trans hl.1.symm) F.2.2.2.1 (F.2.2.2.2.1 _ hw.1) (F.2.2.2.2.1 _ hw.2.1) (F.2.2.2.2.1 _ hw.2.2.1) (F.2.2.2.2.1 _ hw.2.2.2) (by rw [F.2.2.2.2.2.2.2.2.2.2]; exact hR.1) (by rw [F.2.2.2.2.2.2.2.2.2.2]; exact hR.2) (Nat.zero_le _) (Nat.zero_le _) hd (kk out ho H locs la hP hS hl)
/-- the words of a virtual call -/
def KV (own : String) (index : Nat) (C : String) (y : MethodName) (bytes : ByteArray) (maxL : Nat) (ry : Option FieldType) (n : Nat) : Prop := Cond.methodLink own index y ∈ TB ∧ Cond.instanceMethod y ∈ TB ∧ Cond.selects C y y ∈ TB ∧ Cond.initialized y.cls ∈ TB ∧ Cond.code y bytes maxL ry ∈ TB ∧ (y.cls ≠ "java/lang/invoke/MethodHandle" ∧ y.cls ≠ "java/lang/invoke/VarHandle" ∧ (parseMethodDescriptor y.desc).map (fun d => d.parameters.length) = some n)
def KS (own : String) (index : Nat) (y : MethodName) (bytes : ByteArray) (maxL : Nat) (ry : Option FieldType) (n : Nat) : Prop := Cond.methodLink own index y ∈ TB ∧ Cond.static y ∈ TB ∧ Cond.initialized y.cls ∈ TB ∧ Cond.code y bytes maxL ry ∈ TB ∧ (y.cls ≠ "java/lang/invoke/MethodHandle" ∧ y.cls ≠ "java/lang/invoke/VarHandle" ∧ (parseMethodDescriptor y.desc).map (fun d => d.parameters.length) = some n)
def KN (y : MethodName) (bytes : ByteArray) (maxL : Nat) (ry : Option FieldType) (n : Nat) : Prop := Cond.static y ∈ TB ∧ Cond.initialized y.cls ∈ TB ∧ Cond.code y bytes maxL ry ∈ TB ∧ (y.cls ≠ "java/lang/invoke/MethodHandle" ∧ y.cls ≠ "java/lang/invoke/VarHandle" ∧ (parseMethodDescriptor y.desc).map (fun d => d.parameters.length) = some n)
theorem j_calliV (F : FX X V cc nL own rt rm) {y : MethodName} {bytes : ByteArray} {maxL index n : Nat} {ry : Option FieldType} {rmy : Room} {C : String} {b : Nat} {st0 : List Value} {oc : Option (Int32 × MM)} {f : Int32 → MM → Option α} (hw : KV own index C y bytes maxL ry n) (As : List Value) (hM : CI V y bytes maxL ry rmy (.ref b :: As) u oc) (hR : rmy.cells = 0 ∧ rmy.slots = 0 ∧ rmy.frames + 1 ≤ rm.frames ∧ 8 + (maxL + 11) + rmy.locals ≤ rm.locals) (hrv : ∀ (H : Heap) (locs : List Loc), va_P V.1 vwCl (V.2.2.2.1 u) H → va_S V.2.2.1 X.1.2.2.2.2.heap H locs → ∃ cell : Cell, H[b]? = some cell ∧ cell.vm.isStatics = false ∧ X.1.2.2.2.2.vm.findClass C = some cell.cls) (hn : As.length = n) (hst : st0 = As.reverse ++ .ref b :: st) (hw8 : (st.map fun v => v.category).sum ≤ 8) (hd : decode cc pc = .ok (.invokevirtual index, 3)) (kk : ∀ (r : Int32) (u2 : MM), JJ X V nL Q (pc + 3) lv (.int r :: st) u2 (f r u2)) : JJ X V nL Q pc lv st0 u (mo_ci oc f) := fun out ho H locs la hP hS hl => by
  cases oc with
  | none => cases ho
  | some x =>
    refine va_calli (va_runV (As := As) (rest := st) (Ts := TB) (n := n) (C := C) ⟨F.1, F.2.1, F.2.2.1, F.2.2.2.1, F.2.2.2.2.1⟩ (hM _ x rfl) ⟨callB_of n F.2.2.2.2.1 (tb_gd hw.2.2.2.2.1) rfl hR.1 hR.2.1 (F.2.2.2.2.1 _ hw.2.2.2.1) (F.2.2.2.2.1 _ hw.1) hw.2.2.2.2.2 (by rw [F.2.2.2.2.2.2.2.2.2.2]; exact hR.2.2), F.2.2.2.2.1 _ hw.2.1, F.2.2.2.2.1 _ hw.2.2.1⟩ ⟨pw_blind F.2.2.2.2.2.2.1, hrv H locs hP hS, pw_pre F hP hS⟩ rfl hn hl.1 hst (lv_room hw8) hd ⟨Nat.zero_le _, Nat.zero_le _⟩) hS (fun q _ h => h) (fun q h => h) (fun r u2 t H1 locs1 ht hvm hp hB hz hk hS1 => ?_)
    obtain ⟨rfl, rfl⟩ := hp
    exact kk _ _ out ho H1 locs1 la (by rw [← ht]; exact hB) hS1 hl
theorem j_calliS (F : FX X V cc nL own rt rm) {y : MethodName} {bytes : ByteArray} {maxL index n : Nat} {ry : Option FieldType} {rmy : Room} {st0 : List Value} {oc : Option (Int32 × MM)} {f : Int32 → MM → Option α} (hw : KS own index y bytes maxL ry n) (As : List Value) (hM : CI V y bytes maxL ry rmy As u oc) (hR : rmy.cells = 0 ∧ rmy.slots = 0 ∧ rmy.frames + 1 ≤ rm.frames ∧ 8 + (maxL + 11) + rmy.locals ≤ rm.locals) (hn : As.length = n) (hst : st0 = As.reverse ++ st) (hw8 : (st.map fun v => v.category).sum ≤ 8) (hd : decode cc pc = .ok (.invokestatic index, 3)) (kk : ∀ (r : Int32) (u2 : MM), JJ X V nL Q (pc + 3) lv (.int r :: st) u2 (f r u2)) : JJ X V nL Q pc lv st0 u (mo_ci oc f) := fun out ho H locs la hP hS hl => by
  cases oc with
  | none => cases ho
  | some x =>
    refine va_calli (va_runS (As := As) (rest := st) (Ts := TB) (n := n) ⟨F.1, F.2.1, F.2.2.1, F.2.2.2.1, F.2.2.2.2.1⟩ (hM _ x rfl) ⟨callB_of n F.2.2.2.2.1 (tb_gd hw.2.2.2.1) rfl hR.1 hR.2.1 (F.2.2.2.2.1 _ hw.2.2.1) (F.2.2.2.2.1 _ hw.1) hw.2.2.2.2 (by rw [F.2.2.2.2.2.2.2.2.2.2]; exact hR.2.2), F.2.2.2.2.1 _ hw.2.1⟩ ⟨pw_blind F.2.2.2.2.2.2.1, pw_pre F hP hS⟩ rfl hn hl.1 hst (lv_room hw8) hd ⟨Nat.zero_le _, Nat.zero_le _⟩) hS (fun q _ h => h) (fun q h => h) (fun r u2 t H1 locs1 ht hvm hp hB hz hk hS1 => ?_)
    obtain ⟨rfl, rfl⟩ := hp
    exact kk _ _ out ho H1 locs1 la (by rw [← ht]; exact hB) hS1 hl
theorem j_calliN (F : FX X V cc nL own rt rm) {y : MethodName} {bytes : ByteArray} {maxL index n : Nat} {ry : Option FieldType} {rmy : Room} {host : String} {st0 : List Value} {oc : Option (Int32 × MM)} {f : Int32 → MM → Option α} (hw : KN y bytes maxL ry n) (hnw : va_Nw (.methodLinkNest own index y host) X.1.2.2.2.2) (As : List Value) (hM : CI V y bytes maxL ry rmy As u oc) (hR : rmy.cells = 0 ∧ rmy.slots = 0 ∧ rmy.frames + 1 ≤ rm.frames ∧ 8 + (maxL + 11) + rmy.locals ≤ rm.locals) (hn : As.length = n) (hst : st0 = As.reverse ++ st) (hw8 : (st.map fun v => v.category).sum ≤ 8) (hd : decode cc pc = .ok (.invokestatic index, 3)) (kk : ∀ (r : Int32) (u2 : MM), JJ X V nL Q (pc + 3) lv (.int r :: st) u2 (f r u2)) : JJ X V nL Q pc lv st0 u (mo_ci oc f) := fun out ho H locs la hP hS hl => by
  cases oc with
  | none => cases ho
  | some x =>
    refine va_calli (va_runSN (As := As) (rest := st) (Ts := TB) (n := n) ⟨F.1, F.2.1, F.2.2.1, F.2.2.2.1, F.2.2.2.2.1⟩ (hM _ x rfl) ⟨va_cnB n F.2.2.2.2.1 (tb_gd hw.2.2.1) rfl hR.1 hR.2.1 hnw (F.2.2.2.2.1 _ hw.2.1) hw.2.2.2 (by rw [F.2.2.2.2.2.2.2.2.2.2]; exact hR.2.2), F.2.2.2.2.1 _ hw.1, trivial⟩ ⟨pw_blind F.2.2.2.2.2.2.1, pw_pre F hP hS⟩ rfl hn hl.1 hst (lv_room hw8) hd ⟨Nat.zero_le _, Nat.zero_le _⟩) hS (fun q _ h => h) (fun q h => h) (fun r u2 t H1 locs1 ht hvm hp hB hz hk hS1 => ?_)
    obtain ⟨rfl, rfl⟩ := hp
    exact kk _ _ out ho H1 locs1 la (by rw [← ht]; exact hB) hS1 hl
theorem j_calllV (F : FX X V cc nL own rt rm) {y : MethodName} {bytes : ByteArray} {maxL index n : Nat} {ry : Option FieldType} {rmy : Room} {C : String} {b : Nat} {st0 : List Value} {oc : Option (Int64 × MM)} {f : Int64 → MM → Option α} (hw : KV own index C y bytes maxL ry n) (As : List Value) (hM : CL V y bytes maxL ry rmy (.ref b :: As) u oc) (hR : rmy.cells = 0 ∧ rmy.slots = 0 ∧ rmy.frames + 1 ≤ rm.frames ∧ 8 + (maxL + 11) + rmy.locals ≤ rm.locals) (hrv : ∀ (H : Heap) (locs : List Loc), va_P V.1 vwCl (V.2.2.2.1 u) H → va_S V.2.2.1 X.1.2.2.2.2.heap H locs → ∃ cell : Cell, H[b]? = some cell ∧ cell.vm.isStatics = false ∧ X.1.2.2.2.2.vm.findClass C = some cell.cls) (hn : As.length = n) (hst : st0 = As.reverse ++ .ref b :: st) (hw8 : (st.map fun v => v.category).sum ≤ 8) (hd : decode cc pc = .ok (.invokevirtual index, 3)) (kk : ∀ (r : Int64) (u2 : MM), JJ X V nL Q (pc + 3) lv (.long r :: st) u2 (f r u2)) : JJ X V nL Q pc lv st0 u (mo_cl oc f) := fun out ho H locs la hP hS hl => by
  cases oc with
  | none => cases ho
  | some x =>
    refine va_calll (va_runV (As := As) (rest := st) (Ts := TB) (n := n) (C := C) ⟨F.1, F.2.1, F.2.2.1, F.2.2.2.1, F.2.2.2.2.1⟩ (hM _ x rfl) ⟨callB_of n F.2.2.2.2.1 (tb_gd hw.2.2.2.2.1) rfl hR.1 hR.2.1 (F.2.2.2.2.1 _ hw.2.2.2.1) (F.2.2.2.2.1 _ hw.1) hw.2.2.2.2.2 (by rw [F.2.2.2.2.2.2.2.2.2.2]; exact hR.2.2), F.2.2.2.2.1 _ hw.2.1, F.2.2.2.2.1 _ hw.2.2.1⟩ ⟨pw_blind F.2.2.2.2.2.2.1, hrv H locs hP hS, pw_pre F hP hS⟩ rfl hn hl.1 hst (lv_room hw8) hd ⟨Nat.zero_le _, Nat.zero_le _⟩) hS (fun q _ h => h) (fun q h => h) (fun r u2 t H1 locs1 ht hvm hp hB hz hk hS1 => ?_)
    obtain ⟨rfl, rfl⟩ := hp
    exact kk _ _ out ho H1 locs1 la (by rw [← ht]; exact hB) hS1 hl
theorem j_calllS (F : FX X V cc nL own rt rm) {y : MethodName} {bytes : ByteArray} {maxL index n : Nat} {ry : Option FieldType} {rmy : Room} {st0 : List Value} {oc : Option (Int64 × MM)} {f : Int64 → MM → Option α} (hw : KS own index y bytes maxL ry n) (As : List Value) (hM : CL V y bytes maxL ry rmy As u oc) (hR : rmy.cells = 0 ∧ rmy.slots = 0 ∧ rmy.frames + 1 ≤ rm.frames ∧ 8 + (maxL + 11) + rmy.locals ≤ rm.locals) (hn : As.length = n) (hst : st0 = As.reverse ++ st) (hw8 : (st.map fun v => v.category).sum ≤ 8) (hd : decode cc pc = .ok (.invokestatic index, 3)) (kk : ∀ (r : Int64) (u2 : MM), JJ X V nL Q (pc + 3) lv (.long r :: st) u2 (f r u2)) : JJ X V nL Q pc lv st0 u (mo_cl oc f) := fun out ho H locs la hP hS hl => by
  cases oc with
  | none => cases ho
  | some x =>
    refine va_calll (va_runS (As := As) (rest := st) (Ts := TB) (n := n) ⟨F.1, F.2.1, F.2.2.1, F.2.2.2.1, F.2.2.2.2.1⟩ (hM _ x rfl) ⟨callB_of n F.2.2.2.2.1 (tb_gd hw.2.2.2.1) rfl hR.1 hR.2.1 (F.2.2.2.2.1 _ hw.2.2.1) (F.2.2.2.2.1 _ hw.1) hw.2.2.2.2 (by rw [F.2.2.2.2.2.2.2.2.2.2]; exact hR.2.2), F.2.2.2.2.1 _ hw.2.1⟩ ⟨pw_blind F.2.2.2.2.2.2.1, pw_pre F hP hS⟩ rfl hn hl.1 hst (lv_room hw8) hd ⟨Nat.zero_le _, Nat.zero_le _⟩) hS (fun q _ h => h) (fun q h => h) (fun r u2 t H1 locs1 ht hvm hp hB hz hk hS1 => ?_)
    obtain ⟨rfl, rfl⟩ := hp
    exact kk _ _ out ho H1 locs1 la (by rw [← ht]; exact hB) hS1 hl
theorem j_calllN (F : FX X V cc nL own rt rm) {y : MethodName} {bytes : ByteArray} {maxL index n : Nat} {ry : Option FieldType} {rmy : Room} {host : String} {st0 : List Value} {oc : Option (Int64 × MM)} {f : Int64 → MM → Option α} (hw : KN y bytes maxL ry n) (hnw : va_Nw (.methodLinkNest own index y host) X.1.2.2.2.2) (As : List Value) (hM : CL V y bytes maxL ry rmy As u oc) (hR : rmy.cells = 0 ∧ rmy.slots = 0 ∧ rmy.frames + 1 ≤ rm.frames ∧ 8 + (maxL + 11) + rmy.locals ≤ rm.locals) (hn : As.length = n) (hst : st0 = As.reverse ++ st) (hw8 : (st.map fun v => v.category).sum ≤ 8) (hd : decode cc pc = .ok (.invokestatic index, 3)) (kk : ∀ (r : Int64) (u2 : MM), JJ X V nL Q (pc + 3) lv (.long r :: st) u2 (f r u2)) : JJ X V nL Q pc lv st0 u (mo_cl oc f) := fun out ho H locs la hP hS hl => by
  cases oc with
  | none => cases ho
  | some x =>
    refine va_calll (va_runSN (As := As) (rest := st) (Ts := TB) (n := n) ⟨F.1, F.2.1, F.2.2.1, F.2.2.2.1, F.2.2.2.2.1⟩ (hM _ x rfl) ⟨va_cnB n F.2.2.2.2.1 (tb_gd hw.2.2.1) rfl hR.1 hR.2.1 hnw (F.2.2.2.2.1 _ hw.2.1) hw.2.2.2 (by rw [F.2.2.2.2.2.2.2.2.2.2]; exact hR.2.2), F.2.2.2.2.1 _ hw.1, trivial⟩ ⟨pw_blind F.2.2.2.2.2.2.1, pw_pre F hP hS⟩ rfl hn hl.1 hst (lv_room hw8) hd ⟨Nat.zero_le _, Nat.zero_le _⟩) hS (fun q _ h => h) (fun q h => h) (fun r u2 t H1 locs1 ht hvm hp hB hz hk hS1 => ?_)
    obtain ⟨rfl, rfl⟩ := hp
    exact kk _ _ out ho H1 locs1 la (by rw [← ht]; exact hB) hS1 hl
theorem j_callvV (F : FX X V cc nL own rt rm) {y : MethodName} {bytes : ByteArray} {maxL index n : Nat} {ry : Option FieldType} {rmy : Room} {C : String} {b : Nat} {st0 : List Value} {oc : Option MM} {f : MM → Option α} (hw : KV own index C y bytes maxL ry n) (As : List Value) (hM : CV V y bytes maxL ry rmy (.ref b :: As) u oc) (hR : rmy.cells = 0 ∧ rmy.slots = 0 ∧ rmy.frames + 1 ≤ rm.frames ∧ 8 + (maxL + 11) + rmy.locals ≤ rm.locals) (hrv : ∀ (H : Heap) (locs : List Loc), va_P V.1 vwCl (V.2.2.2.1 u) H → va_S V.2.2.1 X.1.2.2.2.2.heap H locs → ∃ cell : Cell, H[b]? = some cell ∧ cell.vm.isStatics = false ∧ X.1.2.2.2.2.vm.findClass C = some cell.cls) (hn : As.length = n) (hst : st0 = As.reverse ++ .ref b :: st) (hw8 : (st.map fun v => v.category).sum ≤ 8) (hd : decode cc pc = .ok (.invokevirtual index, 3)) (kk : ∀ u2 : MM, JJ X V nL Q (pc + 3) lv (st) u2 (f u2)) : JJ X V nL Q pc lv st0 u (mo_cv oc f) := fun out ho H locs la hP hS hl => by
  cases oc with
  | none => cases ho
  | some x =>
    refine va_callv (va_runV (As := As) (rest := st) (Ts := TB) (n := n) (C := C) ⟨F.1, F.2.1, F.2.2.1, F.2.2.2.1, F.2.2.2.2.1⟩ (hM _ x rfl) ⟨callB_of n F.2.2.2.2.1 (tb_gd hw.2.2.2.2.1) rfl hR.1 hR.2.1 (F.2.2.2.2.1 _ hw.2.2.2.1) (F.2.2.2.2.1 _ hw.1) hw.2.2.2.2.2 (by rw [F.2.2.2.2.2.2.2.2.2.2]; exact hR.2.2), F.2.2.2.2.1 _ hw.2.1, F.2.2.2.2.1 _ hw.2.2.1⟩ ⟨pw_blind F.2.2.2.2.2.2.1, hrv H locs hP hS, pw_pre F hP hS⟩ rfl hn hl.1 hst (lv_room hw8) hd ⟨Nat.zero_le _, Nat.zero_le _⟩) hS (fun q _ h => h) (fun q h => h) (fun u2 t H1 locs1 ht hvm hp hB hz hk hS1 => ?_)
    subst hp
    exact kk _ out ho H1 locs1 la (by rw [← ht]; exact hB) hS1 hl
theorem j_callvS (F : FX X V cc nL own rt rm) {y : MethodName} {bytes : ByteArray} {maxL index n : Nat} {ry : Option FieldType} {rmy : Room} {st0 : List Value} {oc : Option MM} {f : MM → Option α} (hw : KS own index y bytes maxL ry n) (As : List Value) (hM : CV V y bytes maxL ry rmy As u oc) (hR : rmy.cells = 0 ∧ rmy.slots = 0 ∧ rmy.frames + 1 ≤ rm.frames ∧ 8 + (maxL + 11) + rmy.locals ≤ rm.locals) (hn : As.length = n) (hst : st0 = As.reverse ++ st) (hw8 : (st.map fun v => v.category).sum ≤ 8) (hd : decode cc pc = .ok (.invokestatic index, 3)) (kk : ∀ u2 : MM, JJ X V nL Q (pc + 3) lv (st) u2 (f u2)) : JJ X V nL Q pc lv st0 u (mo_cv oc f) := fun out ho H locs la hP hS hl => by
  cases oc with
  | none => cases ho
  | some x =>
    refine va_callv (va_runS (As := As) (rest := st) (Ts := TB) (n := n) ⟨F.1, F.2.1, F.2.2.1, F.2.2.2.1, F.2.2.2.2.1⟩ (hM _ x rfl) ⟨callB_of n F.2.2.2.2.1 (tb_gd hw.2.2.2.1) rfl hR.1 hR.2.1 (F.2.2.2.2.1 _ hw.2.2.1) (F.2.2.2.2.1 _ hw.1) hw.2.2.2.2 (by rw [F.2.2.2.2.2.2.2.2.2.2]; exact hR.2.2), F.2.2.2.2.1 _ hw.2.1⟩ ⟨pw_blind F.2.2.2.2.2.2.1, pw_pre F hP hS⟩ rfl hn hl.1 hst (lv_room hw8) hd ⟨Nat.zero_le _, Nat.zero_le _⟩) hS (fun q _ h => h) (fun q h => h) (fun u2 t H1 locs1 ht hvm hp hB hz hk hS1 => ?_)
    subst hp
    exact kk _ out ho H1 locs1 la (by rw [← ht]; exact hB) hS1 hl
theorem j_callvN (F : FX X V cc nL own rt rm) {y : MethodName} {bytes : ByteArray} {maxL index n : Nat} {ry : Option FieldType} {rmy : Room} {host : String} {st0 : List Value} {oc : Option MM} {f : MM → Option α} (hw : KN y bytes maxL ry n) (hnw : va_Nw (.methodLinkNest own index y host) X.1.2.2.2.2) (As : List Value) (hM : CV V y bytes maxL ry rmy As u oc) (hR : rmy.cells = 0 ∧ rmy.slots = 0 ∧ rmy.frames + 1 ≤ rm.frames ∧ 8 + (maxL + 11) + rmy.locals ≤ rm.locals) (hn : As.length = n) (hst : st0 = As.reverse ++ st) (hw8 : (st.map fun v => v.category).sum ≤ 8) (hd : decode cc pc = .ok (.invokestatic index, 3)) (kk : ∀ u2 : MM, JJ X V nL Q (pc + 3) lv (st) u2 (f u2)) : JJ X V nL Q pc lv st0 u (mo_cv oc f) := fun out ho H locs la hP hS hl => by
  cases oc with
  | none => cases ho
  | some x =>
    refine va_callv (va_runSN (As := As) (rest := st) (Ts := TB) (n := n) ⟨F.1, F.2.1, F.2.2.1, F.2.2.2.1, F.2.2.2.2.1⟩ (hM _ x rfl) ⟨va_cnB n F.2.2.2.2.1 (tb_gd hw.2.2.1) rfl hR.1 hR.2.1 hnw (F.2.2.2.2.1 _ hw.2.1) hw.2.2.2 (by rw [F.2.2.2.2.2.2.2.2.2.2]; exact hR.2.2), F.2.2.2.2.1 _ hw.1, trivial⟩ ⟨pw_blind F.2.2.2.2.2.2.1, pw_pre F hP hS⟩ rfl hn hl.1 hst (lv_room hw8) hd ⟨Nat.zero_le _, Nat.zero_le _⟩) hS (fun q _ h => h) (fun q h => h) (fun u2 t H1 locs1 ht hvm hp hB hz hk hS1 => ?_)
    subst hp
    exact kk _ out ho H1 locs1 la (by rw [← ht]; exact hB) hS1 hl
end JR
end
section
/-! ===== the two worlds: the class's cells (C), the reference's (R) ===== -/
abbrev PC : Type := va_G × (ClassId × ClassId) × (Nat → Prop) × (Nat → Nat) × (Nat → Nat)
/-- links to methods of a nest mate -/
def nwC : List Cond := [Cond.methodLinkNest "OrchardWall" (18 : Nat) ({ cls := "OrchardWall$Reader", name := "<init>", desc := "()V" } : Jvm.MethodName) "OrchardWall", Cond.methodLinkNest "OrchardWall" (25 : Nat) ({ cls := "OrchardWall$Orchard", name := "<init>", desc := "()V" } : Jvm.MethodName) "OrchardWall", Cond.methodLinkNest "OrchardWall" (41 : Nat) ({ cls := "OrchardWall$Acts", name := "<init>", desc := "()V" } : Jvm.MethodName) "OrchardWall", Cond.methodLinkNest "OrchardWall" (57 : Nat) ({ cls := "OrchardWall$Book", name := "<init>", desc := "()V" } : Jvm.MethodName) "OrchardWall", Cond.methodLinkNest "OrchardWall" (64 : Nat) ({ cls := "OrchardWall$Days", name := "<init>", desc := "()V" } : Jvm.MethodName) "OrchardWall", Cond.methodLinkNest "OrchardWall$Orchard" (75 : Nat) ({ cls := "OrchardWall", name := "distance", desc := "(II)I" } : Jvm.MethodName) "OrchardWall", Cond.methodLinkNest "OrchardWall$Raid" (123 : Nat) ({ cls := "OrchardWall", name := "distance", desc := "(II)I" } : Jvm.MethodName) "OrchardWall", Cond.methodLinkNest "OrchardWall$Days" (40 : Nat) ({ cls := "OrchardWall", name := "commonPart", desc := "(JJ)J" } : Jvm.MethodName) "OrchardWall"]
def tKA : List Int32 := [-1, 0, 1, 1, 0, 4]
def tFS : List Int32 := [10, 11, 12, 11, 13, 14]
def tFM : List Int32 := [20, 21, 24, 22, 23, 23]
def tPQ : List Int32 := [112, 113, 115, 119, 107]
/-- what stays: nest links, the static arrays, the text of sorts -/
def roC (A : Nat → Prop) (T : Nat → Nat) (U : State) (H : Heap) : Prop :=
  (∀ w ∈ nwC, va_Nw w U) ∧ (va_Z "OrchardWall" "KIND_ABOVE" "[I" (.ref (T 0)) A U H ∧ va_T .int (T 0) 6 (fun j => .int (tKA.getD j 0)) A U H) ∧ (va_Z "OrchardWall" "FIRST_BODY_OF_SIZE" "[I" (.ref (T 1)) A U H ∧ va_T .int (T 1) 6 (fun j => .int (tFS.getD j 0)) A U H) ∧ (va_Z "OrchardWall" "FIRST_BODY_OF_MARK" "[I" (.ref (T 2)) A U H ∧ va_T .int (T 2) 6 (fun j => .int (tFM.getD j 0)) A U H) ∧
  vk_R "OrchardWall$Reader" 101 "pqswk" (T 3) U ∧ (va_O "java/lang/String" (T 3) A U H ∧ va_OF "java/lang/String" "coder" "B" (.int 0) (T 3) A U H ∧ va_OF "java/lang/String" "value" "[B" (.ref (T 4)) (T 3) A U H ∧ va_T .byte (T 4) 5 (fun j => .int (tPQ.getD j 0)) A U H) ∧ va_Z "java/lang/String" "COMPACT_STRINGS" "Z" (.int 1) A U H
theorem nwC_all {p : Cond → Prop} (h : ∀ (a : String) (i : Nat) (x : MethodName) (b : String), p (.methodLinkNest a i x b)) : ∀ w ∈ nwC, p w := by
  intro w hw
  simp only [nwC, List.mem_cons, List.not_mem_nil, or_false] at hw
  rcases hw with rfl | rfl | rfl | rfl | rfl | rfl | rfl | rfl <;> exact h _ _ _ _
theorem roC_warm {A : Nat → Prop} {T : Nat → Nat} (s U : State) (H : Heap) (hW : s.WarmedH U.vm) (h : roC A T s H) : roC A T U H := by
  obtain ⟨h1, ⟨a1, a2⟩, ⟨b1, b2⟩, ⟨c1, c2⟩, d, ⟨e1, e2, e3, e4⟩, f⟩ := h
  have g : ∀ w ∈ nwC, va_Nw w s → va_Nw w U := nwC_all (p := fun w => va_Nw w s → va_Nw w U) (fun a i x b => va_Nw.warmM hW)
  exact ⟨fun w hw => g w hw (h1 w hw), ⟨a1.moved hW.alike, a2.moved hW.alike⟩, ⟨b1.moved hW.alike, b2.moved hW.alike⟩, ⟨c1.moved hW.alike, c2.moved hW.alike⟩, d.warm hW, ⟨e1.moved hW.alike, e2.moved hW.alike, e3.moved hW.alike, e4.moved hW.alike⟩, f.moved hW.alike⟩
theorem roC_kept {A : Nat → Prop} {T : Nat → Nat} (U : State) (H H1 : Heap) (hq : ∀ a : Nat, a < H.size → ¬ A a → H1[a]? = H[a]?) (h : roC A T U H) : roC A T U H1 := by
  obtain ⟨h1, ⟨a1, a2⟩, ⟨b1, b2⟩, ⟨c1, c2⟩, d, ⟨e1, e2, e3, e4⟩, f⟩ := h
  exact ⟨h1, ⟨a1.kept hq, a2.kept hq⟩, ⟨b1.kept hq, b2.kept hq⟩, ⟨c1.kept hq, c2.kept hq⟩, d, ⟨e1.kept hq, e2.kept hq, e3.kept hq, e4.kept hq⟩, f.kept hq⟩
theorem roC_same {A : Nat → Prop} {T : Nat → Nat} (U U' : State) (H : Heap) (hv : U.vm = U'.vm) (h : roC A T U H) : roC A T U' H := by
  obtain ⟨h1, ⟨a1, a2⟩, ⟨b1, b2⟩, ⟨c1, c2⟩, d, ⟨e1, e2, e3, e4⟩, f⟩ := h
  have ha : U.vm.Alike U'.vm := by rw [← hv]; exact Vm.Alike.refl _
  have g : ∀ w ∈ nwC, va_Nw w U → va_Nw w U' := nwC_all (p := fun w => va_Nw w U → va_Nw w U') (fun a i x b => va_Nw.same rfl hv)
  exact ⟨fun w hw => g w hw (h1 w hw), ⟨a1.moved ha, a2.moved ha⟩, ⟨b1.moved ha, b2.moved ha⟩, ⟨c1.moved ha, c2.moved ha⟩, d.same hv.symm, ⟨e1.moved ha, e2.moved ha, e3.moved ha, e4.moved ha⟩, f.moved ha⟩
theorem va_D_map {A : Nat → Prop} {B : Nat → Nat} {e : Nat → va_E} {n : Nat} (hi : ∀ i j, i < n → j < n → B i = B j → i = j) (hA : ∀ i, i < n → A (B i)) : va_D A ((List.range n).map (fun k => (B k, e k))) := by
  have key : ∀ (i : Nat) (p : Nat × va_E), ((List.range n).map (fun k => (B k, e k)))[i]? = some p → i < n ∧ p = (B i, e i) := by
    intro i p h
    have hl : i < ((List.range n).map (fun k => (B k, e k))).length := (List.getElem?_eq_some_iff.mp h).1
    rw [List.length_map, List.length_range] at hl
    rw [List.getElem?_map, List.getElem?_range hl] at h
    exact ⟨hl, (Option.some.inj h).symm⟩
  refine ⟨fun i j p q h1 h2 h3 => ?_, fun k q h => ?_⟩
  · obtain ⟨a1, rfl⟩ := key i p h1
    obtain ⟨b1, rfl⟩ := key j q h2
    exact hi i j a1 b1 h3
  · obtain ⟨a1, rfl⟩ := key k q h
    exact hA k a1
def lnC (k : Nat) : Nat := ([8, 8, 120, 4, 16, 16, 16, 6, 6, 4, 4, 4, 4, 4, 4, 4, 4, 4, 24, 6, 6, 4, 4, 24, 24, 6, 6, 4, 4, 24, 24, 6, 6, 4, 4, 24, 24, 6, 6, 4, 4, 24, 40, 40, 40, 40, 40, 40, 40, 40, 24, 24, 24, 24, 24, 24, 24, 24, 24, 24, 24, 24, 24, 24, 24, 24, 24, 24, 24, 24, 24, 24, 24, 24] : List Nat).getD (k - 13) 0
def eC (P : PC) (u : MM) (k : Nat) : va_E := match k with
  | 0 => .inr (7, [.ref (P.2.2.2.1 1), .ref (P.2.2.2.1 2), .ref (P.2.2.2.1 3), .ref (P.2.2.2.1 4), .ref (P.2.2.2.1 5), .ref (P.2.2.2.1 6), .ref (P.2.2.2.1 7), .ref (P.2.2.2.1 8), .ref (P.2.2.2.1 9), .ref (P.2.2.2.1 10), .ref (P.2.2.2.1 16), .ref (P.2.2.2.1 17), .int (mm_r u 0 12), .int (mm_r u 0 13)])
  | 1 => .inr (6, [.ref (P.2.2.2.1 13), .ref (P.2.2.2.1 14), .ref (P.2.2.2.1 11)])
  | 2 => .inr (5, [.ref (P.2.2.2.1 15), .int (mm_r u 2 1), .int (mm_r u 2 2), .int (mm_r u 2 3), .int (mm_r u 2 4), .int (mm_r u 2 5), .int (mm_r u 2 6)])
  | 3 => .inr (3, [.int (mm_r u 3 0), .int (mm_r u 3 1), .int (mm_r u 3 2), .int (mm_r u 3 3), .int (mm_r u 3 4), .int (mm_r u 3 5), .int (mm_r u 3 6), .int (mm_r u 3 7), .int (mm_r u 3 8), .ref (P.2.2.2.1 31), .ref (P.2.2.2.1 32), .ref (P.2.2.2.1 33), .ref (P.2.2.2.1 34), .ref (P.2.2.2.1 35), .ref (P.2.2.2.1 36)])
  | 4 => .inr (3, [.int (mm_r u 4 0), .int (mm_r u 4 1), .int (mm_r u 4 2), .int (mm_r u 4 3), .int (mm_r u 4 4), .int (mm_r u 4 5), .int (mm_r u 4 6), .int (mm_r u 4 7), .int (mm_r u 4 8), .ref (P.2.2.2.1 37), .ref (P.2.2.2.1 38), .ref (P.2.2.2.1 39), .ref (P.2.2.2.1 40), .ref (P.2.2.2.1 41), .ref (P.2.2.2.1 42)])
  | 5 => .inr (3, [.int (mm_r u 5 0), .int (mm_r u 5 1), .int (mm_r u 5 2), .int (mm_r u 5 3), .int (mm_r u 5 4), .int (mm_r u 5 5), .int (mm_r u 5 6), .int (mm_r u 5 7), .int (mm_r u 5 8), .ref (P.2.2.2.1 43), .ref (P.2.2.2.1 44), .ref (P.2.2.2.1 45), .ref (P.2.2.2.1 46), .ref (P.2.2.2.1 47), .ref (P.2.2.2.1 48)])
  | 6 => .inr (3, [.int (mm_r u 6 0), .int (mm_r u 6 1), .int (mm_r u 6 2), .int (mm_r u 6 3), .int (mm_r u 6 4), .int (mm_r u 6 5), .int (mm_r u 6 6), .int (mm_r u 6 7), .int (mm_r u 6 8), .ref (P.2.2.2.1 49), .ref (P.2.2.2.1 50), .ref (P.2.2.2.1 51), .ref (P.2.2.2.1 52), .ref (P.2.2.2.1 53), .ref (P.2.2.2.1 54)])
  | 7 => .inr (0, [.ref (P.2.2.2.1 12), .int (mm_r u 7 1), .int (mm_r u 7 2)])
  | 8 => .inr (4, [.ref (P.2.2.2.1 3), .int (mm_r u 8 1), .int (mm_r u 8 2), .int (mm_r u 8 3), .int (mm_r u 8 4), .int (mm_r u 8 5), .int (mm_r u 8 6), .ref (P.2.2.2.1 21), .ref (P.2.2.2.1 22), .ref (P.2.2.2.1 23), .ref (P.2.2.2.1 24), .ref (P.2.2.2.1 25), .ref (P.2.2.2.1 26), .ref (P.2.2.2.1 27), .ref (P.2.2.2.1 28), .ref (P.2.2.2.1 29), .ref (P.2.2.2.1 30)])
  | 9 => .inr (1, [.ref (P.2.2.2.1 18), .ref (P.2.2.2.1 19), .int (mm_r u 9 2)])
  | 10 => .inr (2, [.ref (P.2.2.2.1 20), .int (mm_r u 10 1), .long (mm_rl u 0), .long (mm_rl u 1)])
  | 11 => .inl (P.2.1.2, 8, .inr (.inr (.inr (.inr (fun i => some (P.2.2.2.1 (55 + i)))))))
  | 12 => .inl (P.2.1.2, 24, .inr (.inr (.inr (.inr (fun i => some (P.2.2.2.1 (63 + i)))))))
  | k => .inl (P.2.1.1, lnC k, .inl (u.1 k))
def wC (P : PC) (u : MM) : va_W := (List.range 87).map (fun k => (P.2.2.2.1 k, eC P u k))
abbrev vC (P : PC) : VV := (P.1, [(P.2.1.1, .int), (P.2.1.2, .array .int)], P.2.2.1, wC P, roC P.2.2.1 P.2.2.2.2)
theorem wC_get (P : PC) (u : MM) (k : Nat) (h : k < 87) : (wC P u)[k]? = some (P.2.2.2.1 k, eC P u k) := by
  unfold wC
  rw [List.getElem?_map, List.getElem?_range h]
  rfl
theorem wC_len (P : PC) (u : MM) : (wC P u).length = 87 := by simp [wC]
theorem wC_set (P : PC) (u u' : MM) (k : Nat) (e : va_E) (he : eC P u' k = e) (hn : ∀ j, j ≠ k → eC P u j = eC P u' j) : (wC P u).set k (P.2.2.2.1 k, e) = wC P u' := by
  apply List.ext_getElem?
  intro j
  rw [List.getElem?_set]
  by_cases hj : k = j
  · subst hj
    rw [if_pos rfl, wC_len]
    by_cases hk : k < 87
    · rw [if_pos hk, wC_get P u' k hk, he]
    · rw [if_neg hk, List.getElem?_eq_none (by rw [wC_len]; omega)]
  · rw [if_neg hj]
    by_cases hk : j < 87
    · rw [wC_get P u j hk, wC_get P u' j hk, hn j (fun q => hj q.symm)]
    · rw [List.getElem?_eq_none (by rw [wC_len]; omega), List.getElem?_eq_none (by rw [wC_len]; omega)]
theorem eC_cg (P : PC) (u u' : MM) (k : Nat) (h : u.1 k = u'.1 k) (h2 : k = 10 → u.2 = u'.2) : eC P u k = eC P u' k := by
  match k, h, h2 with
  | 0, h, h2 => simp only [eC, mm_r, h]
  | 1, h, h2 => simp only [eC, mm_r, h]
  | 2, h, h2 => simp only [eC, mm_r, h]
  | 3, h, h2 => simp only [eC, mm_r, h]
  | 4, h, h2 => simp only [eC, mm_r, h]
  | 5, h, h2 => simp only [eC, mm_r, h]
  | 6, h, h2 => simp only [eC, mm_r, h]
  | 7, h, h2 => simp only [eC, mm_r, h]
  | 8, h, h2 => simp only [eC, mm_r, h]
  | 9, h, h2 => simp only [eC, mm_r, h]
  | 10, h, h2 => simp only [eC, mm_r, mm_rl, h, h2 rfl]
  | 11, h, h2 => rfl
  | 12, h, h2 => rfl
  | k + 13, h, h2 => show (Sum.inl (P.2.1.1, lnC (k + 13), .inl (u.1 (k + 13))) : va_E) = .inl (P.2.1.1, lnC (k + 13), .inl (u'.1 (k + 13))); rw [h]
theorem eC_w (P : PC) (u : MM) (k i : Nat) (v : Int32) (j : Nat) (h : j ≠ k) : eC P u j = eC P (mm_w u k i v) j := eC_cg P _ _ j (by funext b; show _ = (if j = k ∧ b = i then v else u.1 j b); rw [if_neg (fun q => h q.1)]) (fun _ => rfl)
theorem eC_cp (P : PC) (u : MM) (a sp k dp m : Nat) (j : Nat) (h : j ≠ k) : eC P u j = eC P (mm_cp u a sp k dp m) j := eC_cg P _ _ j (by funext b; show _ = (if j = k then _ else u.1 j b); rw [if_neg h]) (fun _ => rfl)
theorem eC_fl (P : PC) (u : MM) (k m : Nat) (v : Int32) (j : Nat) (h : j ≠ k) : eC P u j = eC P (mm_fl u k m v) j := eC_cg P _ _ j (by funext b; show _ = (if j = k ∧ b < m then v else u.1 j b); rw [if_neg (fun q => h q.1)]) (fun _ => rfl)
theorem eC_arr (P : PC) (u : MM) (k : Nat) : eC P u (k + 13) = .inl (P.2.1.1, lnC (k + 13), .inl (u.1 (k + 13))) := rfl
theorem gC_arr (P : PC) (u : MM) (k m : Nat) (h : k < 87) (h0 : 13 ≤ k) (hm : lnC k = m) : (wC P u)[k]? = some (P.2.2.2.1 k, .inl (P.2.1.1, m, .inl (u.1 k))) := by
  obtain ⟨j, rfl⟩ : ∃ j, k = j + 13 := ⟨k - 13, by omega⟩
  rw [wC_get P u _ h, eC_arr, hm]
theorem sC_arr (P : PC) (u : MM) (k m : Nat) (h0 : 13 ≤ k) (hm : lnC k = m) (i : Nat) (v : Int32) : (wC P u).set k (P.2.2.2.1 k, .inl (P.2.1.1, m, .inl (upd (u.1 k) i v))) = wC P (mm_w u k i v) := by
  obtain ⟨j, rfl⟩ : ∃ j, k = j + 13 := ⟨k - 13, by omega⟩
  refine wC_set P u _ _ _ ?_ (eC_w P u _ i v)
  rw [eC_arr, hm]
  congr 3
  show Sum.inl (fun b => if j + 13 = j + 13 ∧ b = i then v else u.1 (j + 13) b) = _
  congr 1
  funext b
  simp [upd]
theorem cC_arr (P : PC) (u : MM) (k m : Nat) (h0 : 13 ≤ k) (hm : lnC k = m) (a sp dp x : Nat) : (wC P u).set k (P.2.2.2.1 k, .inl (P.2.1.1, m, .inl (va_cpy (u.1 a) (u.1 k) sp dp x))) = wC P (mm_cp u a sp k dp x) := by
  obtain ⟨j, rfl⟩ : ∃ j, k = j + 13 := ⟨k - 13, by omega⟩
  refine wC_set P u _ _ _ ?_ (eC_cp P u a sp _ dp x)
  rw [eC_arr, hm]
  congr 3
  show Sum.inl (fun b => if j + 13 = j + 13 then va_cpy (u.1 a) (u.1 (j + 13)) sp dp x b else _) = _
  congr 1
  funext b
  simp
theorem gC_0 (P : PC) (u : MM) : (wC P u)[0]? = some (P.2.2.2.1 0, .inr (7, [.ref (P.2.2.2.1 1), .ref (P.2.2.2.1 2), .ref (P.2.2.2.1 3), .ref (P.2.2.2.1 4), .ref (P.2.2.2.1 5), .ref (P.2.2.2.1 6), .ref (P.2.2.2.1 7), .ref (P.2.2.2.1 8), .ref (P.2.2.2.1 9), .ref (P.2.2.2.1 10), .ref (P.2.2.2.1 16), .ref (P.2.2.2.1 17), .int (mm_r u 0 12), .int (mm_r u 0 13)])) := wC_get P u 0 (by decide)
theorem gC_1 (P : PC) (u : MM) : (wC P u)[1]? = some (P.2.2.2.1 1, .inr (6, [.ref (P.2.2.2.1 13), .ref (P.2.2.2.1 14), .ref (P.2.2.2.1 11)])) := wC_get P u 1 (by decide)
theorem gC_2 (P : PC) (u : MM) : (wC P u)[2]? = some (P.2.2.2.1 2, .inr (5, [.ref (P.2.2.2.1 15), .int (mm_r u 2 1), .int (mm_r u 2 2), .int (mm_r u 2 3), .int (mm_r u 2 4), .int (mm_r u 2 5), .int (mm_r u 2 6)])) := wC_get P u 2 (by decide)
theorem gC_3 (P : PC) (u : MM) : (wC P u)[3]? = some (P.2.2.2.1 3, .inr (3, [.int (mm_r u 3 0), .int (mm_r u 3 1), .int (mm_r u 3 2), .int (mm_r u 3 3), .int (mm_r u 3 4), .int (mm_r u 3 5), .int (mm_r u 3 6), .int (mm_r u 3 7), .int (mm_r u 3 8), .ref (P.2.2.2.1 31), .ref (P.2.2.2.1 32), .ref (P.2.2.2.1 33), .ref (P.2.2.2.1 34), .ref (P.2.2.2.1 35), .ref (P.2.2.2.1 36)])) := wC_get P u 3 (by decide)
theorem gC_4 (P : PC) (u : MM) : (wC P u)[4]? = some (P.2.2.2.1 4, .inr (3, [.int (mm_r u 4 0), .int (mm_r u 4 1), .int (mm_r u 4 2), .int (mm_r u 4 3), .int (mm_r u 4 4), .int (mm_r u 4 5), .int (mm_r u 4 6), .int (mm_r u 4 7), .int (mm_r u 4 8), .ref (P.2.2.2.1 37), .ref (P.2.2.2.1 38), .ref (P.2.2.2.1 39), .ref (P.2.2.2.1 40), .ref (P.2.2.2.1 41), .ref (P.2.2.2.1 42)])) := wC_get P u 4 (by decide)
theorem gC_5 (P : PC) (u : MM) : (wC P u)[5]? = some (P.2.2.2.1 5, .inr (3, [.int (mm_r u 5 0), .int (mm_r u 5 1), .int (mm_r u 5 2), .int (mm_r u 5 3), .int (mm_r u 5 4), .int (mm_r u 5 5), .int (mm_r u 5 6), .int (mm_r u 5 7), .int (mm_r u 5 8), .ref (P.2.2.2.1 43), .ref (P.2.2.2.1 44), .ref (P.2.2.2.1 45), .ref (P.2.2.2.1 46), .ref (P.2.2.2.1 47), .ref (P.2.2.2.1 48)])) := wC_get P u 5 (by decide)
theorem gC_6 (P : PC) (u : MM) : (wC P u)[6]? = some (P.2.2.2.1 6, .inr (3, [.int (mm_r u 6 0), .int (mm_r u 6 1), .int (mm_r u 6 2), .int (mm_r u 6 3), .int (mm_r u 6 4), .int (mm_r u 6 5), .int (mm_r u 6 6), .int (mm_r u 6 7), .int (mm_r u 6 8), .ref (P.2.2.2.1 49), .ref (P.2.2.2.1 50), .ref (P.2.2.2.1 51), .ref (P.2.2.2.1 52), .ref (P.2.2.2.1 53), .ref (P.2.2.2.1 54)])) := wC_get P u 6 (by decide)
theorem gC_7 (P : PC) (u : MM) : (wC P u)[7]? = some (P.2.2.2.1 7, .inr (0, [.ref (P.2.2.2.1 12), .int (mm_r u 7 1), .int (mm_r u 7 2)])) := wC_get P u 7 (by decide)
theorem gC_8 (P : PC) (u : MM) : (wC P u)[8]? = some (P.2.2.2.1 8, .inr (4, [.ref (P.2.2.2.1 3), .int (mm_r u 8 1), .int (mm_r u 8 2), .int (mm_r u 8 3), .int (mm_r u 8 4), .int (mm_r u 8 5), .int (mm_r u 8 6), .ref (P.2.2.2.1 21), .ref (P.2.2.2.1 22), .ref (P.2.2.2.1 23), .ref (P.2.2.2.1 24), .ref (P.2.2.2.1 25), .ref (P.2.2.2.1 26), .ref (P.2.2.2.1 27), .ref (P.2.2.2.1 28), .ref (P.2.2.2.1 29), .ref (P.2.2.2.1 30)])) := wC_get P u 8 (by decide)
theorem gC_9 (P : PC) (u : MM) : (wC P u)[9]? = some (P.2.2.2.1 9, .inr (1, [.ref (P.2.2.2.1 18), .ref (P.2.2.2.1 19), .int (mm_r u 9 2)])) := wC_get P u 9 (by decide)
theorem gC_10 (P : PC) (u : MM) : (wC P u)[10]? = some (P.2.2.2.1 10, .inr (2, [.ref (P.2.2.2.1 20), .int (mm_r u 10 1), .long (mm_rl u 0), .long (mm_rl u 1)])) := wC_get P u 10 (by decide)
theorem gC_11 (P : PC) (u : MM) : (wC P u)[11]? = some (P.2.2.2.1 11, .inl (P.2.1.2, 8, .inr (.inr (.inr (.inr (fun i => some (P.2.2.2.1 (55 + i)))))))) := wC_get P u 11 (by decide)
theorem gC_12 (P : PC) (u : MM) : (wC P u)[12]? = some (P.2.2.2.1 12, .inl (P.2.1.2, 24, .inr (.inr (.inr (.inr (fun i => some (P.2.2.2.1 (63 + i)))))))) := wC_get P u 12 (by decide)
theorem gC_13 (P : PC) (u : MM) : (wC P u)[13]? = some (P.2.2.2.1 13, .inl (P.2.1.1, 8, .inl (u.1 13))) := gC_arr P u 13 8 (by decide) (by decide) rfl
theorem sC_13 (P : PC) (u : MM) (v : Int32) (i : Nat) : (wC P u).set 13 (P.2.2.2.1 13, .inl (P.2.1.1, 8, .inl (upd (u.1 13) i v))) = wC P (mm_w u 13 i v) := sC_arr P u 13 8 (by decide) rfl i v
theorem cC_13 (P : PC) (u : MM) (a sp dp m : Nat) : (wC P u).set 13 (P.2.2.2.1 13, .inl (P.2.1.1, 8, .inl (va_cpy (u.1 a) (u.1 13) sp dp m))) = wC P (mm_cp u a sp 13 dp m) := cC_arr P u 13 8 (by decide) rfl a sp dp m
theorem gC_14 (P : PC) (u : MM) : (wC P u)[14]? = some (P.2.2.2.1 14, .inl (P.2.1.1, 8, .inl (u.1 14))) := gC_arr P u 14 8 (by decide) (by decide) rfl
theorem sC_14 (P : PC) (u : MM) (v : Int32) (i : Nat) : (wC P u).set 14 (P.2.2.2.1 14, .inl (P.2.1.1, 8, .inl (upd (u.1 14) i v))) = wC P (mm_w u 14 i v) := sC_arr P u 14 8 (by decide) rfl i v
theorem cC_14 (P : PC) (u : MM) (a sp dp m : Nat) : (wC P u).set 14 (P.2.2.2.1 14, .inl (P.2.1.1, 8, .inl (va_cpy (u.1 a) (u.1 14) sp dp m))) = wC P (mm_cp u a sp 14 dp m) := cC_arr P u 14 8 (by decide) rfl a sp dp m
theorem gC_15 (P : PC) (u : MM) : (wC P u)[15]? = some (P.2.2.2.1 15, .inl (P.2.1.1, 120, .inl (u.1 15))) := gC_arr P u 15 120 (by decide) (by decide) rfl
theorem sC_15 (P : PC) (u : MM) (v : Int32) (i : Nat) : (wC P u).set 15 (P.2.2.2.1 15, .inl (P.2.1.1, 120, .inl (upd (u.1 15) i v))) = wC P (mm_w u 15 i v) := sC_arr P u 15 120 (by decide) rfl i v
theorem cC_15 (P : PC) (u : MM) (a sp dp m : Nat) : (wC P u).set 15 (P.2.2.2.1 15, .inl (P.2.1.1, 120, .inl (va_cpy (u.1 a) (u.1 15) sp dp m))) = wC P (mm_cp u a sp 15 dp m) := cC_arr P u 15 120 (by decide) rfl a sp dp m
theorem gC_16 (P : PC) (u : MM) : (wC P u)[16]? = some (P.2.2.2.1 16, .inl (P.2.1.1, 4, .inl (u.1 16))) := gC_arr P u 16 4 (by decide) (by decide) rfl
theorem sC_16 (P : PC) (u : MM) (v : Int32) (i : Nat) : (wC P u).set 16 (P.2.2.2.1 16, .inl (P.2.1.1, 4, .inl (upd (u.1 16) i v))) = wC P (mm_w u 16 i v) := sC_arr P u 16 4 (by decide) rfl i v
theorem cC_16 (P : PC) (u : MM) (a sp dp m : Nat) : (wC P u).set 16 (P.2.2.2.1 16, .inl (P.2.1.1, 4, .inl (va_cpy (u.1 a) (u.1 16) sp dp m))) = wC P (mm_cp u a sp 16 dp m) := cC_arr P u 16 4 (by decide) rfl a sp dp m
theorem gC_17 (P : PC) (u : MM) : (wC P u)[17]? = some (P.2.2.2.1 17, .inl (P.2.1.1, 16, .inl (u.1 17))) := gC_arr P u 17 16 (by decide) (by decide) rfl
theorem sC_17 (P : PC) (u : MM) (v : Int32) (i : Nat) : (wC P u).set 17 (P.2.2.2.1 17, .inl (P.2.1.1, 16, .inl (upd (u.1 17) i v))) = wC P (mm_w u 17 i v) := sC_arr P u 17 16 (by decide) rfl i v
theorem cC_17 (P : PC) (u : MM) (a sp dp m : Nat) : (wC P u).set 17 (P.2.2.2.1 17, .inl (P.2.1.1, 16, .inl (va_cpy (u.1 a) (u.1 17) sp dp m))) = wC P (mm_cp u a sp 17 dp m) := cC_arr P u 17 16 (by decide) rfl a sp dp m
theorem gC_18 (P : PC) (u : MM) : (wC P u)[18]? = some (P.2.2.2.1 18, .inl (P.2.1.1, 16, .inl (u.1 18))) := gC_arr P u 18 16 (by decide) (by decide) rfl
theorem sC_18 (P : PC) (u : MM) (v : Int32) (i : Nat) : (wC P u).set 18 (P.2.2.2.1 18, .inl (P.2.1.1, 16, .inl (upd (u.1 18) i v))) = wC P (mm_w u 18 i v) := sC_arr P u 18 16 (by decide) rfl i v
theorem cC_18 (P : PC) (u : MM) (a sp dp m : Nat) : (wC P u).set 18 (P.2.2.2.1 18, .inl (P.2.1.1, 16, .inl (va_cpy (u.1 a) (u.1 18) sp dp m))) = wC P (mm_cp u a sp 18 dp m) := cC_arr P u 18 16 (by decide) rfl a sp dp m
theorem gC_19 (P : PC) (u : MM) : (wC P u)[19]? = some (P.2.2.2.1 19, .inl (P.2.1.1, 16, .inl (u.1 19))) := gC_arr P u 19 16 (by decide) (by decide) rfl
theorem sC_19 (P : PC) (u : MM) (v : Int32) (i : Nat) : (wC P u).set 19 (P.2.2.2.1 19, .inl (P.2.1.1, 16, .inl (upd (u.1 19) i v))) = wC P (mm_w u 19 i v) := sC_arr P u 19 16 (by decide) rfl i v
theorem cC_19 (P : PC) (u : MM) (a sp dp m : Nat) : (wC P u).set 19 (P.2.2.2.1 19, .inl (P.2.1.1, 16, .inl (va_cpy (u.1 a) (u.1 19) sp dp m))) = wC P (mm_cp u a sp 19 dp m) := cC_arr P u 19 16 (by decide) rfl a sp dp m
theorem gC_20 (P : PC) (u : MM) : (wC P u)[20]? = some (P.2.2.2.1 20, .inl (P.2.1.1, 6, .inl (u.1 20))) := gC_arr P u 20 6 (by decide) (by decide) rfl
theorem sC_20 (P : PC) (u : MM) (v : Int32) (i : Nat) : (wC P u).set 20 (P.2.2.2.1 20, .inl (P.2.1.1, 6, .inl (upd (u.1 20) i v))) = wC P (mm_w u 20 i v) := sC_arr P u 20 6 (by decide) rfl i v
theorem cC_20 (P : PC) (u : MM) (a sp dp m : Nat) : (wC P u).set 20 (P.2.2.2.1 20, .inl (P.2.1.1, 6, .inl (va_cpy (u.1 a) (u.1 20) sp dp m))) = wC P (mm_cp u a sp 20 dp m) := cC_arr P u 20 6 (by decide) rfl a sp dp m
theorem gC_21 (P : PC) (u : MM) : (wC P u)[21]? = some (P.2.2.2.1 21, .inl (P.2.1.1, 6, .inl (u.1 21))) := gC_arr P u 21 6 (by decide) (by decide) rfl
theorem sC_21 (P : PC) (u : MM) (v : Int32) (i : Nat) : (wC P u).set 21 (P.2.2.2.1 21, .inl (P.2.1.1, 6, .inl (upd (u.1 21) i v))) = wC P (mm_w u 21 i v) := sC_arr P u 21 6 (by decide) rfl i v
theorem cC_21 (P : PC) (u : MM) (a sp dp m : Nat) : (wC P u).set 21 (P.2.2.2.1 21, .inl (P.2.1.1, 6, .inl (va_cpy (u.1 a) (u.1 21) sp dp m))) = wC P (mm_cp u a sp 21 dp m) := cC_arr P u 21 6 (by decide) rfl a sp dp m
theorem gC_22 (P : PC) (u : MM) : (wC P u)[22]? = some (P.2.2.2.1 22, .inl (P.2.1.1, 4, .inl (u.1 22))) := gC_arr P u 22 4 (by decide) (by decide) rfl
theorem sC_22 (P : PC) (u : MM) (v : Int32) (i : Nat) : (wC P u).set 22 (P.2.2.2.1 22, .inl (P.2.1.1, 4, .inl (upd (u.1 22) i v))) = wC P (mm_w u 22 i v) := sC_arr P u 22 4 (by decide) rfl i v
theorem cC_22 (P : PC) (u : MM) (a sp dp m : Nat) : (wC P u).set 22 (P.2.2.2.1 22, .inl (P.2.1.1, 4, .inl (va_cpy (u.1 a) (u.1 22) sp dp m))) = wC P (mm_cp u a sp 22 dp m) := cC_arr P u 22 4 (by decide) rfl a sp dp m
theorem gC_23 (P : PC) (u : MM) : (wC P u)[23]? = some (P.2.2.2.1 23, .inl (P.2.1.1, 4, .inl (u.1 23))) := gC_arr P u 23 4 (by decide) (by decide) rfl
theorem sC_23 (P : PC) (u : MM) (v : Int32) (i : Nat) : (wC P u).set 23 (P.2.2.2.1 23, .inl (P.2.1.1, 4, .inl (upd (u.1 23) i v))) = wC P (mm_w u 23 i v) := sC_arr P u 23 4 (by decide) rfl i v
theorem cC_23 (P : PC) (u : MM) (a sp dp m : Nat) : (wC P u).set 23 (P.2.2.2.1 23, .inl (P.2.1.1, 4, .inl (va_cpy (u.1 a) (u.1 23) sp dp m))) = wC P (mm_cp u a sp 23 dp m) := cC_arr P u 23 4 (by decide) rfl a sp dp m
theorem gC_24 (P : PC) (u : MM) : (wC P u)[24]? = some (P.2.2.2.1 24, .inl (P.2.1.1, 4, .inl (u.1 24))) := gC_arr P u 24 4 (by decide) (by decide) rfl
theorem sC_24 (P : PC) (u : MM) (v : Int32) (i : Nat) : (wC P u).set 24 (P.2.2.2.1 24, .inl (P.2.1.1, 4, .inl (upd (u.1 24) i v))) = wC P (mm_w u 24 i v) := sC_arr P u 24 4 (by decide) rfl i v
theorem cC_24 (P : PC) (u : MM) (a sp dp m : Nat) : (wC P u).set 24 (P.2.2.2.1 24, .inl (P.2.1.1, 4, .inl (va_cpy (u.1 a) (u.1 24) sp dp m))) = wC P (mm_cp u a sp 24 dp m) := cC_arr P u 24 4 (by decide) rfl a sp dp m
theorem gC_25 (P : PC) (u : MM) : (wC P u)[25]? = some (P.2.2.2.1 25, .inl (P.2.1.1, 4, .inl (u.1 25))) := gC_arr P u 25 4 (by decide) (by decide) rfl
theorem sC_25 (P : PC) (u : MM) (v : Int32) (i : Nat) : (wC P u).set 25 (P.2.2.2.1 25, .inl (P.2.1.1, 4, .inl (upd (u.1 25) i v))) = wC P (mm_w u 25 i v) := sC_arr P u 25 4 (by decide) rfl i v
theorem cC_25 (P : PC) (u : MM) (a sp dp m : Nat) : (wC P u).set 25 (P.2.2.2.1 25, .inl (P.2.1.1, 4, .inl (va_cpy (u.1 a) (u.1 25) sp dp m))) = wC P (mm_cp u a sp 25 dp m) := cC_arr P u 25 4 (by decide) rfl a sp dp m
theorem gC_26 (P : PC) (u : MM) : (wC P u)[26]? = some (P.2.2.2.1 26, .inl (P.2.1.1, 4, .inl (u.1 26))) := gC_arr P u 26 4 (by decide) (by decide) rfl
theorem sC_26 (P : PC) (u : MM) (v : Int32) (i : Nat) : (wC P u).set 26 (P.2.2.2.1 26, .inl (P.2.1.1, 4, .inl (upd (u.1 26) i v))) = wC P (mm_w u 26 i v) := sC_arr P u 26 4 (by decide) rfl i v
theorem cC_26 (P : PC) (u : MM) (a sp dp m : Nat) : (wC P u).set 26 (P.2.2.2.1 26, .inl (P.2.1.1, 4, .inl (va_cpy (u.1 a) (u.1 26) sp dp m))) = wC P (mm_cp u a sp 26 dp m) := cC_arr P u 26 4 (by decide) rfl a sp dp m
theorem gC_27 (P : PC) (u : MM) : (wC P u)[27]? = some (P.2.2.2.1 27, .inl (P.2.1.1, 4, .inl (u.1 27))) := gC_arr P u 27 4 (by decide) (by decide) rfl
theorem sC_27 (P : PC) (u : MM) (v : Int32) (i : Nat) : (wC P u).set 27 (P.2.2.2.1 27, .inl (P.2.1.1, 4, .inl (upd (u.1 27) i v))) = wC P (mm_w u 27 i v) := sC_arr P u 27 4 (by decide) rfl i v
theorem cC_27 (P : PC) (u : MM) (a sp dp m : Nat) : (wC P u).set 27 (P.2.2.2.1 27, .inl (P.2.1.1, 4, .inl (va_cpy (u.1 a) (u.1 27) sp dp m))) = wC P (mm_cp u a sp 27 dp m) := cC_arr P u 27 4 (by decide) rfl a sp dp m
theorem gC_28 (P : PC) (u : MM) : (wC P u)[28]? = some (P.2.2.2.1 28, .inl (P.2.1.1, 4, .inl (u.1 28))) := gC_arr P u 28 4 (by decide) (by decide) rfl
theorem sC_28 (P : PC) (u : MM) (v : Int32) (i : Nat) : (wC P u).set 28 (P.2.2.2.1 28, .inl (P.2.1.1, 4, .inl (upd (u.1 28) i v))) = wC P (mm_w u 28 i v) := sC_arr P u 28 4 (by decide) rfl i v
theorem cC_28 (P : PC) (u : MM) (a sp dp m : Nat) : (wC P u).set 28 (P.2.2.2.1 28, .inl (P.2.1.1, 4, .inl (va_cpy (u.1 a) (u.1 28) sp dp m))) = wC P (mm_cp u a sp 28 dp m) := cC_arr P u 28 4 (by decide) rfl a sp dp m
theorem gC_29 (P : PC) (u : MM) : (wC P u)[29]? = some (P.2.2.2.1 29, .inl (P.2.1.1, 4, .inl (u.1 29))) := gC_arr P u 29 4 (by decide) (by decide) rfl
theorem sC_29 (P : PC) (u : MM) (v : Int32) (i : Nat) : (wC P u).set 29 (P.2.2.2.1 29, .inl (P.2.1.1, 4, .inl (upd (u.1 29) i v))) = wC P (mm_w u 29 i v) := sC_arr P u 29 4 (by decide) rfl i v
theorem cC_29 (P : PC) (u : MM) (a sp dp m : Nat) : (wC P u).set 29 (P.2.2.2.1 29, .inl (P.2.1.1, 4, .inl (va_cpy (u.1 a) (u.1 29) sp dp m))) = wC P (mm_cp u a sp 29 dp m) := cC_arr P u 29 4 (by decide) rfl a sp dp m
theorem gC_30 (P : PC) (u : MM) : (wC P u)[30]? = some (P.2.2.2.1 30, .inl (P.2.1.1, 4, .inl (u.1 30))) := gC_arr P u 30 4 (by decide) (by decide) rfl
theorem sC_30 (P : PC) (u : MM) (v : Int32) (i : Nat) : (wC P u).set 30 (P.2.2.2.1 30, .inl (P.2.1.1, 4, .inl (upd (u.1 30) i v))) = wC P (mm_w u 30 i v) := sC_arr P u 30 4 (by decide) rfl i v
theorem cC_30 (P : PC) (u : MM) (a sp dp m : Nat) : (wC P u).set 30 (P.2.2.2.1 30, .inl (P.2.1.1, 4, .inl (va_cpy (u.1 a) (u.1 30) sp dp m))) = wC P (mm_cp u a sp 30 dp m) := cC_arr P u 30 4 (by decide) rfl a sp dp m
theorem gC_31 (P : PC) (u : MM) : (wC P u)[31]? = some (P.2.2.2.1 31, .inl (P.2.1.1, 24, .inl (u.1 31))) := gC_arr P u 31 24 (by decide) (by decide) rfl
theorem sC_31 (P : PC) (u : MM) (v : Int32) (i : Nat) : (wC P u).set 31 (P.2.2.2.1 31, .inl (P.2.1.1, 24, .inl (upd (u.1 31) i v))) = wC P (mm_w u 31 i v) := sC_arr P u 31 24 (by decide) rfl i v
theorem cC_31 (P : PC) (u : MM) (a sp dp m : Nat) : (wC P u).set 31 (P.2.2.2.1 31, .inl (P.2.1.1, 24, .inl (va_cpy (u.1 a) (u.1 31) sp dp m))) = wC P (mm_cp u a sp 31 dp m) := cC_arr P u 31 24 (by decide) rfl a sp dp m
theorem gC_32 (P : PC) (u : MM) : (wC P u)[32]? = some (P.2.2.2.1 32, .inl (P.2.1.1, 6, .inl (u.1 32))) := gC_arr P u 32 6 (by decide) (by decide) rfl
theorem sC_32 (P : PC) (u : MM) (v : Int32) (i : Nat) : (wC P u).set 32 (P.2.2.2.1 32, .inl (P.2.1.1, 6, .inl (upd (u.1 32) i v))) = wC P (mm_w u 32 i v) := sC_arr P u 32 6 (by decide) rfl i v
theorem cC_32 (P : PC) (u : MM) (a sp dp m : Nat) : (wC P u).set 32 (P.2.2.2.1 32, .inl (P.2.1.1, 6, .inl (va_cpy (u.1 a) (u.1 32) sp dp m))) = wC P (mm_cp u a sp 32 dp m) := cC_arr P u 32 6 (by decide) rfl a sp dp m
theorem gC_33 (P : PC) (u : MM) : (wC P u)[33]? = some (P.2.2.2.1 33, .inl (P.2.1.1, 6, .inl (u.1 33))) := gC_arr P u 33 6 (by decide) (by decide) rfl
theorem sC_33 (P : PC) (u : MM) (v : Int32) (i : Nat) : (wC P u).set 33 (P.2.2.2.1 33, .inl (P.2.1.1, 6, .inl (upd (u.1 33) i v))) = wC P (mm_w u 33 i v) := sC_arr P u 33 6 (by decide) rfl i v
theorem cC_33 (P : PC) (u : MM) (a sp dp m : Nat) : (wC P u).set 33 (P.2.2.2.1 33, .inl (P.2.1.1, 6, .inl (va_cpy (u.1 a) (u.1 33) sp dp m))) = wC P (mm_cp u a sp 33 dp m) := cC_arr P u 33 6 (by decide) rfl a sp dp m
theorem gC_34 (P : PC) (u : MM) : (wC P u)[34]? = some (P.2.2.2.1 34, .inl (P.2.1.1, 4, .inl (u.1 34))) := gC_arr P u 34 4 (by decide) (by decide) rfl
theorem sC_34 (P : PC) (u : MM) (v : Int32) (i : Nat) : (wC P u).set 34 (P.2.2.2.1 34, .inl (P.2.1.1, 4, .inl (upd (u.1 34) i v))) = wC P (mm_w u 34 i v) := sC_arr P u 34 4 (by decide) rfl i v
theorem cC_34 (P : PC) (u : MM) (a sp dp m : Nat) : (wC P u).set 34 (P.2.2.2.1 34, .inl (P.2.1.1, 4, .inl (va_cpy (u.1 a) (u.1 34) sp dp m))) = wC P (mm_cp u a sp 34 dp m) := cC_arr P u 34 4 (by decide) rfl a sp dp m
theorem gC_35 (P : PC) (u : MM) : (wC P u)[35]? = some (P.2.2.2.1 35, .inl (P.2.1.1, 4, .inl (u.1 35))) := gC_arr P u 35 4 (by decide) (by decide) rfl
theorem sC_35 (P : PC) (u : MM) (v : Int32) (i : Nat) : (wC P u).set 35 (P.2.2.2.1 35, .inl (P.2.1.1, 4, .inl (upd (u.1 35) i v))) = wC P (mm_w u 35 i v) := sC_arr P u 35 4 (by decide) rfl i v
theorem cC_35 (P : PC) (u : MM) (a sp dp m : Nat) : (wC P u).set 35 (P.2.2.2.1 35, .inl (P.2.1.1, 4, .inl (va_cpy (u.1 a) (u.1 35) sp dp m))) = wC P (mm_cp u a sp 35 dp m) := cC_arr P u 35 4 (by decide) rfl a sp dp m
theorem gC_36 (P : PC) (u : MM) : (wC P u)[36]? = some (P.2.2.2.1 36, .inl (P.2.1.1, 24, .inl (u.1 36))) := gC_arr P u 36 24 (by decide) (by decide) rfl
theorem sC_36 (P : PC) (u : MM) (v : Int32) (i : Nat) : (wC P u).set 36 (P.2.2.2.1 36, .inl (P.2.1.1, 24, .inl (upd (u.1 36) i v))) = wC P (mm_w u 36 i v) := sC_arr P u 36 24 (by decide) rfl i v
theorem cC_36 (P : PC) (u : MM) (a sp dp m : Nat) : (wC P u).set 36 (P.2.2.2.1 36, .inl (P.2.1.1, 24, .inl (va_cpy (u.1 a) (u.1 36) sp dp m))) = wC P (mm_cp u a sp 36 dp m) := cC_arr P u 36 24 (by decide) rfl a sp dp m
theorem gC_37 (P : PC) (u : MM) : (wC P u)[37]? = some (P.2.2.2.1 37, .inl (P.2.1.1, 24, .inl (u.1 37))) := gC_arr P u 37 24 (by decide) (by decide) rfl
theorem sC_37 (P : PC) (u : MM) (v : Int32) (i : Nat) : (wC P u).set 37 (P.2.2.2.1 37, .inl (P.2.1.1, 24, .inl (upd (u.1 37) i v))) = wC P (mm_w u 37 i v) := sC_arr P u 37 24 (by decide) rfl i v
theorem cC_37 (P : PC) (u : MM) (a sp dp m : Nat) : (wC P u).set 37 (P.2.2.2.1 37, .inl (P.2.1.1, 24, .inl (va_cpy (u.1 a) (u.1 37) sp dp m))) = wC P (mm_cp u a sp 37 dp m) := cC_arr P u 37 24 (by decide) rfl a sp dp m
theorem gC_38 (P : PC) (u : MM) : (wC P u)[38]? = some (P.2.2.2.1 38, .inl (P.2.1.1, 6, .inl (u.1 38))) := gC_arr P u 38 6 (by decide) (by decide) rfl
theorem sC_38 (P : PC) (u : MM) (v : Int32) (i : Nat) : (wC P u).set 38 (P.2.2.2.1 38, .inl (P.2.1.1, 6, .inl (upd (u.1 38) i v))) = wC P (mm_w u 38 i v) := sC_arr P u 38 6 (by decide) rfl i v
theorem cC_38 (P : PC) (u : MM) (a sp dp m : Nat) : (wC P u).set 38 (P.2.2.2.1 38, .inl (P.2.1.1, 6, .inl (va_cpy (u.1 a) (u.1 38) sp dp m))) = wC P (mm_cp u a sp 38 dp m) := cC_arr P u 38 6 (by decide) rfl a sp dp m
theorem gC_39 (P : PC) (u : MM) : (wC P u)[39]? = some (P.2.2.2.1 39, .inl (P.2.1.1, 6, .inl (u.1 39))) := gC_arr P u 39 6 (by decide) (by decide) rfl
theorem sC_39 (P : PC) (u : MM) (v : Int32) (i : Nat) : (wC P u).set 39 (P.2.2.2.1 39, .inl (P.2.1.1, 6, .inl (upd (u.1 39) i v))) = wC P (mm_w u 39 i v) := sC_arr P u 39 6 (by decide) rfl i v
theorem cC_39 (P : PC) (u : MM) (a sp dp m : Nat) : (wC P u).set 39 (P.2.2.2.1 39, .inl (P.2.1.1, 6, .inl (va_cpy (u.1 a) (u.1 39) sp dp m))) = wC P (mm_cp u a sp 39 dp m) := cC_arr P u 39 6 (by decide) rfl a sp dp m
theorem gC_40 (P : PC) (u : MM) : (wC P u)[40]? = some (P.2.2.2.1 40, .inl (P.2.1.1, 4, .inl (u.1 40))) := gC_arr P u 40 4 (by decide) (by decide) rfl
theorem sC_40 (P : PC) (u : MM) (v : Int32) (i : Nat) : (wC P u).set 40 (P.2.2.2.1 40, .inl (P.2.1.1, 4, .inl (upd (u.1 40) i v))) = wC P (mm_w u 40 i v) := sC_arr P u 40 4 (by decide) rfl i v
theorem cC_40 (P : PC) (u : MM) (a sp dp m : Nat) : (wC P u).set 40 (P.2.2.2.1 40, .inl (P.2.1.1, 4, .inl (va_cpy (u.1 a) (u.1 40) sp dp m))) = wC P (mm_cp u a sp 40 dp m) := cC_arr P u 40 4 (by decide) rfl a sp dp m
theorem gC_41 (P : PC) (u : MM) : (wC P u)[41]? = some (P.2.2.2.1 41, .inl (P.2.1.1, 4, .inl (u.1 41))) := gC_arr P u 41 4 (by decide) (by decide) rfl
theorem sC_41 (P : PC) (u : MM) (v : Int32) (i : Nat) : (wC P u).set 41 (P.2.2.2.1 41, .inl (P.2.1.1, 4, .inl (upd (u.1 41) i v))) = wC P (mm_w u 41 i v) := sC_arr P u 41 4 (by decide) rfl i v
theorem cC_41 (P : PC) (u : MM) (a sp dp m : Nat) : (wC P u).set 41 (P.2.2.2.1 41, .inl (P.2.1.1, 4, .inl (va_cpy (u.1 a) (u.1 41) sp dp m))) = wC P (mm_cp u a sp 41 dp m) := cC_arr P u 41 4 (by decide) rfl a sp dp m
theorem gC_42 (P : PC) (u : MM) : (wC P u)[42]? = some (P.2.2.2.1 42, .inl (P.2.1.1, 24, .inl (u.1 42))) := gC_arr P u 42 24 (by decide) (by decide) rfl
theorem sC_42 (P : PC) (u : MM) (v : Int32) (i : Nat) : (wC P u).set 42 (P.2.2.2.1 42, .inl (P.2.1.1, 24, .inl (upd (u.1 42) i v))) = wC P (mm_w u 42 i v) := sC_arr P u 42 24 (by decide) rfl i v
theorem cC_42 (P : PC) (u : MM) (a sp dp m : Nat) : (wC P u).set 42 (P.2.2.2.1 42, .inl (P.2.1.1, 24, .inl (va_cpy (u.1 a) (u.1 42) sp dp m))) = wC P (mm_cp u a sp 42 dp m) := cC_arr P u 42 24 (by decide) rfl a sp dp m
theorem gC_43 (P : PC) (u : MM) : (wC P u)[43]? = some (P.2.2.2.1 43, .inl (P.2.1.1, 24, .inl (u.1 43))) := gC_arr P u 43 24 (by decide) (by decide) rfl
theorem sC_43 (P : PC) (u : MM) (v : Int32) (i : Nat) : (wC P u).set 43 (P.2.2.2.1 43, .inl (P.2.1.1, 24, .inl (upd (u.1 43) i v))) = wC P (mm_w u 43 i v) := sC_arr P u 43 24 (by decide) rfl i v
theorem cC_43 (P : PC) (u : MM) (a sp dp m : Nat) : (wC P u).set 43 (P.2.2.2.1 43, .inl (P.2.1.1, 24, .inl (va_cpy (u.1 a) (u.1 43) sp dp m))) = wC P (mm_cp u a sp 43 dp m) := cC_arr P u 43 24 (by decide) rfl a sp dp m
theorem gC_44 (P : PC) (u : MM) : (wC P u)[44]? = some (P.2.2.2.1 44, .inl (P.2.1.1, 6, .inl (u.1 44))) := gC_arr P u 44 6 (by decide) (by decide) rfl
theorem sC_44 (P : PC) (u : MM) (v : Int32) (i : Nat) : (wC P u).set 44 (P.2.2.2.1 44, .inl (P.2.1.1, 6, .inl (upd (u.1 44) i v))) = wC P (mm_w u 44 i v) := sC_arr P u 44 6 (by decide) rfl i v
theorem cC_44 (P : PC) (u : MM) (a sp dp m : Nat) : (wC P u).set 44 (P.2.2.2.1 44, .inl (P.2.1.1, 6, .inl (va_cpy (u.1 a) (u.1 44) sp dp m))) = wC P (mm_cp u a sp 44 dp m) := cC_arr P u 44 6 (by decide) rfl a sp dp m
theorem gC_45 (P : PC) (u : MM) : (wC P u)[45]? = some (P.2.2.2.1 45, .inl (P.2.1.1, 6, .inl (u.1 45))) := gC_arr P u 45 6 (by decide) (by decide) rfl
theorem sC_45 (P : PC) (u : MM) (v : Int32) (i : Nat) : (wC P u).set 45 (P.2.2.2.1 45, .inl (P.2.1.1, 6, .inl (upd (u.1 45) i v))) = wC P (mm_w u 45 i v) := sC_arr P u 45 6 (by decide) rfl i v
theorem cC_45 (P : PC) (u : MM) (a sp dp m : Nat) : (wC P u).set 45 (P.2.2.2.1 45, .inl (P.2.1.1, 6, .inl (va_cpy (u.1 a) (u.1 45) sp dp m))) = wC P (mm_cp u a sp 45 dp m) := cC_arr P u 45 6 (by decide) rfl a sp dp m
theorem gC_46 (P : PC) (u : MM) : (wC P u)[46]? = some (P.2.2.2.1 46, .inl (P.2.1.1, 4, .inl (u.1 46))) := gC_arr P u 46 4 (by decide) (by decide) rfl
theorem sC_46 (P : PC) (u : MM) (v : Int32) (i : Nat) : (wC P u).set 46 (P.2.2.2.1 46, .inl (P.2.1.1, 4, .inl (upd (u.1 46) i v))) = wC P (mm_w u 46 i v) := sC_arr P u 46 4 (by decide) rfl i v
theorem cC_46 (P : PC) (u : MM) (a sp dp m : Nat) : (wC P u).set 46 (P.2.2.2.1 46, .inl (P.2.1.1, 4, .inl (va_cpy (u.1 a) (u.1 46) sp dp m))) = wC P (mm_cp u a sp 46 dp m) := cC_arr P u 46 4 (by decide) rfl a sp dp m
theorem gC_47 (P : PC) (u : MM) : (wC P u)[47]? = some (P.2.2.2.1 47, .inl (P.2.1.1, 4, .inl (u.1 47))) := gC_arr P u 47 4 (by decide) (by decide) rfl
theorem sC_47 (P : PC) (u : MM) (v : Int32) (i : Nat) : (wC P u).set 47 (P.2.2.2.1 47, .inl (P.2.1.1, 4, .inl (upd (u.1 47) i v))) = wC P (mm_w u 47 i v) := sC_arr P u 47 4 (by decide) rfl i v
theorem cC_47 (P : PC) (u : MM) (a sp dp m : Nat) : (wC P u).set 47 (P.2.2.2.1 47, .inl (P.2.1.1, 4, .inl (va_cpy (u.1 a) (u.1 47) sp dp m))) = wC P (mm_cp u a sp 47 dp m) := cC_arr P u 47 4 (by decide) rfl a sp dp m
theorem gC_48 (P : PC) (u : MM) : (wC P u)[48]? = some (P.2.2.2.1 48, .inl (P.2.1.1, 24, .inl (u.1 48))) := gC_arr P u 48 24 (by decide) (by decide) rfl
theorem sC_48 (P : PC) (u : MM) (v : Int32) (i : Nat) : (wC P u).set 48 (P.2.2.2.1 48, .inl (P.2.1.1, 24, .inl (upd (u.1 48) i v))) = wC P (mm_w u 48 i v) := sC_arr P u 48 24 (by decide) rfl i v
theorem cC_48 (P : PC) (u : MM) (a sp dp m : Nat) : (wC P u).set 48 (P.2.2.2.1 48, .inl (P.2.1.1, 24, .inl (va_cpy (u.1 a) (u.1 48) sp dp m))) = wC P (mm_cp u a sp 48 dp m) := cC_arr P u 48 24 (by decide) rfl a sp dp m
theorem gC_49 (P : PC) (u : MM) : (wC P u)[49]? = some (P.2.2.2.1 49, .inl (P.2.1.1, 24, .inl (u.1 49))) := gC_arr P u 49 24 (by decide) (by decide) rfl
theorem sC_49 (P : PC) (u : MM) (v : Int32) (i : Nat) : (wC P u).set 49 (P.2.2.2.1 49, .inl (P.2.1.1, 24, .inl (upd (u.1 49) i v))) = wC P (mm_w u 49 i v) := sC_arr P u 49 24 (by decide) rfl i v
theorem cC_49 (P : PC) (u : MM) (a sp dp m : Nat) : (wC P u).set 49 (P.2.2.2.1 49, .inl (P.2.1.1, 24, .inl (va_cpy (u.1 a) (u.1 49) sp dp m))) = wC P (mm_cp u a sp 49 dp m) := cC_arr P u 49 24 (by decide) rfl a sp dp m
theorem gC_50 (P : PC) (u : MM) : (wC P u)[50]? = some (P.2.2.2.1 50, .inl (P.2.1.1, 6, .inl (u.1 50))) := gC_arr P u 50 6 (by decide) (by decide) rfl
theorem sC_50 (P : PC) (u : MM) (v : Int32) (i : Nat) : (wC P u).set 50 (P.2.2.2.1 50, .inl (P.2.1.1, 6, .inl (upd (u.1 50) i v))) = wC P (mm_w u 50 i v) := sC_arr P u 50 6 (by decide) rfl i v
theorem cC_50 (P : PC) (u : MM) (a sp dp m : Nat) : (wC P u).set 50 (P.2.2.2.1 50, .inl (P.2.1.1, 6, .inl (va_cpy (u.1 a) (u.1 50) sp dp m))) = wC P (mm_cp u a sp 50 dp m) := cC_arr P u 50 6 (by decide) rfl a sp dp m
theorem gC_51 (P : PC) (u : MM) : (wC P u)[51]? = some (P.2.2.2.1 51, .inl (P.2.1.1, 6, .inl (u.1 51))) := gC_arr P u 51 6 (by decide) (by decide) rfl
theorem sC_51 (P : PC) (u : MM) (v : Int32) (i : Nat) : (wC P u).set 51 (P.2.2.2.1 51, .inl (P.2.1.1, 6, .inl (upd (u.1 51) i v))) = wC P (mm_w u 51 i v) := sC_arr P u 51 6 (by decide) rfl i v
theorem cC_51 (P : PC) (u : MM) (a sp dp m : Nat) : (wC P u).set 51 (P.2.2.2.1 51, .inl (P.2.1.1, 6, .inl (va_cpy (u.1 a) (u.1 51) sp dp m))) = wC P (mm_cp u a sp 51 dp m) := cC_arr P u 51 6 (by decide) rfl a sp dp m
theorem gC_52 (P : PC) (u : MM) : (wC P u)[52]? = some (P.2.2.2.1 52, .inl (P.2.1.1, 4, .inl (u.1 52))) := gC_arr P u 52 4 (by decide) (by decide) rfl
theorem sC_52 (P : PC) (u : MM) (v : Int32) (i : Nat) : (wC P u).set 52 (P.2.2.2.1 52, .inl (P.2.1.1, 4, .inl (upd (u.1 52) i v))) = wC P (mm_w u 52 i v) := sC_arr P u 52 4 (by decide) rfl i v
theorem cC_52 (P : PC) (u : MM) (a sp dp m : Nat) : (wC P u).set 52 (P.2.2.2.1 52, .inl (P.2.1.1, 4, .inl (va_cpy (u.1 a) (u.1 52) sp dp m))) = wC P (mm_cp u a sp 52 dp m) := cC_arr P u 52 4 (by decide) rfl a sp dp m
theorem gC_53 (P : PC) (u : MM) : (wC P u)[53]? = some (P.2.2.2.1 53, .inl (P.2.1.1, 4, .inl (u.1 53))) := gC_arr P u 53 4 (by decide) (by decide) rfl
theorem sC_53 (P : PC) (u : MM) (v : Int32) (i : Nat) : (wC P u).set 53 (P.2.2.2.1 53, .inl (P.2.1.1, 4, .inl (upd (u.1 53) i v))) = wC P (mm_w u 53 i v) := sC_arr P u 53 4 (by decide) rfl i v
theorem cC_53 (P : PC) (u : MM) (a sp dp m : Nat) : (wC P u).set 53 (P.2.2.2.1 53, .inl (P.2.1.1, 4, .inl (va_cpy (u.1 a) (u.1 53) sp dp m))) = wC P (mm_cp u a sp 53 dp m) := cC_arr P u 53 4 (by decide) rfl a sp dp m
theorem gC_54 (P : PC) (u : MM) : (wC P u)[54]? = some (P.2.2.2.1 54, .inl (P.2.1.1, 24, .inl (u.1 54))) := gC_arr P u 54 24 (by decide) (by decide) rfl
theorem sC_54 (P : PC) (u : MM) (v : Int32) (i : Nat) : (wC P u).set 54 (P.2.2.2.1 54, .inl (P.2.1.1, 24, .inl (upd (u.1 54) i v))) = wC P (mm_w u 54 i v) := sC_arr P u 54 24 (by decide) rfl i v
theorem cC_54 (P : PC) (u : MM) (a sp dp m : Nat) : (wC P u).set 54 (P.2.2.2.1 54, .inl (P.2.1.1, 24, .inl (va_cpy (u.1 a) (u.1 54) sp dp m))) = wC P (mm_cp u a sp 54 dp m) := cC_arr P u 54 24 (by decide) rfl a sp dp m
theorem lnC_items : ∀ i, i < 8 → lnC (55 + i) = 40 := by decide
theorem gC_items (P : PC) (u : MM) (i : Nat) (h : i < 8) : (wC P u)[55 + i]? = some (P.2.2.2.1 (55 + i), .inl (P.2.1.1, 40, .inl (u.1 (55 + i)))) := gC_arr P u (55 + i) 40 (by omega) (by omega) (lnC_items i h)
theorem sC_items (P : PC) (u : MM) (k : Nat) (h : k < 8) (v : Int32) (i : Nat) : (wC P u).set (55 + k) (P.2.2.2.1 (55 + k), .inl (P.2.1.1, 40, .inl (upd (u.1 (55 + k)) i v))) = wC P (mm_w u (55 + k) i v) := sC_arr P u (55 + k) 40 (by omega) (lnC_items k h) i v
theorem cC_items (P : PC) (u : MM) (k : Nat) (h : k < 8) (a sp dp m : Nat) : (wC P u).set (55 + k) (P.2.2.2.1 (55 + k), .inl (P.2.1.1, 40, .inl (va_cpy (u.1 a) (u.1 (55 + k)) sp dp m))) = wC P (mm_cp u a sp (55 + k) dp m) := cC_arr P u (55 + k) 40 (by omega) (lnC_items k h) a sp dp m
theorem lnC_before : ∀ i, i < 24 → lnC (63 + i) = 24 := by decide
theorem gC_before (P : PC) (u : MM) (i : Nat) (h : i < 24) : (wC P u)[63 + i]? = some (P.2.2.2.1 (63 + i), .inl (P.2.1.1, 24, .inl (u.1 (63 + i)))) := gC_arr P u (63 + i) 24 (by omega) (by omega) (lnC_before i h)
theorem sC_before (P : PC) (u : MM) (k : Nat) (h : k < 24) (v : Int32) (i : Nat) : (wC P u).set (63 + k) (P.2.2.2.1 (63 + k), .inl (P.2.1.1, 24, .inl (upd (u.1 (63 + k)) i v))) = wC P (mm_w u (63 + k) i v) := sC_arr P u (63 + k) 24 (by omega) (lnC_before k h) i v
theorem cC_before (P : PC) (u : MM) (k : Nat) (h : k < 24) (a sp dp m : Nat) : (wC P u).set (63 + k) (P.2.2.2.1 (63 + k), .inl (P.2.1.1, 24, .inl (va_cpy (u.1 a) (u.1 (63 + k)) sp dp m))) = wC P (mm_cp u a sp (63 + k) dp m) := cC_arr P u (63 + k) 24 (by omega) (lnC_before k h) a sp dp m
theorem pC_0_12 (P : PC) (u : MM) (v : Int32) : (wC P u).set 0 (P.2.2.2.1 0, .inr (7, [.ref (P.2.2.2.1 1), .ref (P.2.2.2.1 2), .ref (P.2.2.2.1 3), .ref (P.2.2.2.1 4), .ref (P.2.2.2.1 5), .ref (P.2.2.2.1 6), .ref (P.2.2.2.1 7), .ref (P.2.2.2.1 8), .ref (P.2.2.2.1 9), .ref (P.2.2.2.1 10), .ref (P.2.2.2.1 16), .ref (P.2.2.2.1 17), .int (mm_r u 0 12), .int (mm_r u 0 13)].set 12 (.int v))) = wC P (mm_w u 0 12 v) := by
  refine wC_set P u _ _ _ ?_ (eC_w P u 0 12 v)
  simp [eC, mm_r, mm_rl, mm_w]
theorem pC_0_13 (P : PC) (u : MM) (v : Int32) : (wC P u).set 0 (P.2.2.2.1 0, .inr (7, [.ref (P.2.2.2.1 1), .ref (P.2.2.2.1 2), .ref (P.2.2.2.1 3), .ref (P.2.2.2.1 4), .ref (P.2.2.2.1 5), .ref (P.2.2.2.1 6), .ref (P.2.2.2.1 7), .ref (P.2.2.2.1 8), .ref (P.2.2.2.1 9), .ref (P.2.2.2.1 10), .ref (P.2.2.2.1 16), .ref (P.2.2.2.1 17), .int (mm_r u 0 12), .int (mm_r u 0 13)].set 13 (.int v))) = wC P (mm_w u 0 13 v) := by
  refine wC_set P u _ _ _ ?_ (eC_w P u 0 13 v)
  simp [eC, mm_r, mm_rl, mm_w]
theorem pC_2_1 (P : PC) (u : MM) (v : Int32) : (wC P u).set 2 (P.2.2.2.1 2, .inr (5, [.ref (P.2.2.2.1 15), .int (mm_r u 2 1), .int (mm_r u 2 2), .int (mm_r u 2 3), .int (mm_r u 2 4), .int (mm_r u 2 5), .int (mm_r u 2 6)].set 1 (.int v))) = wC P (mm_w u 2 1 v) := by
  refine wC_set P u _ _ _ ?_ (eC_w P u 2 1 v)
  simp [eC, mm_r, mm_rl, mm_w]
theorem pC_2_2 (P : PC) (u : MM) (v : Int32) : (wC P u).set 2 (P.2.2.2.1 2, .inr (5, [.ref (P.2.2.2.1 15), .int (mm_r u 2 1), .int (mm_r u 2 2), .int (mm_r u 2 3), .int (mm_r u 2 4), .int (mm_r u 2 5), .int (mm_r u 2 6)].set 2 (.int v))) = wC P (mm_w u 2 2 v) := by
  refine wC_set P u _ _ _ ?_ (eC_w P u 2 2 v)
  simp [eC, mm_r, mm_rl, mm_w]
theorem pC_2_3 (P : PC) (u : MM) (v : Int32) : (wC P u).set 2 (P.2.2.2.1 2, .inr (5, [.ref (P.2.2.2.1 15), .int (mm_r u 2 1), .int (mm_r u 2 2), .int (mm_r u 2 3), .int (mm_r u 2 4), .int (mm_r u 2 5), .int (mm_r u 2 6)].set 3 (.int v))) = wC P (mm_w u 2 3 v) := by
  refine wC_set P u _ _ _ ?_ (eC_w P u 2 3 v)
  simp [eC, mm_r, mm_rl, mm_w]
theorem pC_2_4 (P : PC) (u : MM) (v : Int32) : (wC P u).set 2 (P.2.2.2.1 2, .inr (5, [.ref (P.2.2.2.1 15), .int (mm_r u 2 1), .int (mm_r u 2 2), .int (mm_r u 2 3), .int (mm_r u 2 4), .int (mm_r u 2 5), .int (mm_r u 2 6)].set 4 (.int v))) = wC P (mm_w u 2 4 v) := by
  refine wC_set P u _ _ _ ?_ (eC_w P u 2 4 v)
  simp [eC, mm_r, mm_rl, mm_w]
theorem pC_2_5 (P : PC) (u : MM) (v : Int32) : (wC P u).set 2 (P.2.2.2.1 2, .inr (5, [.ref (P.2.2.2.1 15), .int (mm_r u 2 1), .int (mm_r u 2 2), .int (mm_r u 2 3), .int (mm_r u 2 4), .int (mm_r u 2 5), .int (mm_r u 2 6)].set 5 (.int v))) = wC P (mm_w u 2 5 v) := by
  refine wC_set P u _ _ _ ?_ (eC_w P u 2 5 v)
  simp [eC, mm_r, mm_rl, mm_w]
theorem pC_2_6 (P : PC) (u : MM) (v : Int32) : (wC P u).set 2 (P.2.2.2.1 2, .inr (5, [.ref (P.2.2.2.1 15), .int (mm_r u 2 1), .int (mm_r u 2 2), .int (mm_r u 2 3), .int (mm_r u 2 4), .int (mm_r u 2 5), .int (mm_r u 2 6)].set 6 (.int v))) = wC P (mm_w u 2 6 v) := by
  refine wC_set P u _ _ _ ?_ (eC_w P u 2 6 v)
  simp [eC, mm_r, mm_rl, mm_w]
theorem pC_3_0 (P : PC) (u : MM) (v : Int32) : (wC P u).set 3 (P.2.2.2.1 3, .inr (3, [.int (mm_r u 3 0), .int (mm_r u 3 1), .int (mm_r u 3 2), .int (mm_r u 3 3), .int (mm_r u 3 4), .int (mm_r u 3 5), .int (mm_r u 3 6), .int (mm_r u 3 7), .int (mm_r u 3 8), .ref (P.2.2.2.1 31), .ref (P.2.2.2.1 32), .ref (P.2.2.2.1 33), .ref (P.2.2.2.1 34), .ref (P.2.2.2.1 35), .ref (P.2.2.2.1 36)].set 0 (.int v))) = wC P (mm_w u 3 0 v) := by
  refine wC_set P u _ _ _ ?_ (eC_w P u 3 0 v)
  simp [eC, mm_r, mm_rl, mm_w]
theorem pC_3_1 (P : PC) (u : MM) (v : Int32) : (wC P u).set 3 (P.2.2.2.1 3, .inr (3, [.int (mm_r u 3 0), .int (mm_r u 3 1), .int (mm_r u 3 2), .int (mm_r u 3 3), .int (mm_r u 3 4), .int (mm_r u 3 5), .int (mm_r u 3 6), .int (mm_r u 3 7), .int (mm_r u 3 8), .ref (P.2.2.2.1 31), .ref (P.2.2.2.1 32), .ref (P.2.2.2.1 33), .ref (P.2.2.2.1 34), .ref (P.2.2.2.1 35), .ref (P.2.2.2.1 36)].set 1 (.int v))) = wC P (mm_w u 3 1 v) := by
  refine wC_set P u _ _ _ ?_ (eC_w P u 3 1 v)
  simp [eC, mm_r, mm_rl, mm_w]
theorem pC_3_2 (P : PC) (u : MM) (v : Int32) : (wC P u).set 3 (P.2.2.2.1 3, .inr (3, [.int (mm_r u 3 0), .int (mm_r u 3 1), .int (mm_r u 3 2), .int (mm_r u 3 3), .int (mm_r u 3 4), .int (mm_r u 3 5), .int (mm_r u 3 6), .int (mm_r u 3 7), .int (mm_r u 3 8), .ref (P.2.2.2.1 31), .ref (P.2.2.2.1 32), .ref (P.2.2.2.1 33), .ref (P.2.2.2.1 34), .ref (P.2.2.2.1 35), .ref (P.2.2.2.1 36)].set 2 (.int v))) = wC P (mm_w u 3 2 v) := by
  refine wC_set P u _ _ _ ?_ (eC_w P u 3 2 v)
  simp [eC, mm_r, mm_rl, mm_w]
theorem pC_3_3 (P : PC) (u : MM) (v : Int32) : (wC P u).set 3 (P.2.2.2.1 3, .inr (3, [.int (mm_r u 3 0), .int (mm_r u 3 1), .int (mm_r u 3 2), .int (mm_r u 3 3), .int (mm_r u 3 4), .int (mm_r u 3 5), .int (mm_r u 3 6), .int (mm_r u 3 7), .int (mm_r u 3 8), .ref (P.2.2.2.1 31), .ref (P.2.2.2.1 32), .ref (P.2.2.2.1 33), .ref (P.2.2.2.1 34), .ref (P.2.2.2.1 35), .ref (P.2.2.2.1 36)].set 3 (.int v))) = wC P (mm_w u 3 3 v) := by
  refine wC_set P u _ _ _ ?_ (eC_w P u 3 3 v)
  simp [eC, mm_r, mm_rl, mm_w]
theorem pC_3_4 (P : PC) (u : MM) (v : Int32) : (wC P u).set 3 (P.2.2.2.1 3, .inr (3, [.int (mm_r u 3 0), .int (mm_r u 3 1), .int (mm_r u 3 2), .int (mm_r u 3 3), .int (mm_r u 3 4), .int (mm_r u 3 5), .int (mm_r u 3 6), .int (mm_r u 3 7), .int (mm_r u 3 8), .ref (P.2.2.2.1 31), .ref (P.2.2.2.1 32), .ref (P.2.2.2.1 33), .ref (P.2.2.2.1 34), .ref (P.2.2.2.1 35), .ref (P.2.2.2.1 36)].set 4 (.int v))) = wC P (mm_w u 3 4 v) := by
  refine wC_set P u _ _ _ ?_ (eC_w P u 3 4 v)
  simp [eC, mm_r, mm_rl, mm_w]
theorem pC_3_5 (P : PC) (u : MM) (v : Int32) : (wC P u).set 3 (P.2.2.2.1 3, .inr (3, [.int (mm_r u 3 0), .int (mm_r u 3 1), .int (mm_r u 3 2), .int (mm_r u 3 3), .int (mm_r u 3 4), .int (mm_r u 3 5), .int (mm_r u 3 6), .int (mm_r u 3 7), .int (mm_r u 3 8), .ref (P.2.2.2.1 31), .ref (P.2.2.2.1 32), .ref (P.2.2.2.1 33), .ref (P.2.2.2.1 34), .ref (P.2.2.2.1 35), .ref (P.2.2.2.1 36)].set 5 (.int v))) = wC P (mm_w u 3 5 v) := by
  refine wC_set P u _ _ _ ?_ (eC_w P u 3 5 v)
  simp [eC, mm_r, mm_rl, mm_w]
theorem pC_3_6 (P : PC) (u : MM) (v : Int32) : (wC P u).set 3 (P.2.2.2.1 3, .inr (3, [.int (mm_r u 3 0), .int (mm_r u 3 1), .int (mm_r u 3 2), .int (mm_r u 3 3), .int (mm_r u 3 4), .int (mm_r u 3 5), .int (mm_r u 3 6), .int (mm_r u 3 7), .int (mm_r u 3 8), .ref (P.2.2.2.1 31), .ref (P.2.2.2.1 32), .ref (P.2.2.2.1 33), .ref (P.2.2.2.1 34), .ref (P.2.2.2.1 35), .ref (P.2.2.2.1 36)].set 6 (.int v))) = wC P (mm_w u 3 6 v) := by
  refine wC_set P u _ _ _ ?_ (eC_w P u 3 6 v)
  simp [eC, mm_r, mm_rl, mm_w]
theorem pC_3_7 (P : PC) (u : MM) (v : Int32) : (wC P u).set 3 (P.2.2.2.1 3, .inr (3, [.int (mm_r u 3 0), .int (mm_r u 3 1), .int (mm_r u 3 2), .int (mm_r u 3 3), .int (mm_r u 3 4), .int (mm_r u 3 5), .int (mm_r u 3 6), .int (mm_r u 3 7), .int (mm_r u 3 8), .ref (P.2.2.2.1 31), .ref (P.2.2.2.1 32), .ref (P.2.2.2.1 33), .ref (P.2.2.2.1 34), .ref (P.2.2.2.1 35), .ref (P.2.2.2.1 36)].set 7 (.int v))) = wC P (mm_w u 3 7 v) := by
  refine wC_set P u _ _ _ ?_ (eC_w P u 3 7 v)
  simp [eC, mm_r, mm_rl, mm_w]
theorem pC_3_8 (P : PC) (u : MM) (v : Int32) : (wC P u).set 3 (P.2.2.2.1 3, .inr (3, [.int (mm_r u 3 0), .int (mm_r u 3 1), .int (mm_r u 3 2), .int (mm_r u 3 3), .int (mm_r u 3 4), .int (mm_r u 3 5), .int (mm_r u 3 6), .int (mm_r u 3 7), .int (mm_r u 3 8), .ref (P.2.2.2.1 31), .ref (P.2.2.2.1 32), .ref (P.2.2.2.1 33), .ref (P.2.2.2.1 34), .ref (P.2.2.2.1 35), .ref (P.2.2.2.1 36)].set 8 (.int v))) = wC P (mm_w u 3 8 v) := by
  refine wC_set P u _ _ _ ?_ (eC_w P u 3 8 v)
  simp [eC, mm_r, mm_rl, mm_w]
theorem pC_4_0 (P : PC) (u : MM) (v : Int32) : (wC P u).set 4 (P.2.2.2.1 4, .inr (3, [.int (mm_r u 4 0), .int (mm_r u 4 1), .int (mm_r u 4 2), .int (mm_r u 4 3), .int (mm_r u 4 4), .int (mm_r u 4 5), .int (mm_r u 4 6), .int (mm_r u 4 7), .int (mm_r u 4 8), .ref (P.2.2.2.1 37), .ref (P.2.2.2.1 38), .ref (P.2.2.2.1 39), .ref (P.2.2.2.1 40), .ref (P.2.2.2.1 41), .ref (P.2.2.2.1 42)].set 0 (.int v))) = wC P (mm_w u 4 0 v) := by
  refine wC_set P u _ _ _ ?_ (eC_w P u 4 0 v)
  simp [eC, mm_r, mm_rl, mm_w]
theorem pC_4_1 (P : PC) (u : MM) (v : Int32) : (wC P u).set 4 (P.2.2.2.1 4, .inr (3, [.int (mm_r u 4 0), .int (mm_r u 4 1), .int (mm_r u 4 2), .int (mm_r u 4 3), .int (mm_r u 4 4), .int (mm_r u 4 5), .int (mm_r u 4 6), .int (mm_r u 4 7), .int (mm_r u 4 8), .ref (P.2.2.2.1 37), .ref (P.2.2.2.1 38), .ref (P.2.2.2.1 39), .ref (P.2.2.2.1 40), .ref (P.2.2.2.1 41), .ref (P.2.2.2.1 42)].set 1 (.int v))) = wC P (mm_w u 4 1 v) := by
  refine wC_set P u _ _ _ ?_ (eC_w P u 4 1 v)
  simp [eC, mm_r, mm_rl, mm_w]
theorem pC_4_2 (P : PC) (u : MM) (v : Int32) : (wC P u).set 4 (P.2.2.2.1 4, .inr (3, [.int (mm_r u 4 0), .int (mm_r u 4 1), .int (mm_r u 4 2), .int (mm_r u 4 3), .int (mm_r u 4 4), .int (mm_r u 4 5), .int (mm_r u 4 6), .int (mm_r u 4 7), .int (mm_r u 4 8), .ref (P.2.2.2.1 37), .ref (P.2.2.2.1 38), .ref (P.2.2.2.1 39), .ref (P.2.2.2.1 40), .ref (P.2.2.2.1 41), .ref (P.2.2.2.1 42)].set 2 (.int v))) = wC P (mm_w u 4 2 v) := by
  refine wC_set P u _ _ _ ?_ (eC_w P u 4 2 v)
  simp [eC, mm_r, mm_rl, mm_w]
theorem pC_4_3 (P : PC) (u : MM) (v : Int32) : (wC P u).set 4 (P.2.2.2.1 4, .inr (3, [.int (mm_r u 4 0), .int (mm_r u 4 1), .int (mm_r u 4 2), .int (mm_r u 4 3), .int (mm_r u 4 4), .int (mm_r u 4 5), .int (mm_r u 4 6), .int (mm_r u 4 7), .int (mm_r u 4 8), .ref (P.2.2.2.1 37), .ref (P.2.2.2.1 38), .ref (P.2.2.2.1 39), .ref (P.2.2.2.1 40), .ref (P.2.2.2.1 41), .ref (P.2.2.2.1 42)].set 3 (.int v))) = wC P (mm_w u 4 3 v) := by
  refine wC_set P u _ _ _ ?_ (eC_w P u 4 3 v)
  simp [eC, mm_r, mm_rl, mm_w]
theorem pC_4_4 (P : PC) (u : MM) (v : Int32) : (wC P u).set 4 (P.2.2.2.1 4, .inr (3, [.int (mm_r u 4 0), .int (mm_r u 4 1), .int (mm_r u 4 2), .int (mm_r u 4 3), .int (mm_r u 4 4), .int (mm_r u 4 5), .int (mm_r u 4 6), .int (mm_r u 4 7), .int (mm_r u 4 8), .ref (P.2.2.2.1 37), .ref (P.2.2.2.1 38), .ref (P.2.2.2.1 39), .ref (P.2.2.2.1 40), .ref (P.2.2.2.1 41), .ref (P.2.2.2.1 42)].set 4 (.int v))) = wC P (mm_w u 4 4 v) := by
  refine wC_set P u _ _ _ ?_ (eC_w P u 4 4 v)
  simp [eC, mm_r, mm_rl, mm_w]
theorem pC_4_5 (P : PC) (u : MM) (v : Int32) : (wC P u).set 4 (P.2.2.2.1 4, .inr (3, [.int (mm_r u 4 0), .int (mm_r u 4 1), .int (mm_r u 4 2), .int (mm_r u 4 3), .int (mm_r u 4 4), .int (mm_r u 4 5), .int (mm_r u 4 6), .int (mm_r u 4 7), .int (mm_r u 4 8), .ref (P.2.2.2.1 37), .ref (P.2.2.2.1 38), .ref (P.2.2.2.1 39), .ref (P.2.2.2.1 40), .ref (P.2.2.2.1 41), .ref (P.2.2.2.1 42)].set 5 (.int v))) = wC P (mm_w u 4 5 v) := by
  refine wC_set P u _ _ _ ?_ (eC_w P u 4 5 v)
  simp [eC, mm_r, mm_rl, mm_w]
theorem pC_4_6 (P : PC) (u : MM) (v : Int32) : (wC P u).set 4 (P.2.2.2.1 4, .inr (3, [.int (mm_r u 4 0), .int (mm_r u 4 1), .int (mm_r u 4 2), .int (mm_r u 4 3), .int (mm_r u 4 4), .int (mm_r u 4 5), .int (mm_r u 4 6), .int (mm_r u 4 7), .int (mm_r u 4 8), .ref (P.2.2.2.1 37), .ref (P.2.2.2.1 38), .ref (P.2.2.2.1 39), .ref (P.2.2.2.1 40), .ref (P.2.2.2.1 41), .ref (P.2.2.2.1 42)].set 6 (.int v))) = wC P (mm_w u 4 6 v) := by
  refine wC_set P u _ _ _ ?_ (eC_w P u 4 6 v)
  simp [eC, mm_r, mm_rl, mm_w]
theorem pC_4_7 (P : PC) (u : MM) (v : Int32) : (wC P u).set 4 (P.2.2.2.1 4, .inr (3, [.int (mm_r u 4 0), .int (mm_r u 4 1), .int (mm_r u 4 2), .int (mm_r u 4 3), .int (mm_r u 4 4), .int (mm_r u 4 5), .int (mm_r u 4 6), .int (mm_r u 4 7), .int (mm_r u 4 8), .ref (P.2.2.2.1 37), .ref (P.2.2.2.1 38), .ref (P.2.2.2.1 39), .ref (P.2.2.2.1 40), .ref (P.2.2.2.1 41), .ref (P.2.2.2.1 42)].set 7 (.int v))) = wC P (mm_w u 4 7 v) := by
  refine wC_set P u _ _ _ ?_ (eC_w P u 4 7 v)
  simp [eC, mm_r, mm_rl, mm_w]
theorem pC_4_8 (P : PC) (u : MM) (v : Int32) : (wC P u).set 4 (P.2.2.2.1 4, .inr (3, [.int (mm_r u 4 0), .int (mm_r u 4 1), .int (mm_r u 4 2), .int (mm_r u 4 3), .int (mm_r u 4 4), .int (mm_r u 4 5), .int (mm_r u 4 6), .int (mm_r u 4 7), .int (mm_r u 4 8), .ref (P.2.2.2.1 37), .ref (P.2.2.2.1 38), .ref (P.2.2.2.1 39), .ref (P.2.2.2.1 40), .ref (P.2.2.2.1 41), .ref (P.2.2.2.1 42)].set 8 (.int v))) = wC P (mm_w u 4 8 v) := by
  refine wC_set P u _ _ _ ?_ (eC_w P u 4 8 v)
  simp [eC, mm_r, mm_rl, mm_w]
theorem pC_5_0 (P : PC) (u : MM) (v : Int32) : (wC P u).set 5 (P.2.2.2.1 5, .inr (3, [.int (mm_r u 5 0), .int (mm_r u 5 1), .int (mm_r u 5 2), .int (mm_r u 5 3), .int (mm_r u 5 4), .int (mm_r u 5 5), .int (mm_r u 5 6), .int (mm_r u 5 7), .int (mm_r u 5 8), .ref (P.2.2.2.1 43), .ref (P.2.2.2.1 44), .ref (P.2.2.2.1 45), .ref (P.2.2.2.1 46), .ref (P.2.2.2.1 47), .ref (P.2.2.2.1 48)].set 0 (.int v))) = wC P (mm_w u 5 0 v) := by
  refine wC_set P u _ _ _ ?_ (eC_w P u 5 0 v)
  simp [eC, mm_r, mm_rl, mm_w]
theorem pC_5_1 (P : PC) (u : MM) (v : Int32) : (wC P u).set 5 (P.2.2.2.1 5, .inr (3, [.int (mm_r u 5 0), .int (mm_r u 5 1), .int (mm_r u 5 2), .int (mm_r u 5 3), .int (mm_r u 5 4), .int (mm_r u 5 5), .int (mm_r u 5 6), .int (mm_r u 5 7), .int (mm_r u 5 8), .ref (P.2.2.2.1 43), .ref (P.2.2.2.1 44), .ref (P.2.2.2.1 45), .ref (P.2.2.2.1 46), .ref (P.2.2.2.1 47), .ref (P.2.2.2.1 48)].set 1 (.int v))) = wC P (mm_w u 5 1 v) := by
  refine wC_set P u _ _ _ ?_ (eC_w P u 5 1 v)
  simp [eC, mm_r, mm_rl, mm_w]
theorem pC_5_2 (P : PC) (u : MM) (v : Int32) : (wC P u).set 5 (P.2.2.2.1 5, .inr (3, [.int (mm_r u 5 0), .int (mm_r u 5 1), .int (mm_r u 5 2), .int (mm_r u 5 3), .int (mm_r u 5 4), .int (mm_r u 5 5), .int (mm_r u 5 6), .int (mm_r u 5 7), .int (mm_r u 5 8), .ref (P.2.2.2.1 43), .ref (P.2.2.2.1 44), .ref (P.2.2.2.1 45), .ref (P.2.2.2.1 46), .ref (P.2.2.2.1 47), .ref (P.2.2.2.1 48)].set 2 (.int v))) = wC P (mm_w u 5 2 v) := by
  refine wC_set P u _ _ _ ?_ (eC_w P u 5 2 v)
  simp [eC, mm_r, mm_rl, mm_w]
theorem pC_5_3 (P : PC) (u : MM) (v : Int32) : (wC P u).set 5 (P.2.2.2.1 5, .inr (3, [.int (mm_r u 5 0), .int (mm_r u 5 1), .int (mm_r u 5 2), .int (mm_r u 5 3), .int (mm_r u 5 4), .int (mm_r u 5 5), .int (mm_r u 5 6), .int (mm_r u 5 7), .int (mm_r u 5 8), .ref (P.2.2.2.1 43), .ref (P.2.2.2.1 44), .ref (P.2.2.2.1 45), .ref (P.2.2.2.1 46), .ref (P.2.2.2.1 47), .ref (P.2.2.2.1 48)].set 3 (.int v))) = wC P (mm_w u 5 3 v) := by
  refine wC_set P u _ _ _ ?_ (eC_w P u 5 3 v)
  simp [eC, mm_r, mm_rl, mm_w]
theorem pC_5_4 (P : PC) (u : MM) (v : Int32) : (wC P u).set 5 (P.2.2.2.1 5, .inr (3, [.int (mm_r u 5 0), .int (mm_r u 5 1), .int (mm_r u 5 2), .int (mm_r u 5 3), .int (mm_r u 5 4), .int (mm_r u 5 5), .int (mm_r u 5 6), .int (mm_r u 5 7), .int (mm_r u 5 8), .ref (P.2.2.2.1 43), .ref (P.2.2.2.1 44), .ref (P.2.2.2.1 45), .ref (P.2.2.2.1 46), .ref (P.2.2.2.1 47), .ref (P.2.2.2.1 48)].set 4 (.int v))) = wC P (mm_w u 5 4 v) := by
  refine wC_set P u _ _ _ ?_ (eC_w P u 5 4 v)
  simp [eC, mm_r, mm_rl, mm_w]
theorem pC_5_5 (P : PC) (u : MM) (v : Int32) : (wC P u).set 5 (P.2.2.2.1 5, .inr (3, [.int (mm_r u 5 0), .int (mm_r u 5 1), .int (mm_r u 5 2), .int (mm_r u 5 3), .int (mm_r u 5 4), .int (mm_r u 5 5), .int (mm_r u 5 6), .int (mm_r u 5 7), .int (mm_r u 5 8), .ref (P.2.2.2.1 43), .ref (P.2.2.2.1 44), .ref (P.2.2.2.1 45), .ref (P.2.2.2.1 46), .ref (P.2.2.2.1 47), .ref (P.2.2.2.1 48)].set 5 (.int v))) = wC P (mm_w u 5 5 v) := by
  refine wC_set P u _ _ _ ?_ (eC_w P u 5 5 v)
  simp [eC, mm_r, mm_rl, mm_w]
theorem pC_5_6 (P : PC) (u : MM) (v : Int32) : (wC P u).set 5 (P.2.2.2.1 5, .inr (3, [.int (mm_r u 5 0), .int (mm_r u 5 1), .int (mm_r u 5 2), .int (mm_r u 5 3), .int (mm_r u 5 4), .int (mm_r u 5 5), .int (mm_r u 5 6), .int (mm_r u 5 7), .int (mm_r u 5 8), .ref (P.2.2.2.1 43), .ref (P.2.2.2.1 44), .ref (P.2.2.2.1 45), .ref (P.2.2.2.1 46), .ref (P.2.2.2.1 47), .ref (P.2.2.2.1 48)].set 6 (.int v))) = wC P (mm_w u 5 6 v) := by
  refine wC_set P u _ _ _ ?_ (eC_w P u 5 6 v)
  simp [eC, mm_r, mm_rl, mm_w]
theorem pC_5_7 (P : PC) (u : MM) (v : Int32) : (wC P u).set 5 (P.2.2.2.1 5, .inr (3, [.int (mm_r u 5 0), .int (mm_r u 5 1), .int (mm_r u 5 2), .int (mm_r u 5 3), .int (mm_r u 5 4), .int (mm_r u 5 5), .int (mm_r u 5 6), .int (mm_r u 5 7), .int (mm_r u 5 8), .ref (P.2.2.2.1 43), .ref (P.2.2.2.1 44), .ref (P.2.2.2.1 45), .ref (P.2.2.2.1 46), .ref (P.2.2.2.1 47), .ref (P.2.2.2.1 48)].set 7 (.int v))) = wC P (mm_w u 5 7 v) := by
  refine wC_set P u _ _ _ ?_ (eC_w P u 5 7 v)
  simp [eC, mm_r, mm_rl, mm_w]
theorem pC_5_8 (P : PC) (u : MM) (v : Int32) : (wC P u).set 5 (P.2.2.2.1 5, .inr (3, [.int (mm_r u 5 0), .int (mm_r u 5 1), .int (mm_r u 5 2), .int (mm_r u 5 3), .int (mm_r u 5 4), .int (mm_r u 5 5), .int (mm_r u 5 6), .int (mm_r u 5 7), .int (mm_r u 5 8), .ref (P.2.2.2.1 43), .ref (P.2.2.2.1 44), .ref (P.2.2.2.1 45), .ref (P.2.2.2.1 46), .ref (P.2.2.2.1 47), .ref (P.2.2.2.1 48)].set 8 (.int v))) = wC P (mm_w u 5 8 v) := by
  refine wC_set P u _ _ _ ?_ (eC_w P u 5 8 v)
  simp [eC, mm_r, mm_rl, mm_w]
theorem pC_6_0 (P : PC) (u : MM) (v : Int32) : (wC P u).set 6 (P.2.2.2.1 6, .inr (3, [.int (mm_r u 6 0), .int (mm_r u 6 1), .int (mm_r u 6 2), .int (mm_r u 6 3), .int (mm_r u 6 4), .int (mm_r u 6 5), .int (mm_r u 6 6), .int (mm_r u 6 7), .int (mm_r u 6 8), .ref (P.2.2.2.1 49), .ref (P.2.2.2.1 50), .ref (P.2.2.2.1 51), .ref (P.2.2.2.1 52), .ref (P.2.2.2.1 53), .ref (P.2.2.2.1 54)].set 0 (.int v))) = wC P (mm_w u 6 0 v) := by
  refine wC_set P u _ _ _ ?_ (eC_w P u 6 0 v)
  simp [eC, mm_r, mm_rl, mm_w]
theorem pC_6_1 (P : PC) (u : MM) (v : Int32) : (wC P u).set 6 (P.2.2.2.1 6, .inr (3, [.int (mm_r u 6 0), .int (mm_r u 6 1), .int (mm_r u 6 2), .int (mm_r u 6 3), .int (mm_r u 6 4), .int (mm_r u 6 5), .int (mm_r u 6 6), .int (mm_r u 6 7), .int (mm_r u 6 8), .ref (P.2.2.2.1 49), .ref (P.2.2.2.1 50), .ref (P.2.2.2.1 51), .ref (P.2.2.2.1 52), .ref (P.2.2.2.1 53), .ref (P.2.2.2.1 54)].set 1 (.int v))) = wC P (mm_w u 6 1 v) := by
  refine wC_set P u _ _ _ ?_ (eC_w P u 6 1 v)
  simp [eC, mm_r, mm_rl, mm_w]
theorem pC_6_2 (P : PC) (u : MM) (v : Int32) : (wC P u).set 6 (P.2.2.2.1 6, .inr (3, [.int (mm_r u 6 0), .int (mm_r u 6 1), .int (mm_r u 6 2), .int (mm_r u 6 3), .int (mm_r u 6 4), .int (mm_r u 6 5), .int (mm_r u 6 6), .int (mm_r u 6 7), .int (mm_r u 6 8), .ref (P.2.2.2.1 49), .ref (P.2.2.2.1 50), .ref (P.2.2.2.1 51), .ref (P.2.2.2.1 52), .ref (P.2.2.2.1 53), .ref (P.2.2.2.1 54)].set 2 (.int v))) = wC P (mm_w u 6 2 v) := by
  refine wC_set P u _ _ _ ?_ (eC_w P u 6 2 v)
  simp [eC, mm_r, mm_rl, mm_w]
theorem pC_6_3 (P : PC) (u : MM) (v : Int32) : (wC P u).set 6 (P.2.2.2.1 6, .inr (3, [.int (mm_r u 6 0), .int (mm_r u 6 1), .int (mm_r u 6 2), .int (mm_r u 6 3), .int (mm_r u 6 4), .int (mm_r u 6 5), .int (mm_r u 6 6), .int (mm_r u 6 7), .int (mm_r u 6 8), .ref (P.2.2.2.1 49), .ref (P.2.2.2.1 50), .ref (P.2.2.2.1 51), .ref (P.2.2.2.1 52), .ref (P.2.2.2.1 53), .ref (P.2.2.2.1 54)].set 3 (.int v))) = wC P (mm_w u 6 3 v) := by
  refine wC_set P u _ _ _ ?_ (eC_w P u 6 3 v)
  simp [eC, mm_r, mm_rl, mm_w]
theorem pC_6_4 (P : PC) (u : MM) (v : Int32) : (wC P u).set 6 (P.2.2.2.1 6, .inr (3, [.int (mm_r u 6 0), .int (mm_r u 6 1), .int (mm_r u 6 2), .int (mm_r u 6 3), .int (mm_r u 6 4), .int (mm_r u 6 5), .int (mm_r u 6 6), .int (mm_r u 6 7), .int (mm_r u 6 8), .ref (P.2.2.2.1 49), .ref (P.2.2.2.1 50), .ref (P.2.2.2.1 51), .ref (P.2.2.2.1 52), .ref (P.2.2.2.1 53), .ref (P.2.2.2.1 54)].set 4 (.int v))) = wC P (mm_w u 6 4 v) := by
  refine wC_set P u _ _ _ ?_ (eC_w P u 6 4 v)
  simp [eC, mm_r, mm_rl, mm_w]
theorem pC_6_5 (P : PC) (u : MM) (v : Int32) : (wC P u).set 6 (P.2.2.2.1 6, .inr (3, [.int (mm_r u 6 0), .int (mm_r u 6 1), .int (mm_r u 6 2), .int (mm_r u 6 3), .int (mm_r u 6 4), .int (mm_r u 6 5), .int (mm_r u 6 6), .int (mm_r u 6 7), .int (mm_r u 6 8), .ref (P.2.2.2.1 49), .ref (P.2.2.2.1 50), .ref (P.2.2.2.1 51), .ref (P.2.2.2.1 52), .ref (P.2.2.2.1 53), .ref (P.2.2.2.1 54)].set 5 (.int v))) = wC P (mm_w u 6 5 v) := by
  refine wC_set P u _ _ _ ?_ (eC_w P u 6 5 v)
  simp [eC, mm_r, mm_rl, mm_w]
theorem pC_6_6 (P : PC) (u : MM) (v : Int32) : (wC P u).set 6 (P.2.2.2.1 6, .inr (3, [.int (mm_r u 6 0), .int (mm_r u 6 1), .int (mm_r u 6 2), .int (mm_r u 6 3), .int (mm_r u 6 4), .int (mm_r u 6 5), .int (mm_r u 6 6), .int (mm_r u 6 7), .int (mm_r u 6 8), .ref (P.2.2.2.1 49), .ref (P.2.2.2.1 50), .ref (P.2.2.2.1 51), .ref (P.2.2.2.1 52), .ref (P.2.2.2.1 53), .ref (P.2.2.2.1 54)].set 6 (.int v))) = wC P (mm_w u 6 6 v) := by
  refine wC_set P u _ _ _ ?_ (eC_w P u 6 6 v)
  simp [eC, mm_r, mm_rl, mm_w]
theorem pC_6_7 (P : PC) (u : MM) (v : Int32) : (wC P u).set 6 (P.2.2.2.1 6, .inr (3, [.int (mm_r u 6 0), .int (mm_r u 6 1), .int (mm_r u 6 2), .int (mm_r u 6 3), .int (mm_r u 6 4), .int (mm_r u 6 5), .int (mm_r u 6 6), .int (mm_r u 6 7), .int (mm_r u 6 8), .ref (P.2.2.2.1 49), .ref (P.2.2.2.1 50), .ref (P.2.2.2.1 51), .ref (P.2.2.2.1 52), .ref (P.2.2.2.1 53), .ref (P.2.2.2.1 54)].set 7 (.int v))) = wC P (mm_w u 6 7 v) := by
  refine wC_set P u _ _ _ ?_ (eC_w P u 6 7 v)
  simp [eC, mm_r, mm_rl, mm_w]
theorem pC_6_8 (P : PC) (u : MM) (v : Int32) : (wC P u).set 6 (P.2.2.2.1 6, .inr (3, [.int (mm_r u 6 0), .int (mm_r u 6 1), .int (mm_r u 6 2), .int (mm_r u 6 3), .int (mm_r u 6 4), .int (mm_r u 6 5), .int (mm_r u 6 6), .int (mm_r u 6 7), .int (mm_r u 6 8), .ref (P.2.2.2.1 49), .ref (P.2.2.2.1 50), .ref (P.2.2.2.1 51), .ref (P.2.2.2.1 52), .ref (P.2.2.2.1 53), .ref (P.2.2.2.1 54)].set 8 (.int v))) = wC P (mm_w u 6 8 v) := by
  refine wC_set P u _ _ _ ?_ (eC_w P u 6 8 v)
  simp [eC, mm_r, mm_rl, mm_w]
theorem pC_7_1 (P : PC) (u : MM) (v : Int32) : (wC P u).set 7 (P.2.2.2.1 7, .inr (0, [.ref (P.2.2.2.1 12), .int (mm_r u 7 1), .int (mm_r u 7 2)].set 1 (.int v))) = wC P (mm_w u 7 1 v) := by
  refine wC_set P u _ _ _ ?_ (eC_w P u 7 1 v)
  simp [eC, mm_r, mm_rl, mm_w]
theorem pC_7_2 (P : PC) (u : MM) (v : Int32) : (wC P u).set 7 (P.2.2.2.1 7, .inr (0, [.ref (P.2.2.2.1 12), .int (mm_r u 7 1), .int (mm_r u 7 2)].set 2 (.int v))) = wC P (mm_w u 7 2 v) := by
  refine wC_set P u _ _ _ ?_ (eC_w P u 7 2 v)
  simp [eC, mm_r, mm_rl, mm_w]
theorem pC_8_1 (P : PC) (u : MM) (v : Int32) : (wC P u).set 8 (P.2.2.2.1 8, .inr (4, [.ref (P.2.2.2.1 3), .int (mm_r u 8 1), .int (mm_r u 8 2), .int (mm_r u 8 3), .int (mm_r u 8 4), .int (mm_r u 8 5), .int (mm_r u 8 6), .ref (P.2.2.2.1 21), .ref (P.2.2.2.1 22), .ref (P.2.2.2.1 23), .ref (P.2.2.2.1 24), .ref (P.2.2.2.1 25), .ref (P.2.2.2.1 26), .ref (P.2.2.2.1 27), .ref (P.2.2.2.1 28), .ref (P.2.2.2.1 29), .ref (P.2.2.2.1 30)].set 1 (.int v))) = wC P (mm_w u 8 1 v) := by
  refine wC_set P u _ _ _ ?_ (eC_w P u 8 1 v)
  simp [eC, mm_r, mm_rl, mm_w]
theorem pC_8_2 (P : PC) (u : MM) (v : Int32) : (wC P u).set 8 (P.2.2.2.1 8, .inr (4, [.ref (P.2.2.2.1 3), .int (mm_r u 8 1), .int (mm_r u 8 2), .int (mm_r u 8 3), .int (mm_r u 8 4), .int (mm_r u 8 5), .int (mm_r u 8 6), .ref (P.2.2.2.1 21), .ref (P.2.2.2.1 22), .ref (P.2.2.2.1 23), .ref (P.2.2.2.1 24), .ref (P.2.2.2.1 25), .ref (P.2.2.2.1 26), .ref (P.2.2.2.1 27), .ref (P.2.2.2.1 28), .ref (P.2.2.2.1 29), .ref (P.2.2.2.1 30)].set 2 (.int v))) = wC P (mm_w u 8 2 v) := by
  refine wC_set P u _ _ _ ?_ (eC_w P u 8 2 v)
  simp [eC, mm_r, mm_rl, mm_w]
theorem pC_8_3 (P : PC) (u : MM) (v : Int32) : (wC P u).set 8 (P.2.2.2.1 8, .inr (4, [.ref (P.2.2.2.1 3), .int (mm_r u 8 1), .int (mm_r u 8 2), .int (mm_r u 8 3), .int (mm_r u 8 4), .int (mm_r u 8 5), .int (mm_r u 8 6), .ref (P.2.2.2.1 21), .ref (P.2.2.2.1 22), .ref (P.2.2.2.1 23), .ref (P.2.2.2.1 24), .ref (P.2.2.2.1 25), .ref (P.2.2.2.1 26), .ref (P.2.2.2.1 27), .ref (P.2.2.2.1 28), .ref (P.2.2.2.1 29), .ref (P.2.2.2.1 30)].set 3 (.int v))) = wC P (mm_w u 8 3 v) := by
  refine wC_set P u _ _ _ ?_ (eC_w P u 8 3 v)
  simp [eC, mm_r, mm_rl, mm_w]
theorem pC_8_4 (P : PC) (u : MM) (v : Int32) : (wC P u).set 8 (P.2.2.2.1 8, .inr (4, [.ref (P.2.2.2.1 3), .int (mm_r u 8 1), .int (mm_r u 8 2), .int (mm_r u 8 3), .int (mm_r u 8 4), .int (mm_r u 8 5), .int (mm_r u 8 6), .ref (P.2.2.2.1 21), .ref (P.2.2.2.1 22), .ref (P.2.2.2.1 23), .ref (P.2.2.2.1 24), .ref (P.2.2.2.1 25), .ref (P.2.2.2.1 26), .ref (P.2.2.2.1 27), .ref (P.2.2.2.1 28), .ref (P.2.2.2.1 29), .ref (P.2.2.2.1 30)].set 4 (.int v))) = wC P (mm_w u 8 4 v) := by
  refine wC_set P u _ _ _ ?_ (eC_w P u 8 4 v)
  simp [eC, mm_r, mm_rl, mm_w]
theorem pC_8_5 (P : PC) (u : MM) (v : Int32) : (wC P u).set 8 (P.2.2.2.1 8, .inr (4, [.ref (P.2.2.2.1 3), .int (mm_r u 8 1), .int (mm_r u 8 2), .int (mm_r u 8 3), .int (mm_r u 8 4), .int (mm_r u 8 5), .int (mm_r u 8 6), .ref (P.2.2.2.1 21), .ref (P.2.2.2.1 22), .ref (P.2.2.2.1 23), .ref (P.2.2.2.1 24), .ref (P.2.2.2.1 25), .ref (P.2.2.2.1 26), .ref (P.2.2.2.1 27), .ref (P.2.2.2.1 28), .ref (P.2.2.2.1 29), .ref (P.2.2.2.1 30)].set 5 (.int v))) = wC P (mm_w u 8 5 v) := by
  refine wC_set P u _ _ _ ?_ (eC_w P u 8 5 v)
  simp [eC, mm_r, mm_rl, mm_w]
theorem pC_8_6 (P : PC) (u : MM) (v : Int32) : (wC P u).set 8 (P.2.2.2.1 8, .inr (4, [.ref (P.2.2.2.1 3), .int (mm_r u 8 1), .int (mm_r u 8 2), .int (mm_r u 8 3), .int (mm_r u 8 4), .int (mm_r u 8 5), .int (mm_r u 8 6), .ref (P.2.2.2.1 21), .ref (P.2.2.2.1 22), .ref (P.2.2.2.1 23), .ref (P.2.2.2.1 24), .ref (P.2.2.2.1 25), .ref (P.2.2.2.1 26), .ref (P.2.2.2.1 27), .ref (P.2.2.2.1 28), .ref (P.2.2.2.1 29), .ref (P.2.2.2.1 30)].set 6 (.int v))) = wC P (mm_w u 8 6 v) := by
  refine wC_set P u _ _ _ ?_ (eC_w P u 8 6 v)
  simp [eC, mm_r, mm_rl, mm_w]
theorem pC_9_2 (P : PC) (u : MM) (v : Int32) : (wC P u).set 9 (P.2.2.2.1 9, .inr (1, [.ref (P.2.2.2.1 18), .ref (P.2.2.2.1 19), .int (mm_r u 9 2)].set 2 (.int v))) = wC P (mm_w u 9 2 v) := by
  refine wC_set P u _ _ _ ?_ (eC_w P u 9 2 v)
  simp [eC, mm_r, mm_rl, mm_w]
theorem pC_10_1 (P : PC) (u : MM) (v : Int32) : (wC P u).set 10 (P.2.2.2.1 10, .inr (2, [.ref (P.2.2.2.1 20), .int (mm_r u 10 1), .long (mm_rl u 0), .long (mm_rl u 1)].set 1 (.int v))) = wC P (mm_w u 10 1 v) := by
  refine wC_set P u _ _ _ ?_ (eC_w P u 10 1 v)
  simp [eC, mm_r, mm_rl, mm_w]
theorem pC_10_2 (P : PC) (u : MM) (v : Int64) : (wC P u).set 10 (P.2.2.2.1 10, .inr (2, [.ref (P.2.2.2.1 20), .int (mm_r u 10 1), .long (mm_rl u 0), .long (mm_rl u 1)].set 2 (.long v))) = wC P (mm_wl u 0 v) := by
  refine wC_set P u _ _ _ ?_ (fun j h => eC_cg P _ _ j rfl (fun q => absurd q h))
  simp [eC, mm_r, mm_rl, mm_wl]
theorem pC_10_3 (P : PC) (u : MM) (v : Int64) : (wC P u).set 10 (P.2.2.2.1 10, .inr (2, [.ref (P.2.2.2.1 20), .int (mm_r u 10 1), .long (mm_rl u 0), .long (mm_rl u 1)].set 3 (.long v))) = wC P (mm_wl u 1 v) := by
  refine wC_set P u _ _ _ ?_ (fun j h => eC_cg P _ _ j rfl (fun q => absurd q h))
  simp [eC, mm_r, mm_rl, mm_wl]
def lnR (k : Nat) : Nat := ([8, 8, 320, 59, 59, 1416, 120, 4, 4, 4, 6, 4, 4, 4, 4, 4, 4, 32, 118, 16] : List Nat).getD (k - 2) 0
def eR (P : PC) (u : MM) (k : Nat) : va_E := match k with
  | 0 => .inr (8, [.int (mm_r u 0 0), .int (mm_r u 0 1), .ref (P.2.2.2.1 2), .ref (P.2.2.2.1 3), .ref (P.2.2.2.1 4), .ref (P.2.2.2.1 5), .ref (P.2.2.2.1 6), .ref (P.2.2.2.1 7), .int (mm_r u 0 8), .ref (P.2.2.2.1 8), .int (mm_r u 0 10), .int (mm_r u 0 11), .int (mm_r u 0 12), .int (mm_r u 0 13), .int (mm_r u 0 14), .int (mm_r u 0 15), .int (mm_r u 0 16), .int (mm_r u 0 17), .ref (P.2.2.2.1 9), .ref (P.2.2.2.1 10), .ref (P.2.2.2.1 11), .ref (P.2.2.2.1 12), .ref (P.2.2.2.1 13), .ref (P.2.2.2.1 14), .ref (P.2.2.2.1 15), .ref (P.2.2.2.1 16), .ref (P.2.2.2.1 17), .ref (P.2.2.2.1 18), .int (mm_r u 0 28), .int (mm_r u 0 29), .int (mm_r u 0 30), .int (mm_r u 0 31), .int (mm_r u 0 32), .ref (P.2.2.2.1 19), .int (mm_r u 0 34), .long (mm_rl u 0), .long (mm_rl u 1), .ref (P.2.2.2.1 1), .ref (P.2.2.2.1 20), .ref (P.2.2.2.1 21), .int (mm_r u 0 40)])
  | 1 => .inl (P.2.1.2, 2, .inl (u.1 1))
  | k => .inl (P.2.1.1, lnR k, .inl (u.1 k))
def wR (P : PC) (u : MM) : va_W := (List.range 22).map (fun k => (P.2.2.2.1 k, eR P u k))
abbrev vR (P : PC) : VV := (P.1, [(P.2.1.1, .int), (P.2.1.2, .boolean)], P.2.2.1, wR P, fun _ _ => True)
theorem wR_get (P : PC) (u : MM) (k : Nat) (h : k < 22) : (wR P u)[k]? = some (P.2.2.2.1 k, eR P u k) := by
  unfold wR
  rw [List.getElem?_map, List.getElem?_range h]
  rfl
theorem wR_len (P : PC) (u : MM) : (wR P u).length = 22 := by simp [wR]
theorem wR_set (P : PC) (u u' : MM) (k : Nat) (e : va_E) (he : eR P u' k = e) (hn : ∀ j, j ≠ k → eR P u j = eR P u' j) : (wR P u).set k (P.2.2.2.1 k, e) = wR P u' := by
  apply List.ext_getElem?
  intro j
  rw [List.getElem?_set]
  by_cases hj : k = j
  · subst hj
    rw [if_pos rfl, wR_len]
    by_cases hk : k < 22
    · rw [if_pos hk, wR_get P u' k hk, he]
    · rw [if_neg hk, List.getElem?_eq_none (by rw [wR_len]; omega)]
  · rw [if_neg hj]
    by_cases hk : j < 22
    · rw [wR_get P u j hk, wR_get P u' j hk, hn j (fun q => hj q.symm)]
    · rw [List.getElem?_eq_none (by rw [wR_len]; omega), List.getElem?_eq_none (by rw [wR_len]; omega)]
theorem eR_cg (P : PC) (u u' : MM) (k : Nat) (h : u.1 k = u'.1 k) (h2 : k = 0 → u.2 = u'.2) : eR P u k = eR P u' k := by
  match k, h, h2 with
  | 0, h, h2 => simp only [eR, mm_r, mm_rl, h, h2 rfl]
  | 1, h, h2 => simp only [eR, mm_r, h]
  | k + 2, h, h2 => show (Sum.inl (P.2.1.1, lnR (k + 2), .inl (u.1 (k + 2))) : va_E) = .inl (P.2.1.1, lnR (k + 2), .inl (u'.1 (k + 2))); rw [h]
theorem eR_w (P : PC) (u : MM) (k i : Nat) (v : Int32) (j : Nat) (h : j ≠ k) : eR P u j = eR P (mm_w u k i v) j := eR_cg P _ _ j (by funext b; show _ = (if j = k ∧ b = i then v else u.1 j b); rw [if_neg (fun q => h q.1)]) (fun _ => rfl)
theorem eR_cp (P : PC) (u : MM) (a sp k dp m : Nat) (j : Nat) (h : j ≠ k) : eR P u j = eR P (mm_cp u a sp k dp m) j := eR_cg P _ _ j (by funext b; show _ = (if j = k then _ else u.1 j b); rw [if_neg h]) (fun _ => rfl)
theorem eR_fl (P : PC) (u : MM) (k m : Nat) (v : Int32) (j : Nat) (h : j ≠ k) : eR P u j = eR P (mm_fl u k m v) j := eR_cg P _ _ j (by funext b; show _ = (if j = k ∧ b < m then v else u.1 j b); rw [if_neg (fun q => h q.1)]) (fun _ => rfl)
theorem eR_arr (P : PC) (u : MM) (k : Nat) : eR P u (k + 2) = .inl (P.2.1.1, lnR (k + 2), .inl (u.1 (k + 2))) := rfl
theorem gR_arr (P : PC) (u : MM) (k m : Nat) (h : k < 22) (h0 : 2 ≤ k) (hm : lnR k = m) : (wR P u)[k]? = some (P.2.2.2.1 k, .inl (P.2.1.1, m, .inl (u.1 k))) := by
  obtain ⟨j, rfl⟩ : ∃ j, k = j + 2 := ⟨k - 2, by omega⟩
  rw [wR_get P u _ h, eR_arr, hm]
theorem sR_arr (P : PC) (u : MM) (k m : Nat) (h0 : 2 ≤ k) (hm : lnR k = m) (i : Nat) (v : Int32) : (wR P u).set k (P.2.2.2.1 k, .inl (P.2.1.1, m, .inl (upd (u.1 k) i v))) = wR P (mm_w u k i v) := by
  obtain ⟨j, rfl⟩ : ∃ j, k = j + 2 := ⟨k - 2, by omega⟩
  refine wR_set P u _ _ _ ?_ (eR_w P u _ i v)
  rw [eR_arr, hm]
  congr 3
  show Sum.inl (fun b => if j + 2 = j + 2 ∧ b = i then v else u.1 (j + 2) b) = _
  congr 1
  funext b
  simp [upd]
theorem cR_arr (P : PC) (u : MM) (k m : Nat) (h0 : 2 ≤ k) (hm : lnR k = m) (a sp dp x : Nat) : (wR P u).set k (P.2.2.2.1 k, .inl (P.2.1.1, m, .inl (va_cpy (u.1 a) (u.1 k) sp dp x))) = wR P (mm_cp u a sp k dp x) := by
  obtain ⟨j, rfl⟩ : ∃ j, k = j + 2 := ⟨k - 2, by omega⟩
  refine wR_set P u _ _ _ ?_ (eR_cp P u a sp _ dp x)
  rw [eR_arr, hm]
  congr 3
  show Sum.inl (fun b => if j + 2 = j + 2 then va_cpy (u.1 a) (u.1 (j + 2)) sp dp x b else _) = _
  congr 1
  funext b
  simp
theorem gR_0 (P : PC) (u : MM) : (wR P u)[0]? = some (P.2.2.2.1 0, .inr (8, [.int (mm_r u 0 0), .int (mm_r u 0 1), .ref (P.2.2.2.1 2), .ref (P.2.2.2.1 3), .ref (P.2.2.2.1 4), .ref (P.2.2.2.1 5), .ref (P.2.2.2.1 6), .ref (P.2.2.2.1 7), .int (mm_r u 0 8), .ref (P.2.2.2.1 8), .int (mm_r u 0 10), .int (mm_r u 0 11), .int (mm_r u 0 12), .int (mm_r u 0 13), .int (mm_r u 0 14), .int (mm_r u 0 15), .int (mm_r u 0 16), .int (mm_r u 0 17), .ref (P.2.2.2.1 9), .ref (P.2.2.2.1 10), .ref (P.2.2.2.1 11), .ref (P.2.2.2.1 12), .ref (P.2.2.2.1 13), .ref (P.2.2.2.1 14), .ref (P.2.2.2.1 15), .ref (P.2.2.2.1 16), .ref (P.2.2.2.1 17), .ref (P.2.2.2.1 18), .int (mm_r u 0 28), .int (mm_r u 0 29), .int (mm_r u 0 30), .int (mm_r u 0 31), .int (mm_r u 0 32), .ref (P.2.2.2.1 19), .int (mm_r u 0 34), .long (mm_rl u 0), .long (mm_rl u 1), .ref (P.2.2.2.1 1), .ref (P.2.2.2.1 20), .ref (P.2.2.2.1 21), .int (mm_r u 0 40)])) := wR_get P u 0 (by decide)
theorem gR_1 (P : PC) (u : MM) : (wR P u)[1]? = some (P.2.2.2.1 1, .inl (P.2.1.2, 2, .inl (u.1 1))) := wR_get P u 1 (by decide)
theorem gR_2 (P : PC) (u : MM) : (wR P u)[2]? = some (P.2.2.2.1 2, .inl (P.2.1.1, 8, .inl (u.1 2))) := gR_arr P u 2 8 (by decide) (by decide) rfl
theorem sR_2 (P : PC) (u : MM) (v : Int32) (i : Nat) : (wR P u).set 2 (P.2.2.2.1 2, .inl (P.2.1.1, 8, .inl (upd (u.1 2) i v))) = wR P (mm_w u 2 i v) := sR_arr P u 2 8 (by decide) rfl i v
theorem cR_2 (P : PC) (u : MM) (a sp dp m : Nat) : (wR P u).set 2 (P.2.2.2.1 2, .inl (P.2.1.1, 8, .inl (va_cpy (u.1 a) (u.1 2) sp dp m))) = wR P (mm_cp u a sp 2 dp m) := cR_arr P u 2 8 (by decide) rfl a sp dp m
theorem gR_3 (P : PC) (u : MM) : (wR P u)[3]? = some (P.2.2.2.1 3, .inl (P.2.1.1, 8, .inl (u.1 3))) := gR_arr P u 3 8 (by decide) (by decide) rfl
theorem sR_3 (P : PC) (u : MM) (v : Int32) (i : Nat) : (wR P u).set 3 (P.2.2.2.1 3, .inl (P.2.1.1, 8, .inl (upd (u.1 3) i v))) = wR P (mm_w u 3 i v) := sR_arr P u 3 8 (by decide) rfl i v
theorem cR_3 (P : PC) (u : MM) (a sp dp m : Nat) : (wR P u).set 3 (P.2.2.2.1 3, .inl (P.2.1.1, 8, .inl (va_cpy (u.1 a) (u.1 3) sp dp m))) = wR P (mm_cp u a sp 3 dp m) := cR_arr P u 3 8 (by decide) rfl a sp dp m
theorem gR_4 (P : PC) (u : MM) : (wR P u)[4]? = some (P.2.2.2.1 4, .inl (P.2.1.1, 320, .inl (u.1 4))) := gR_arr P u 4 320 (by decide) (by decide) rfl
theorem sR_4 (P : PC) (u : MM) (v : Int32) (i : Nat) : (wR P u).set 4 (P.2.2.2.1 4, .inl (P.2.1.1, 320, .inl (upd (u.1 4) i v))) = wR P (mm_w u 4 i v) := sR_arr P u 4 320 (by decide) rfl i v
theorem cR_4 (P : PC) (u : MM) (a sp dp m : Nat) : (wR P u).set 4 (P.2.2.2.1 4, .inl (P.2.1.1, 320, .inl (va_cpy (u.1 a) (u.1 4) sp dp m))) = wR P (mm_cp u a sp 4 dp m) := cR_arr P u 4 320 (by decide) rfl a sp dp m
theorem gR_5 (P : PC) (u : MM) : (wR P u)[5]? = some (P.2.2.2.1 5, .inl (P.2.1.1, 59, .inl (u.1 5))) := gR_arr P u 5 59 (by decide) (by decide) rfl
theorem sR_5 (P : PC) (u : MM) (v : Int32) (i : Nat) : (wR P u).set 5 (P.2.2.2.1 5, .inl (P.2.1.1, 59, .inl (upd (u.1 5) i v))) = wR P (mm_w u 5 i v) := sR_arr P u 5 59 (by decide) rfl i v
theorem cR_5 (P : PC) (u : MM) (a sp dp m : Nat) : (wR P u).set 5 (P.2.2.2.1 5, .inl (P.2.1.1, 59, .inl (va_cpy (u.1 a) (u.1 5) sp dp m))) = wR P (mm_cp u a sp 5 dp m) := cR_arr P u 5 59 (by decide) rfl a sp dp m
theorem gR_6 (P : PC) (u : MM) : (wR P u)[6]? = some (P.2.2.2.1 6, .inl (P.2.1.1, 59, .inl (u.1 6))) := gR_arr P u 6 59 (by decide) (by decide) rfl
theorem sR_6 (P : PC) (u : MM) (v : Int32) (i : Nat) : (wR P u).set 6 (P.2.2.2.1 6, .inl (P.2.1.1, 59, .inl (upd (u.1 6) i v))) = wR P (mm_w u 6 i v) := sR_arr P u 6 59 (by decide) rfl i v
theorem cR_6 (P : PC) (u : MM) (a sp dp m : Nat) : (wR P u).set 6 (P.2.2.2.1 6, .inl (P.2.1.1, 59, .inl (va_cpy (u.1 a) (u.1 6) sp dp m))) = wR P (mm_cp u a sp 6 dp m) := cR_arr P u 6 59 (by decide) rfl a sp dp m
theorem gR_7 (P : PC) (u : MM) : (wR P u)[7]? = some (P.2.2.2.1 7, .inl (P.2.1.1, 1416, .inl (u.1 7))) := gR_arr P u 7 1416 (by decide) (by decide) rfl
theorem sR_7 (P : PC) (u : MM) (v : Int32) (i : Nat) : (wR P u).set 7 (P.2.2.2.1 7, .inl (P.2.1.1, 1416, .inl (upd (u.1 7) i v))) = wR P (mm_w u 7 i v) := sR_arr P u 7 1416 (by decide) rfl i v
theorem cR_7 (P : PC) (u : MM) (a sp dp m : Nat) : (wR P u).set 7 (P.2.2.2.1 7, .inl (P.2.1.1, 1416, .inl (va_cpy (u.1 a) (u.1 7) sp dp m))) = wR P (mm_cp u a sp 7 dp m) := cR_arr P u 7 1416 (by decide) rfl a sp dp m
theorem gR_8 (P : PC) (u : MM) : (wR P u)[8]? = some (P.2.2.2.1 8, .inl (P.2.1.1, 120, .inl (u.1 8))) := gR_arr P u 8 120 (by decide) (by decide) rfl
theorem sR_8 (P : PC) (u : MM) (v : Int32) (i : Nat) : (wR P u).set 8 (P.2.2.2.1 8, .inl (P.2.1.1, 120, .inl (upd (u.1 8) i v))) = wR P (mm_w u 8 i v) := sR_arr P u 8 120 (by decide) rfl i v
theorem cR_8 (P : PC) (u : MM) (a sp dp m : Nat) : (wR P u).set 8 (P.2.2.2.1 8, .inl (P.2.1.1, 120, .inl (va_cpy (u.1 a) (u.1 8) sp dp m))) = wR P (mm_cp u a sp 8 dp m) := cR_arr P u 8 120 (by decide) rfl a sp dp m
theorem gR_9 (P : PC) (u : MM) : (wR P u)[9]? = some (P.2.2.2.1 9, .inl (P.2.1.1, 4, .inl (u.1 9))) := gR_arr P u 9 4 (by decide) (by decide) rfl
theorem sR_9 (P : PC) (u : MM) (v : Int32) (i : Nat) : (wR P u).set 9 (P.2.2.2.1 9, .inl (P.2.1.1, 4, .inl (upd (u.1 9) i v))) = wR P (mm_w u 9 i v) := sR_arr P u 9 4 (by decide) rfl i v
theorem cR_9 (P : PC) (u : MM) (a sp dp m : Nat) : (wR P u).set 9 (P.2.2.2.1 9, .inl (P.2.1.1, 4, .inl (va_cpy (u.1 a) (u.1 9) sp dp m))) = wR P (mm_cp u a sp 9 dp m) := cR_arr P u 9 4 (by decide) rfl a sp dp m
theorem gR_10 (P : PC) (u : MM) : (wR P u)[10]? = some (P.2.2.2.1 10, .inl (P.2.1.1, 4, .inl (u.1 10))) := gR_arr P u 10 4 (by decide) (by decide) rfl
theorem sR_10 (P : PC) (u : MM) (v : Int32) (i : Nat) : (wR P u).set 10 (P.2.2.2.1 10, .inl (P.2.1.1, 4, .inl (upd (u.1 10) i v))) = wR P (mm_w u 10 i v) := sR_arr P u 10 4 (by decide) rfl i v
theorem cR_10 (P : PC) (u : MM) (a sp dp m : Nat) : (wR P u).set 10 (P.2.2.2.1 10, .inl (P.2.1.1, 4, .inl (va_cpy (u.1 a) (u.1 10) sp dp m))) = wR P (mm_cp u a sp 10 dp m) := cR_arr P u 10 4 (by decide) rfl a sp dp m
theorem gR_11 (P : PC) (u : MM) : (wR P u)[11]? = some (P.2.2.2.1 11, .inl (P.2.1.1, 4, .inl (u.1 11))) := gR_arr P u 11 4 (by decide) (by decide) rfl
theorem sR_11 (P : PC) (u : MM) (v : Int32) (i : Nat) : (wR P u).set 11 (P.2.2.2.1 11, .inl (P.2.1.1, 4, .inl (upd (u.1 11) i v))) = wR P (mm_w u 11 i v) := sR_arr P u 11 4 (by decide) rfl i v
theorem cR_11 (P : PC) (u : MM) (a sp dp m : Nat) : (wR P u).set 11 (P.2.2.2.1 11, .inl (P.2.1.1, 4, .inl (va_cpy (u.1 a) (u.1 11) sp dp m))) = wR P (mm_cp u a sp 11 dp m) := cR_arr P u 11 4 (by decide) rfl a sp dp m
theorem gR_12 (P : PC) (u : MM) : (wR P u)[12]? = some (P.2.2.2.1 12, .inl (P.2.1.1, 6, .inl (u.1 12))) := gR_arr P u 12 6 (by decide) (by decide) rfl
theorem sR_12 (P : PC) (u : MM) (v : Int32) (i : Nat) : (wR P u).set 12 (P.2.2.2.1 12, .inl (P.2.1.1, 6, .inl (upd (u.1 12) i v))) = wR P (mm_w u 12 i v) := sR_arr P u 12 6 (by decide) rfl i v
theorem cR_12 (P : PC) (u : MM) (a sp dp m : Nat) : (wR P u).set 12 (P.2.2.2.1 12, .inl (P.2.1.1, 6, .inl (va_cpy (u.1 a) (u.1 12) sp dp m))) = wR P (mm_cp u a sp 12 dp m) := cR_arr P u 12 6 (by decide) rfl a sp dp m
theorem gR_13 (P : PC) (u : MM) : (wR P u)[13]? = some (P.2.2.2.1 13, .inl (P.2.1.1, 4, .inl (u.1 13))) := gR_arr P u 13 4 (by decide) (by decide) rfl
theorem sR_13 (P : PC) (u : MM) (v : Int32) (i : Nat) : (wR P u).set 13 (P.2.2.2.1 13, .inl (P.2.1.1, 4, .inl (upd (u.1 13) i v))) = wR P (mm_w u 13 i v) := sR_arr P u 13 4 (by decide) rfl i v
theorem cR_13 (P : PC) (u : MM) (a sp dp m : Nat) : (wR P u).set 13 (P.2.2.2.1 13, .inl (P.2.1.1, 4, .inl (va_cpy (u.1 a) (u.1 13) sp dp m))) = wR P (mm_cp u a sp 13 dp m) := cR_arr P u 13 4 (by decide) rfl a sp dp m
theorem gR_14 (P : PC) (u : MM) : (wR P u)[14]? = some (P.2.2.2.1 14, .inl (P.2.1.1, 4, .inl (u.1 14))) := gR_arr P u 14 4 (by decide) (by decide) rfl
theorem sR_14 (P : PC) (u : MM) (v : Int32) (i : Nat) : (wR P u).set 14 (P.2.2.2.1 14, .inl (P.2.1.1, 4, .inl (upd (u.1 14) i v))) = wR P (mm_w u 14 i v) := sR_arr P u 14 4 (by decide) rfl i v
theorem cR_14 (P : PC) (u : MM) (a sp dp m : Nat) : (wR P u).set 14 (P.2.2.2.1 14, .inl (P.2.1.1, 4, .inl (va_cpy (u.1 a) (u.1 14) sp dp m))) = wR P (mm_cp u a sp 14 dp m) := cR_arr P u 14 4 (by decide) rfl a sp dp m
theorem gR_15 (P : PC) (u : MM) : (wR P u)[15]? = some (P.2.2.2.1 15, .inl (P.2.1.1, 4, .inl (u.1 15))) := gR_arr P u 15 4 (by decide) (by decide) rfl
theorem sR_15 (P : PC) (u : MM) (v : Int32) (i : Nat) : (wR P u).set 15 (P.2.2.2.1 15, .inl (P.2.1.1, 4, .inl (upd (u.1 15) i v))) = wR P (mm_w u 15 i v) := sR_arr P u 15 4 (by decide) rfl i v
theorem cR_15 (P : PC) (u : MM) (a sp dp m : Nat) : (wR P u).set 15 (P.2.2.2.1 15, .inl (P.2.1.1, 4, .inl (va_cpy (u.1 a) (u.1 15) sp dp m))) = wR P (mm_cp u a sp 15 dp m) := cR_arr P u 15 4 (by decide) rfl a sp dp m
theorem gR_16 (P : PC) (u : MM) : (wR P u)[16]? = some (P.2.2.2.1 16, .inl (P.2.1.1, 4, .inl (u.1 16))) := gR_arr P u 16 4 (by decide) (by decide) rfl
theorem sR_16 (P : PC) (u : MM) (v : Int32) (i : Nat) : (wR P u).set 16 (P.2.2.2.1 16, .inl (P.2.1.1, 4, .inl (upd (u.1 16) i v))) = wR P (mm_w u 16 i v) := sR_arr P u 16 4 (by decide) rfl i v
theorem cR_16 (P : PC) (u : MM) (a sp dp m : Nat) : (wR P u).set 16 (P.2.2.2.1 16, .inl (P.2.1.1, 4, .inl (va_cpy (u.1 a) (u.1 16) sp dp m))) = wR P (mm_cp u a sp 16 dp m) := cR_arr P u 16 4 (by decide) rfl a sp dp m
theorem gR_17 (P : PC) (u : MM) : (wR P u)[17]? = some (P.2.2.2.1 17, .inl (P.2.1.1, 4, .inl (u.1 17))) := gR_arr P u 17 4 (by decide) (by decide) rfl
theorem sR_17 (P : PC) (u : MM) (v : Int32) (i : Nat) : (wR P u).set 17 (P.2.2.2.1 17, .inl (P.2.1.1, 4, .inl (upd (u.1 17) i v))) = wR P (mm_w u 17 i v) := sR_arr P u 17 4 (by decide) rfl i v
theorem cR_17 (P : PC) (u : MM) (a sp dp m : Nat) : (wR P u).set 17 (P.2.2.2.1 17, .inl (P.2.1.1, 4, .inl (va_cpy (u.1 a) (u.1 17) sp dp m))) = wR P (mm_cp u a sp 17 dp m) := cR_arr P u 17 4 (by decide) rfl a sp dp m
theorem gR_18 (P : PC) (u : MM) : (wR P u)[18]? = some (P.2.2.2.1 18, .inl (P.2.1.1, 4, .inl (u.1 18))) := gR_arr P u 18 4 (by decide) (by decide) rfl
theorem sR_18 (P : PC) (u : MM) (v : Int32) (i : Nat) : (wR P u).set 18 (P.2.2.2.1 18, .inl (P.2.1.1, 4, .inl (upd (u.1 18) i v))) = wR P (mm_w u 18 i v) := sR_arr P u 18 4 (by decide) rfl i v
theorem cR_18 (P : PC) (u : MM) (a sp dp m : Nat) : (wR P u).set 18 (P.2.2.2.1 18, .inl (P.2.1.1, 4, .inl (va_cpy (u.1 a) (u.1 18) sp dp m))) = wR P (mm_cp u a sp 18 dp m) := cR_arr P u 18 4 (by decide) rfl a sp dp m
theorem gR_19 (P : PC) (u : MM) : (wR P u)[19]? = some (P.2.2.2.1 19, .inl (P.2.1.1, 32, .inl (u.1 19))) := gR_arr P u 19 32 (by decide) (by decide) rfl
theorem sR_19 (P : PC) (u : MM) (v : Int32) (i : Nat) : (wR P u).set 19 (P.2.2.2.1 19, .inl (P.2.1.1, 32, .inl (upd (u.1 19) i v))) = wR P (mm_w u 19 i v) := sR_arr P u 19 32 (by decide) rfl i v
theorem cR_19 (P : PC) (u : MM) (a sp dp m : Nat) : (wR P u).set 19 (P.2.2.2.1 19, .inl (P.2.1.1, 32, .inl (va_cpy (u.1 a) (u.1 19) sp dp m))) = wR P (mm_cp u a sp 19 dp m) := cR_arr P u 19 32 (by decide) rfl a sp dp m
theorem gR_20 (P : PC) (u : MM) : (wR P u)[20]? = some (P.2.2.2.1 20, .inl (P.2.1.1, 118, .inl (u.1 20))) := gR_arr P u 20 118 (by decide) (by decide) rfl
theorem sR_20 (P : PC) (u : MM) (v : Int32) (i : Nat) : (wR P u).set 20 (P.2.2.2.1 20, .inl (P.2.1.1, 118, .inl (upd (u.1 20) i v))) = wR P (mm_w u 20 i v) := sR_arr P u 20 118 (by decide) rfl i v
theorem cR_20 (P : PC) (u : MM) (a sp dp m : Nat) : (wR P u).set 20 (P.2.2.2.1 20, .inl (P.2.1.1, 118, .inl (va_cpy (u.1 a) (u.1 20) sp dp m))) = wR P (mm_cp u a sp 20 dp m) := cR_arr P u 20 118 (by decide) rfl a sp dp m
theorem gR_21 (P : PC) (u : MM) : (wR P u)[21]? = some (P.2.2.2.1 21, .inl (P.2.1.1, 16, .inl (u.1 21))) := gR_arr P u 21 16 (by decide) (by decide) rfl
theorem sR_21 (P : PC) (u : MM) (v : Int32) (i : Nat) : (wR P u).set 21 (P.2.2.2.1 21, .inl (P.2.1.1, 16, .inl (upd (u.1 21) i v))) = wR P (mm_w u 21 i v) := sR_arr P u 21 16 (by decide) rfl i v
theorem cR_21 (P : PC) (u : MM) (a sp dp m : Nat) : (wR P u).set 21 (P.2.2.2.1 21, .inl (P.2.1.1, 16, .inl (va_cpy (u.1 a) (u.1 21) sp dp m))) = wR P (mm_cp u a sp 21 dp m) := cR_arr P u 21 16 (by decide) rfl a sp dp m
theorem sR_1 (P : PC) (u : MM) (v : Int32) (i : Nat) : (wR P u).set 1 (P.2.2.2.1 1, .inl (P.2.1.2, 2, .inl (upd (u.1 1) i v))) = wR P (mm_w u 1 i v) := by
  refine wR_set P u _ _ _ ?_ (eR_w P u _ i v)
  show (Sum.inl (P.2.1.2, 2, .inl (fun b => if 1 = 1 ∧ b = i then v else u.1 1 b)) : va_E) = _
  congr 3
  show Sum.inl (fun b => if 1 = 1 ∧ b = i then v else u.1 1 b) = _
  congr 1
  funext b
  simp [upd]
theorem pR_0_0 (P : PC) (u : MM) (v : Int32) : (wR P u).set 0 (P.2.2.2.1 0, .inr (8, [.int (mm_r u 0 0), .int (mm_r u 0 1), .ref (P.2.2.2.1 2), .ref (P.2.2.2.1 3), .ref (P.2.2.2.1 4), .ref (P.2.2.2.1 5), .ref (P.2.2.2.1 6), .ref (P.2.2.2.1 7), .int (mm_r u 0 8), .ref (P.2.2.2.1 8), .int (mm_r u 0 10), .int (mm_r u 0 11), .int (mm_r u 0 12), .int (mm_r u 0 13), .int (mm_r u 0 14), .int (mm_r u 0 15), .int (mm_r u 0 16), .int (mm_r u 0 17), .ref (P.2.2.2.1 9), .ref (P.2.2.2.1 10), .ref (P.2.2.2.1 11), .ref (P.2.2.2.1 12), .ref (P.2.2.2.1 13), .ref (P.2.2.2.1 14), .ref (P.2.2.2.1 15), .ref (P.2.2.2.1 16), .ref (P.2.2.2.1 17), .ref (P.2.2.2.1 18), .int (mm_r u 0 28), .int (mm_r u 0 29), .int (mm_r u 0 30), .int (mm_r u 0 31), .int (mm_r u 0 32), .ref (P.2.2.2.1 19), .int (mm_r u 0 34), .long (mm_rl u 0), .long (mm_rl u 1), .ref (P.2.2.2.1 1), .ref (P.2.2.2.1 20), .ref (P.2.2.2.1 21), .int (mm_r u 0 40)].set 0 (.int v))) = wR P (mm_w u 0 0 v) := by
  refine wR_set P u _ _ _ ?_ (eR_w P u 0 0 v)
  simp [eR, mm_r, mm_rl, mm_w]
theorem pR_0_1 (P : PC) (u : MM) (v : Int32) : (wR P u).set 0 (P.2.2.2.1 0, .inr (8, [.int (mm_r u 0 0), .int (mm_r u 0 1), .ref (P.2.2.2.1 2), .ref (P.2.2.2.1 3), .ref (P.2.2.2.1 4), .ref (P.2.2.2.1 5), .ref (P.2.2.2.1 6), .ref (P.2.2.2.1 7), .int (mm_r u 0 8), .ref (P.2.2.2.1 8), .int (mm_r u 0 10), .int (mm_r u 0 11), .int (mm_r u 0 12), .int (mm_r u 0 13), .int (mm_r u 0 14), .int (mm_r u 0 15), .int (mm_r u 0 16), .int (mm_r u 0 17), .ref (P.2.2.2.1 9), .ref (P.2.2.2.1 10), .ref (P.2.2.2.1 11), .ref (P.2.2.2.1 12), .ref (P.2.2.2.1 13), .ref (P.2.2.2.1 14), .ref (P.2.2.2.1 15), .ref (P.2.2.2.1 16), .ref (P.2.2.2.1 17), .ref (P.2.2.2.1 18), .int (mm_r u 0 28), .int (mm_r u 0 29), .int (mm_r u 0 30), .int (mm_r u 0 31), .int (mm_r u 0 32), .ref (P.2.2.2.1 19), .int (mm_r u 0 34), .long (mm_rl u 0), .long (mm_rl u 1), .ref (P.2.2.2.1 1), .ref (P.2.2.2.1 20), .ref (P.2.2.2.1 21), .int (mm_r u 0 40)].set 1 (.int v))) = wR P (mm_w u 0 1 v) := by
  refine wR_set P u _ _ _ ?_ (eR_w P u 0 1 v)
  simp [eR, mm_r, mm_rl, mm_w]
theorem pR_0_8 (P : PC) (u : MM) (v : Int32) : (wR P u).set 0 (P.2.2.2.1 0, .inr (8, [.int (mm_r u 0 0), .int (mm_r u 0 1), .ref (P.2.2.2.1 2), .ref (P.2.2.2.1 3), .ref (P.2.2.2.1 4), .ref (P.2.2.2.1 5), .ref (P.2.2.2.1 6), .ref (P.2.2.2.1 7), .int (mm_r u 0 8), .ref (P.2.2.2.1 8), .int (mm_r u 0 10), .int (mm_r u 0 11), .int (mm_r u 0 12), .int (mm_r u 0 13), .int (mm_r u 0 14), .int (mm_r u 0 15), .int (mm_r u 0 16), .int (mm_r u 0 17), .ref (P.2.2.2.1 9), .ref (P.2.2.2.1 10), .ref (P.2.2.2.1 11), .ref (P.2.2.2.1 12), .ref (P.2.2.2.1 13), .ref (P.2.2.2.1 14), .ref (P.2.2.2.1 15), .ref (P.2.2.2.1 16), .ref (P.2.2.2.1 17), .ref (P.2.2.2.1 18), .int (mm_r u 0 28), .int (mm_r u 0 29), .int (mm_r u 0 30), .int (mm_r u 0 31), .int (mm_r u 0 32), .ref (P.2.2.2.1 19), .int (mm_r u 0 34), .long (mm_rl u 0), .long (mm_rl u 1), .ref (P.2.2.2.1 1), .ref (P.2.2.2.1 20), .ref (P.2.2.2.1 21), .int (mm_r u 0 40)].set 8 (.int v))) = wR P (mm_w u 0 8 v) := by
  refine wR_set P u _ _ _ ?_ (eR_w P u 0 8 v)
  simp [eR, mm_r, mm_rl, mm_w]
theorem pR_0_10 (P : PC) (u : MM) (v : Int32) : (wR P u).set 0 (P.2.2.2.1 0, .inr (8, [.int (mm_r u 0 0), .int (mm_r u 0 1), .ref (P.2.2.2.1 2), .ref (P.2.2.2.1 3), .ref (P.2.2.2.1 4), .ref (P.2.2.2.1 5), .ref (P.2.2.2.1 6), .ref (P.2.2.2.1 7), .int (mm_r u 0 8), .ref (P.2.2.2.1 8), .int (mm_r u 0 10), .int (mm_r u 0 11), .int (mm_r u 0 12), .int (mm_r u 0 13), .int (mm_r u 0 14), .int (mm_r u 0 15), .int (mm_r u 0 16), .int (mm_r u 0 17), .ref (P.2.2.2.1 9), .ref (P.2.2.2.1 10), .ref (P.2.2.2.1 11), .ref (P.2.2.2.1 12), .ref (P.2.2.2.1 13), .ref (P.2.2.2.1 14), .ref (P.2.2.2.1 15), .ref (P.2.2.2.1 16), .ref (P.2.2.2.1 17), .ref (P.2.2.2.1 18), .int (mm_r u 0 28), .int (mm_r u 0 29), .int (mm_r u 0 30), .int (mm_r u 0 31), .int (mm_r u 0 32), .ref (P.2.2.2.1 19), .int (mm_r u 0 34), .long (mm_rl u 0), .long (mm_rl u 1), .ref (P.2.2.2.1 1), .ref (P.2.2.2.1 20), .ref (P.2.2.2.1 21), .int (mm_r u 0 40)].set 10 (.int v))) = wR P (mm_w u 0 10 v) := by
  refine wR_set P u _ _ _ ?_ (eR_w P u 0 10 v)
  simp [eR, mm_r, mm_rl, mm_w]
theorem pR_0_11 (P : PC) (u : MM) (v : Int32) : (wR P u).set 0 (P.2.2.2.1 0, .inr (8, [.int (mm_r u 0 0), .int (mm_r u 0 1), .ref (P.2.2.2.1 2), .ref (P.2.2.2.1 3), .ref (P.2.2.2.1 4), .ref (P.2.2.2.1 5), .ref (P.2.2.2.1 6), .ref (P.2.2.2.1 7), .int (mm_r u 0 8), .ref (P.2.2.2.1 8), .int (mm_r u 0 10), .int (mm_r u 0 11), .int (mm_r u 0 12), .int (mm_r u 0 13), .int (mm_r u 0 14), .int (mm_r u 0 15), .int (mm_r u 0 16), .int (mm_r u 0 17), .ref (P.2.2.2.1 9), .ref (P.2.2.2.1 10), .ref (P.2.2.2.1 11), .ref (P.2.2.2.1 12), .ref (P.2.2.2.1 13), .ref (P.2.2.2.1 14), .ref (P.2.2.2.1 15), .ref (P.2.2.2.1 16), .ref (P.2.2.2.1 17), .ref (P.2.2.2.1 18), .int (mm_r u 0 28), .int (mm_r u 0 29), .int (mm_r u 0 30), .int (mm_r u 0 31), .int (mm_r u 0 32), .ref (P.2.2.2.1 19), .int (mm_r u 0 34), .long (mm_rl u 0), .long (mm_rl u 1), .ref (P.2.2.2.1 1), .ref (P.2.2.2.1 20), .ref (P.2.2.2.1 21), .int (mm_r u 0 40)].set 11 (.int v))) = wR P (mm_w u 0 11 v) := by
  refine wR_set P u _ _ _ ?_ (eR_w P u 0 11 v)
  simp [eR, mm_r, mm_rl, mm_w]
theorem pR_0_12 (P : PC) (u : MM) (v : Int32) : (wR P u).set 0 (P.2.2.2.1 0, .inr (8, [.int (mm_r u 0 0), .int (mm_r u 0 1), .ref (P.2.2.2.1 2), .ref (P.2.2.2.1 3), .ref (P.2.2.2.1 4), .ref (P.2.2.2.1 5), .ref (P.2.2.2.1 6), .ref (P.2.2.2.1 7), .int (mm_r u 0 8), .ref (P.2.2.2.1 8), .int (mm_r u 0 10), .int (mm_r u 0 11), .int (mm_r u 0 12), .int (mm_r u 0 13), .int (mm_r u 0 14), .int (mm_r u 0 15), .int (mm_r u 0 16), .int (mm_r u 0 17), .ref (P.2.2.2.1 9), .ref (P.2.2.2.1 10), .ref (P.2.2.2.1 11), .ref (P.2.2.2.1 12), .ref (P.2.2.2.1 13), .ref (P.2.2.2.1 14), .ref (P.2.2.2.1 15), .ref (P.2.2.2.1 16), .ref (P.2.2.2.1 17), .ref (P.2.2.2.1 18), .int (mm_r u 0 28), .int (mm_r u 0 29), .int (mm_r u 0 30), .int (mm_r u 0 31), .int (mm_r u 0 32), .ref (P.2.2.2.1 19), .int (mm_r u 0 34), .long (mm_rl u 0), .long (mm_rl u 1), .ref (P.2.2.2.1 1), .ref (P.2.2.2.1 20), .ref (P.2.2.2.1 21), .int (mm_r u 0 40)].set 12 (.int v))) = wR P (mm_w u 0 12 v) := by
  refine wR_set P u _ _ _ ?_ (eR_w P u 0 12 v)
  simp [eR, mm_r, mm_rl, mm_w]
theorem pR_0_13 (P : PC) (u : MM) (v : Int32) : (wR P u).set 0 (P.2.2.2.1 0, .inr (8, [.int (mm_r u 0 0), .int (mm_r u 0 1), .ref (P.2.2.2.1 2), .ref (P.2.2.2.1 3), .ref (P.2.2.2.1 4), .ref (P.2.2.2.1 5), .ref (P.2.2.2.1 6), .ref (P.2.2.2.1 7), .int (mm_r u 0 8), .ref (P.2.2.2.1 8), .int (mm_r u 0 10), .int (mm_r u 0 11), .int (mm_r u 0 12), .int (mm_r u 0 13), .int (mm_r u 0 14), .int (mm_r u 0 15), .int (mm_r u 0 16), .int (mm_r u 0 17), .ref (P.2.2.2.1 9), .ref (P.2.2.2.1 10), .ref (P.2.2.2.1 11), .ref (P.2.2.2.1 12), .ref (P.2.2.2.1 13), .ref (P.2.2.2.1 14), .ref (P.2.2.2.1 15), .ref (P.2.2.2.1 16), .ref (P.2.2.2.1 17), .ref (P.2.2.2.1 18), .int (mm_r u 0 28), .int (mm_r u 0 29), .int (mm_r u 0 30), .int (mm_r u 0 31), .int (mm_r u 0 32), .ref (P.2.2.2.1 19), .int (mm_r u 0 34), .long (mm_rl u 0), .long (mm_rl u 1), .ref (P.2.2.2.1 1), .ref (P.2.2.2.1 20), .ref (P.2.2.2.1 21), .int (mm_r u 0 40)].set 13 (.int v))) = wR P (mm_w u 0 13 v) := by
  refine wR_set P u _ _ _ ?_ (eR_w P u 0 13 v)
  simp [eR, mm_r, mm_rl, mm_w]
theorem pR_0_14 (P : PC) (u : MM) (v : Int32) : (wR P u).set 0 (P.2.2.2.1 0, .inr (8, [.int (mm_r u 0 0), .int (mm_r u 0 1), .ref (P.2.2.2.1 2), .ref (P.2.2.2.1 3), .ref (P.2.2.2.1 4), .ref (P.2.2.2.1 5), .ref (P.2.2.2.1 6), .ref (P.2.2.2.1 7), .int (mm_r u 0 8), .ref (P.2.2.2.1 8), .int (mm_r u 0 10), .int (mm_r u 0 11), .int (mm_r u 0 12), .int (mm_r u 0 13), .int (mm_r u 0 14), .int (mm_r u 0 15), .int (mm_r u 0 16), .int (mm_r u 0 17), .ref (P.2.2.2.1 9), .ref (P.2.2.2.1 10), .ref (P.2.2.2.1 11), .ref (P.2.2.2.1 12), .ref (P.2.2.2.1 13), .ref (P.2.2.2.1 14), .ref (P.2.2.2.1 15), .ref (P.2.2.2.1 16), .ref (P.2.2.2.1 17), .ref (P.2.2.2.1 18), .int (mm_r u 0 28), .int (mm_r u 0 29), .int (mm_r u 0 30), .int (mm_r u 0 31), .int (mm_r u 0 32), .ref (P.2.2.2.1 19), .int (mm_r u 0 34), .long (mm_rl u 0), .long (mm_rl u 1), .ref (P.2.2.2.1 1), .ref (P.2.2.2.1 20), .ref (P.2.2.2.1 21), .int (mm_r u 0 40)].set 14 (.int v))) = wR P (mm_w u 0 14 v) := by
  refine wR_set P u _ _ _ ?_ (eR_w P u 0 14 v)
  simp [eR, mm_r, mm_rl, mm_w]
theorem pR_0_15 (P : PC) (u : MM) (v : Int32) : (wR P u).set 0 (P.2.2.2.1 0, .inr (8, [.int (mm_r u 0 0), .int (mm_r u 0 1), .ref (P.2.2.2.1 2), .ref (P.2.2.2.1 3), .ref (P.2.2.2.1 4), .ref (P.2.2.2.1 5), .ref (P.2.2.2.1 6), .ref (P.2.2.2.1 7), .int (mm_r u 0 8), .ref (P.2.2.2.1 8), .int (mm_r u 0 10), .int (mm_r u 0 11), .int (mm_r u 0 12), .int (mm_r u 0 13), .int (mm_r u 0 14), .int (mm_r u 0 15), .int (mm_r u 0 16), .int (mm_r u 0 17), .ref (P.2.2.2.1 9), .ref (P.2.2.2.1 10), .ref (P.2.2.2.1 11), .ref (P.2.2.2.1 12), .ref (P.2.2.2.1 13), .ref (P.2.2.2.1 14), .ref (P.2.2.2.1 15), .ref (P.2.2.2.1 16), .ref (P.2.2.2.1 17), .ref (P.2.2.2.1 18), .int (mm_r u 0 28), .int (mm_r u 0 29), .int (mm_r u 0 30), .int (mm_r u 0 31), .int (mm_r u 0 32), .ref (P.2.2.2.1 19), .int (mm_r u 0 34), .long (mm_rl u 0), .long (mm_rl u 1), .ref (P.2.2.2.1 1), .ref (P.2.2.2.1 20), .ref (P.2.2.2.1 21), .int (mm_r u 0 40)].set 15 (.int v))) = wR P (mm_w u 0 15 v) := by
  refine wR_set P u _ _ _ ?_ (eR_w P u 0 15 v)
  simp [eR, mm_r, mm_rl, mm_w]
theorem pR_0_16 (P : PC) (u : MM) (v : Int32) : (wR P u).set 0 (P.2.2.2.1 0, .inr (8, [.int (mm_r u 0 0), .int (mm_r u 0 1), .ref (P.2.2.2.1 2), .ref (P.2.2.2.1 3), .ref (P.2.2.2.1 4), .ref (P.2.2.2.1 5), .ref (P.2.2.2.1 6), .ref (P.2.2.2.1 7), .int (mm_r u 0 8), .ref (P.2.2.2.1 8), .int (mm_r u 0 10), .int (mm_r u 0 11), .int (mm_r u 0 12), .int (mm_r u 0 13), .int (mm_r u 0 14), .int (mm_r u 0 15), .int (mm_r u 0 16), .int (mm_r u 0 17), .ref (P.2.2.2.1 9), .ref (P.2.2.2.1 10), .ref (P.2.2.2.1 11), .ref (P.2.2.2.1 12), .ref (P.2.2.2.1 13), .ref (P.2.2.2.1 14), .ref (P.2.2.2.1 15), .ref (P.2.2.2.1 16), .ref (P.2.2.2.1 17), .ref (P.2.2.2.1 18), .int (mm_r u 0 28), .int (mm_r u 0 29), .int (mm_r u 0 30), .int (mm_r u 0 31), .int (mm_r u 0 32), .ref (P.2.2.2.1 19), .int (mm_r u 0 34), .long (mm_rl u 0), .long (mm_rl u 1), .ref (P.2.2.2.1 1), .ref (P.2.2.2.1 20), .ref (P.2.2.2.1 21), .int (mm_r u 0 40)].set 16 (.int v))) = wR P (mm_w u 0 16 v) := by
  refine wR_set P u _ _ _ ?_ (eR_w P u 0 16 v)
  simp [eR, mm_r, mm_rl, mm_w]
theorem pR_0_17 (P : PC) (u : MM) (v : Int32) : (wR P u).set 0 (P.2.2.2.1 0, .inr (8, [.int (mm_r u 0 0), .int (mm_r u 0 1), .ref (P.2.2.2.1 2), .ref (P.2.2.2.1 3), .ref (P.2.2.2.1 4), .ref (P.2.2.2.1 5), .ref (P.2.2.2.1 6), .ref (P.2.2.2.1 7), .int (mm_r u 0 8), .ref (P.2.2.2.1 8), .int (mm_r u 0 10), .int (mm_r u 0 11), .int (mm_r u 0 12), .int (mm_r u 0 13), .int (mm_r u 0 14), .int (mm_r u 0 15), .int (mm_r u 0 16), .int (mm_r u 0 17), .ref (P.2.2.2.1 9), .ref (P.2.2.2.1 10), .ref (P.2.2.2.1 11), .ref (P.2.2.2.1 12), .ref (P.2.2.2.1 13), .ref (P.2.2.2.1 14), .ref (P.2.2.2.1 15), .ref (P.2.2.2.1 16), .ref (P.2.2.2.1 17), .ref (P.2.2.2.1 18), .int (mm_r u 0 28), .int (mm_r u 0 29), .int (mm_r u 0 30), .int (mm_r u 0 31), .int (mm_r u 0 32), .ref (P.2.2.2.1 19), .int (mm_r u 0 34), .long (mm_rl u 0), .long (mm_rl u 1), .ref (P.2.2.2.1 1), .ref (P.2.2.2.1 20), .ref (P.2.2.2.1 21), .int (mm_r u 0 40)].set 17 (.int v))) = wR P (mm_w u 0 17 v) := by
  refine wR_set P u _ _ _ ?_ (eR_w P u 0 17 v)
  simp [eR, mm_r, mm_rl, mm_w]
theorem pR_0_28 (P : PC) (u : MM) (v : Int32) : (wR P u).set 0 (P.2.2.2.1 0, .inr (8, [.int (mm_r u 0 0), .int (mm_r u 0 1), .ref (P.2.2.2.1 2), .ref (P.2.2.2.1 3), .ref (P.2.2.2.1 4), .ref (P.2.2.2.1 5), .ref (P.2.2.2.1 6), .ref (P.2.2.2.1 7), .int (mm_r u 0 8), .ref (P.2.2.2.1 8), .int (mm_r u 0 10), .int (mm_r u 0 11), .int (mm_r u 0 12), .int (mm_r u 0 13), .int (mm_r u 0 14), .int (mm_r u 0 15), .int (mm_r u 0 16), .int (mm_r u 0 17), .ref (P.2.2.2.1 9), .ref (P.2.2.2.1 10), .ref (P.2.2.2.1 11), .ref (P.2.2.2.1 12), .ref (P.2.2.2.1 13), .ref (P.2.2.2.1 14), .ref (P.2.2.2.1 15), .ref (P.2.2.2.1 16), .ref (P.2.2.2.1 17), .ref (P.2.2.2.1 18), .int (mm_r u 0 28), .int (mm_r u 0 29), .int (mm_r u 0 30), .int (mm_r u 0 31), .int (mm_r u 0 32), .ref (P.2.2.2.1 19), .int (mm_r u 0 34), .long (mm_rl u 0), .long (mm_rl u 1), .ref (P.2.2.2.1 1), .ref (P.2.2.2.1 20), .ref (P.2.2.2.1 21), .int (mm_r u 0 40)].set 28 (.int v))) = wR P (mm_w u 0 28 v) := by
  refine wR_set P u _ _ _ ?_ (eR_w P u 0 28 v)
  simp [eR, mm_r, mm_rl, mm_w]
theorem pR_0_29 (P : PC) (u : MM) (v : Int32) : (wR P u).set 0 (P.2.2.2.1 0, .inr (8, [.int (mm_r u 0 0), .int (mm_r u 0 1), .ref (P.2.2.2.1 2), .ref (P.2.2.2.1 3), .ref (P.2.2.2.1 4), .ref (P.2.2.2.1 5), .ref (P.2.2.2.1 6), .ref (P.2.2.2.1 7), .int (mm_r u 0 8), .ref (P.2.2.2.1 8), .int (mm_r u 0 10), .int (mm_r u 0 11), .int (mm_r u 0 12), .int (mm_r u 0 13), .int (mm_r u 0 14), .int (mm_r u 0 15), .int (mm_r u 0 16), .int (mm_r u 0 17), .ref (P.2.2.2.1 9), .ref (P.2.2.2.1 10), .ref (P.2.2.2.1 11), .ref (P.2.2.2.1 12), .ref (P.2.2.2.1 13), .ref (P.2.2.2.1 14), .ref (P.2.2.2.1 15), .ref (P.2.2.2.1 16), .ref (P.2.2.2.1 17), .ref (P.2.2.2.1 18), .int (mm_r u 0 28), .int (mm_r u 0 29), .int (mm_r u 0 30), .int (mm_r u 0 31), .int (mm_r u 0 32), .ref (P.2.2.2.1 19), .int (mm_r u 0 34), .long (mm_rl u 0), .long (mm_rl u 1), .ref (P.2.2.2.1 1), .ref (P.2.2.2.1 20), .ref (P.2.2.2.1 21), .int (mm_r u 0 40)].set 29 (.int v))) = wR P (mm_w u 0 29 v) := by
  refine wR_set P u _ _ _ ?_ (eR_w P u 0 29 v)
  simp [eR, mm_r, mm_rl, mm_w]
theorem pR_0_30 (P : PC) (u : MM) (v : Int32) : (wR P u).set 0 (P.2.2.2.1 0, .inr (8, [.int (mm_r u 0 0), .int (mm_r u 0 1), .ref (P.2.2.2.1 2), .ref (P.2.2.2.1 3), .ref (P.2.2.2.1 4), .ref (P.2.2.2.1 5), .ref (P.2.2.2.1 6), .ref (P.2.2.2.1 7), .int (mm_r u 0 8), .ref (P.2.2.2.1 8), .int (mm_r u 0 10), .int (mm_r u 0 11), .int (mm_r u 0 12), .int (mm_r u 0 13), .int (mm_r u 0 14), .int (mm_r u 0 15), .int (mm_r u 0 16), .int (mm_r u 0 17), .ref (P.2.2.2.1 9), .ref (P.2.2.2.1 10), .ref (P.2.2.2.1 11), .ref (P.2.2.2.1 12), .ref (P.2.2.2.1 13), .ref (P.2.2.2.1 14), .ref (P.2.2.2.1 15), .ref (P.2.2.2.1 16), .ref (P.2.2.2.1 17), .ref (P.2.2.2.1 18), .int (mm_r u 0 28), .int (mm_r u 0 29), .int (mm_r u 0 30), .int (mm_r u 0 31), .int (mm_r u 0 32), .ref (P.2.2.2.1 19), .int (mm_r u 0 34), .long (mm_rl u 0), .long (mm_rl u 1), .ref (P.2.2.2.1 1), .ref (P.2.2.2.1 20), .ref (P.2.2.2.1 21), .int (mm_r u 0 40)].set 30 (.int v))) = wR P (mm_w u 0 30 v) := by
  refine wR_set P u _ _ _ ?_ (eR_w P u 0 30 v)
  simp [eR, mm_r, mm_rl, mm_w]
theorem pR_0_31 (P : PC) (u : MM) (v : Int32) : (wR P u).set 0 (P.2.2.2.1 0, .inr (8, [.int (mm_r u 0 0), .int (mm_r u 0 1), .ref (P.2.2.2.1 2), .ref (P.2.2.2.1 3), .ref (P.2.2.2.1 4), .ref (P.2.2.2.1 5), .ref (P.2.2.2.1 6), .ref (P.2.2.2.1 7), .int (mm_r u 0 8), .ref (P.2.2.2.1 8), .int (mm_r u 0 10), .int (mm_r u 0 11), .int (mm_r u 0 12), .int (mm_r u 0 13), .int (mm_r u 0 14), .int (mm_r u 0 15), .int (mm_r u 0 16), .int (mm_r u 0 17), .ref (P.2.2.2.1 9), .ref (P.2.2.2.1 10), .ref (P.2.2.2.1 11), .ref (P.2.2.2.1 12), .ref (P.2.2.2.1 13), .ref (P.2.2.2.1 14), .ref (P.2.2.2.1 15), .ref (P.2.2.2.1 16), .ref (P.2.2.2.1 17), .ref (P.2.2.2.1 18), .int (mm_r u 0 28), .int (mm_r u 0 29), .int (mm_r u 0 30), .int (mm_r u 0 31), .int (mm_r u 0 32), .ref (P.2.2.2.1 19), .int (mm_r u 0 34), .long (mm_rl u 0), .long (mm_rl u 1), .ref (P.2.2.2.1 1), .ref (P.2.2.2.1 20), .ref (P.2.2.2.1 21), .int (mm_r u 0 40)].set 31 (.int v))) = wR P (mm_w u 0 31 v) := by
  refine wR_set P u _ _ _ ?_ (eR_w P u 0 31 v)
  simp [eR, mm_r, mm_rl, mm_w]
theorem pR_0_32 (P : PC) (u : MM) (v : Int32) : (wR P u).set 0 (P.2.2.2.1 0, .inr (8, [.int (mm_r u 0 0), .int (mm_r u 0 1), .ref (P.2.2.2.1 2), .ref (P.2.2.2.1 3), .ref (P.2.2.2.1 4), .ref (P.2.2.2.1 5), .ref (P.2.2.2.1 6), .ref (P.2.2.2.1 7), .int (mm_r u 0 8), .ref (P.2.2.2.1 8), .int (mm_r u 0 10), .int (mm_r u 0 11), .int (mm_r u 0 12), .int (mm_r u 0 13), .int (mm_r u 0 14), .int (mm_r u 0 15), .int (mm_r u 0 16), .int (mm_r u 0 17), .ref (P.2.2.2.1 9), .ref (P.2.2.2.1 10), .ref (P.2.2.2.1 11), .ref (P.2.2.2.1 12), .ref (P.2.2.2.1 13), .ref (P.2.2.2.1 14), .ref (P.2.2.2.1 15), .ref (P.2.2.2.1 16), .ref (P.2.2.2.1 17), .ref (P.2.2.2.1 18), .int (mm_r u 0 28), .int (mm_r u 0 29), .int (mm_r u 0 30), .int (mm_r u 0 31), .int (mm_r u 0 32), .ref (P.2.2.2.1 19), .int (mm_r u 0 34), .long (mm_rl u 0), .long (mm_rl u 1), .ref (P.2.2.2.1 1), .ref (P.2.2.2.1 20), .ref (P.2.2.2.1 21), .int (mm_r u 0 40)].set 32 (.int v))) = wR P (mm_w u 0 32 v) := by
  refine wR_set P u _ _ _ ?_ (eR_w P u 0 32 v)
  simp [eR, mm_r, mm_rl, mm_w]
theorem pR_0_34 (P : PC) (u : MM) (v : Int32) : (wR P u).set 0 (P.2.2.2.1 0, .inr (8, [.int (mm_r u 0 0), .int (mm_r u 0 1), .ref (P.2.2.2.1 2), .ref (P.2.2.2.1 3), .ref (P.2.2.2.1 4), .ref (P.2.2.2.1 5), .ref (P.2.2.2.1 6), .ref (P.2.2.2.1 7), .int (mm_r u 0 8), .ref (P.2.2.2.1 8), .int (mm_r u 0 10), .int (mm_r u 0 11), .int (mm_r u 0 12), .int (mm_r u 0 13), .int (mm_r u 0 14), .int (mm_r u 0 15), .int (mm_r u 0 16), .int (mm_r u 0 17), .ref (P.2.2.2.1 9), .ref (P.2.2.2.1 10), .ref (P.2.2.2.1 11), .ref (P.2.2.2.1 12), .ref (P.2.2.2.1 13), .ref (P.2.2.2.1 14), .ref (P.2.2.2.1 15), .ref (P.2.2.2.1 16), .ref (P.2.2.2.1 17), .ref (P.2.2.2.1 18), .int (mm_r u 0 28), .int (mm_r u 0 29), .int (mm_r u 0 30), .int (mm_r u 0 31), .int (mm_r u 0 32), .ref (P.2.2.2.1 19), .int (mm_r u 0 34), .long (mm_rl u 0), .long (mm_rl u 1), .ref (P.2.2.2.1 1), .ref (P.2.2.2.1 20), .ref (P.2.2.2.1 21), .int (mm_r u 0 40)].set 34 (.int v))) = wR P (mm_w u 0 34 v) := by
  refine wR_set P u _ _ _ ?_ (eR_w P u 0 34 v)
  simp [eR, mm_r, mm_rl, mm_w]
theorem pR_0_35 (P : PC) (u : MM) (v : Int64) : (wR P u).set 0 (P.2.2.2.1 0, .inr (8, [.int (mm_r u 0 0), .int (mm_r u 0 1), .ref (P.2.2.2.1 2), .ref (P.2.2.2.1 3), .ref (P.2.2.2.1 4), .ref (P.2.2.2.1 5), .ref (P.2.2.2.1 6), .ref (P.2.2.2.1 7), .int (mm_r u 0 8), .ref (P.2.2.2.1 8), .int (mm_r u 0 10), .int (mm_r u 0 11), .int (mm_r u 0 12), .int (mm_r u 0 13), .int (mm_r u 0 14), .int (mm_r u 0 15), .int (mm_r u 0 16), .int (mm_r u 0 17), .ref (P.2.2.2.1 9), .ref (P.2.2.2.1 10), .ref (P.2.2.2.1 11), .ref (P.2.2.2.1 12), .ref (P.2.2.2.1 13), .ref (P.2.2.2.1 14), .ref (P.2.2.2.1 15), .ref (P.2.2.2.1 16), .ref (P.2.2.2.1 17), .ref (P.2.2.2.1 18), .int (mm_r u 0 28), .int (mm_r u 0 29), .int (mm_r u 0 30), .int (mm_r u 0 31), .int (mm_r u 0 32), .ref (P.2.2.2.1 19), .int (mm_r u 0 34), .long (mm_rl u 0), .long (mm_rl u 1), .ref (P.2.2.2.1 1), .ref (P.2.2.2.1 20), .ref (P.2.2.2.1 21), .int (mm_r u 0 40)].set 35 (.long v))) = wR P (mm_wl u 0 v) := by
  refine wR_set P u _ _ _ ?_ (fun j h => eR_cg P _ _ j rfl (fun q => absurd q h))
  simp [eR, mm_r, mm_rl, mm_wl]
theorem pR_0_36 (P : PC) (u : MM) (v : Int64) : (wR P u).set 0 (P.2.2.2.1 0, .inr (8, [.int (mm_r u 0 0), .int (mm_r u 0 1), .ref (P.2.2.2.1 2), .ref (P.2.2.2.1 3), .ref (P.2.2.2.1 4), .ref (P.2.2.2.1 5), .ref (P.2.2.2.1 6), .ref (P.2.2.2.1 7), .int (mm_r u 0 8), .ref (P.2.2.2.1 8), .int (mm_r u 0 10), .int (mm_r u 0 11), .int (mm_r u 0 12), .int (mm_r u 0 13), .int (mm_r u 0 14), .int (mm_r u 0 15), .int (mm_r u 0 16), .int (mm_r u 0 17), .ref (P.2.2.2.1 9), .ref (P.2.2.2.1 10), .ref (P.2.2.2.1 11), .ref (P.2.2.2.1 12), .ref (P.2.2.2.1 13), .ref (P.2.2.2.1 14), .ref (P.2.2.2.1 15), .ref (P.2.2.2.1 16), .ref (P.2.2.2.1 17), .ref (P.2.2.2.1 18), .int (mm_r u 0 28), .int (mm_r u 0 29), .int (mm_r u 0 30), .int (mm_r u 0 31), .int (mm_r u 0 32), .ref (P.2.2.2.1 19), .int (mm_r u 0 34), .long (mm_rl u 0), .long (mm_rl u 1), .ref (P.2.2.2.1 1), .ref (P.2.2.2.1 20), .ref (P.2.2.2.1 21), .int (mm_r u 0 40)].set 36 (.long v))) = wR P (mm_wl u 1 v) := by
  refine wR_set P u _ _ _ ?_ (fun j h => eR_cg P _ _ j rfl (fun q => absurd q h))
  simp [eR, mm_r, mm_rl, mm_wl]
theorem pR_0_40 (P : PC) (u : MM) (v : Int32) : (wR P u).set 0 (P.2.2.2.1 0, .inr (8, [.int (mm_r u 0 0), .int (mm_r u 0 1), .ref (P.2.2.2.1 2), .ref (P.2.2.2.1 3), .ref (P.2.2.2.1 4), .ref (P.2.2.2.1 5), .ref (P.2.2.2.1 6), .ref (P.2.2.2.1 7), .int (mm_r u 0 8), .ref (P.2.2.2.1 8), .int (mm_r u 0 10), .int (mm_r u 0 11), .int (mm_r u 0 12), .int (mm_r u 0 13), .int (mm_r u 0 14), .int (mm_r u 0 15), .int (mm_r u 0 16), .int (mm_r u 0 17), .ref (P.2.2.2.1 9), .ref (P.2.2.2.1 10), .ref (P.2.2.2.1 11), .ref (P.2.2.2.1 12), .ref (P.2.2.2.1 13), .ref (P.2.2.2.1 14), .ref (P.2.2.2.1 15), .ref (P.2.2.2.1 16), .ref (P.2.2.2.1 17), .ref (P.2.2.2.1 18), .int (mm_r u 0 28), .int (mm_r u 0 29), .int (mm_r u 0 30), .int (mm_r u 0 31), .int (mm_r u 0 32), .ref (P.2.2.2.1 19), .int (mm_r u 0 34), .long (mm_rl u 0), .long (mm_rl u 1), .ref (P.2.2.2.1 1), .ref (P.2.2.2.1 20), .ref (P.2.2.2.1 21), .int (mm_r u 0 40)].set 40 (.int v))) = wR P (mm_w u 0 40 v) := by
  refine wR_set P u _ _ _ ?_ (eR_w P u 0 40 v)
  simp [eR, mm_r, mm_rl, mm_w]
theorem gv_C (P : PC) (hi : ∀ i j, i < 87 → j < 87 → P.2.2.2.1 i = P.2.2.2.1 j → i = j) (hA : ∀ i, i < 87 → P.2.2.1 (P.2.2.2.1 i)) : GV (vC P) := ⟨fun u => va_D_map hi hA, fun s U H => roC_warm s U H, fun U H H1 => roC_kept U H H1, fun U U' H => roC_same U U' H⟩
theorem gv_R (P : PC) (hi : ∀ i j, i < 22 → j < 22 → P.2.2.2.1 i = P.2.2.2.1 j → i = j) (hA : ∀ i, i < 22 → P.2.2.1 (P.2.2.2.1 i)) : GV (vR P) := ⟨fun u => va_D_map hi hA, fun _ _ _ _ h => h, fun _ _ _ _ h => h, fun _ _ _ _ h => h⟩
end
section
theorem iX0 : ∀ w ∈ u_ws RX0 TX0 3, w ∈ TB := by decide +kernel
theorem iX1 : ∀ w ∈ u_ws RX1 TX1 3, w ∈ TB := by decide +kernel
theorem iX2 : ∀ w ∈ u_ws RX2 TX2 4, w ∈ TB := by decide +kernel
theorem iX3 : ∀ w ∈ u_ws RX3 TX3 15, w ∈ TB := by decide +kernel
theorem iX4 : ∀ w ∈ u_ws RX4 TX4 17, w ∈ TB := by decide +kernel
theorem iX5 : ∀ w ∈ u_ws RX5 TX5 7, w ∈ TB := by decide +kernel
theorem iX6 : ∀ w ∈ u_ws RX6 TX6 3, w ∈ TB := by decide +kernel
theorem iX7 : ∀ w ∈ u_ws RX7 TX7 14, w ∈ TB := by decide +kernel
theorem iX8 : ∀ w ∈ u_ws RX8 TX8 41, w ∈ TB := by decide +kernel
section FL
variable {P : PC} {X : CX} {cc : ByteArray} {nL : Nat} {own : String} {rt : Option FieldType} {rm : Room} {α : Type} {Q : α → State → Prop} {pc index : Nat} {lv : List (Nat × Value)} {st : List Value} {u : MM} {o : Option α}
theorem aC_0_0 (F : FX X (vC P) cc nL own rt rm) (hl : Cond.fieldLink own index "OrchardWall" "rows" "LOrchardWall$Rows;" ∈ TB) (hd : decode cc pc = .ok (.getfield index, 3)) (kk : JJ X (vC P) nL Q (pc + 3) lv (.ref (P.2.2.2.1 1) :: st) u o) : JJ X (vC P) nL Q pc lv (.ref (P.2.2.2.1 0) :: st) u o := j_get F iX7 0 (gC_0 P u) rfl 0 (by decide) hl rfl rfl hd kk
theorem aC_0_1 (F : FX X (vC P) cc nL own rt rm) (hl : Cond.fieldLink own index "OrchardWall" "reader" "LOrchardWall$Reader;" ∈ TB) (hd : decode cc pc = .ok (.getfield index, 3)) (kk : JJ X (vC P) nL Q (pc + 3) lv (.ref (P.2.2.2.1 2) :: st) u o) : JJ X (vC P) nL Q pc lv (.ref (P.2.2.2.1 0) :: st) u o := j_get F iX7 0 (gC_0 P u) rfl 1 (by decide) hl rfl rfl hd kk
theorem aC_0_2 (F : FX X (vC P) cc nL own rt rm) (hl : Cond.fieldLink own index "OrchardWall" "orchard" "LOrchardWall$Orchard;" ∈ TB) (hd : decode cc pc = .ok (.getfield index, 3)) (kk : JJ X (vC P) nL Q (pc + 3) lv (.ref (P.2.2.2.1 3) :: st) u o) : JJ X (vC P) nL Q pc lv (.ref (P.2.2.2.1 0) :: st) u o := j_get F iX7 0 (gC_0 P u) rfl 2 (by decide) hl rfl rfl hd kk
theorem aC_0_3 (F : FX X (vC P) cc nL own rt rm) (hl : Cond.fieldLink own index "OrchardWall" "draft" "LOrchardWall$Orchard;" ∈ TB) (hd : decode cc pc = .ok (.getfield index, 3)) (kk : JJ X (vC P) nL Q (pc + 3) lv (.ref (P.2.2.2.1 4) :: st) u o) : JJ X (vC P) nL Q pc lv (.ref (P.2.2.2.1 0) :: st) u o := j_get F iX7 0 (gC_0 P u) rfl 3 (by decide) hl rfl rfl hd kk
theorem aC_0_4 (F : FX X (vC P) cc nL own rt rm) (hl : Cond.fieldLink own index "OrchardWall" "imageZero" "LOrchardWall$Orchard;" ∈ TB) (hd : decode cc pc = .ok (.getfield index, 3)) (kk : JJ X (vC P) nL Q (pc + 3) lv (.ref (P.2.2.2.1 5) :: st) u o) : JJ X (vC P) nL Q pc lv (.ref (P.2.2.2.1 0) :: st) u o := j_get F iX7 0 (gC_0 P u) rfl 4 (by decide) hl rfl rfl hd kk
theorem aC_0_5 (F : FX X (vC P) cc nL own rt rm) (hl : Cond.fieldLink own index "OrchardWall" "imageOne" "LOrchardWall$Orchard;" ∈ TB) (hd : decode cc pc = .ok (.getfield index, 3)) (kk : JJ X (vC P) nL Q (pc + 3) lv (.ref (P.2.2.2.1 6) :: st) u o) : JJ X (vC P) nL Q pc lv (.ref (P.2.2.2.1 0) :: st) u o := j_get F iX7 0 (gC_0 P u) rfl 5 (by decide) hl rfl rfl hd kk
theorem aC_0_6 (F : FX X (vC P) cc nL own rt rm) (hl : Cond.fieldLink own index "OrchardWall" "acts" "LOrchardWall$Acts;" ∈ TB) (hd : decode cc pc = .ok (.getfield index, 3)) (kk : JJ X (vC P) nL Q (pc + 3) lv (.ref (P.2.2.2.1 7) :: st) u o) : JJ X (vC P) nL Q pc lv (.ref (P.2.2.2.1 0) :: st) u o := j_get F iX7 0 (gC_0 P u) rfl 6 (by decide) hl rfl rfl hd kk
theorem aC_0_7 (F : FX X (vC P) cc nL own rt rm) (hl : Cond.fieldLink own index "OrchardWall" "raid" "LOrchardWall$Raid;" ∈ TB) (hd : decode cc pc = .ok (.getfield index, 3)) (kk : JJ X (vC P) nL Q (pc + 3) lv (.ref (P.2.2.2.1 8) :: st) u o) : JJ X (vC P) nL Q pc lv (.ref (P.2.2.2.1 0) :: st) u o := j_get F iX7 0 (gC_0 P u) rfl 7 (by decide) hl rfl rfl hd kk
theorem aC_0_8 (F : FX X (vC P) cc nL own rt rm) (hl : Cond.fieldLink own index "OrchardWall" "book" "LOrchardWall$Book;" ∈ TB) (hd : decode cc pc = .ok (.getfield index, 3)) (kk : JJ X (vC P) nL Q (pc + 3) lv (.ref (P.2.2.2.1 9) :: st) u o) : JJ X (vC P) nL Q pc lv (.ref (P.2.2.2.1 0) :: st) u o := j_get F iX7 0 (gC_0 P u) rfl 8 (by decide) hl rfl rfl hd kk
theorem aC_0_9 (F : FX X (vC P) cc nL own rt rm) (hl : Cond.fieldLink own index "OrchardWall" "days" "LOrchardWall$Days;" ∈ TB) (hd : decode cc pc = .ok (.getfield index, 3)) (kk : JJ X (vC P) nL Q (pc + 3) lv (.ref (P.2.2.2.1 10) :: st) u o) : JJ X (vC P) nL Q pc lv (.ref (P.2.2.2.1 0) :: st) u o := j_get F iX7 0 (gC_0 P u) rfl 9 (by decide) hl rfl rfl hd kk
theorem aC_0_10 (F : FX X (vC P) cc nL own rt rm) (hl : Cond.fieldLink own index "OrchardWall" "best" "[I" ∈ TB) (hd : decode cc pc = .ok (.getfield index, 3)) (kk : JJ X (vC P) nL Q (pc + 3) lv (.ref (P.2.2.2.1 16) :: st) u o) : JJ X (vC P) nL Q pc lv (.ref (P.2.2.2.1 0) :: st) u o := j_get F iX7 0 (gC_0 P u) rfl 10 (by decide) hl rfl rfl hd kk
theorem aC_0_11 (F : FX X (vC P) cc nL own rt rm) (hl : Cond.fieldLink own index "OrchardWall" "traced" "[I" ∈ TB) (hd : decode cc pc = .ok (.getfield index, 3)) (kk : JJ X (vC P) nL Q (pc + 3) lv (.ref (P.2.2.2.1 17) :: st) u o) : JJ X (vC P) nL Q pc lv (.ref (P.2.2.2.1 0) :: st) u o := j_get F iX7 0 (gC_0 P u) rfl 11 (by decide) hl rfl rfl hd kk
theorem aC_0_12 (F : FX X (vC P) cc nL own rt rm) (hl : Cond.fieldLink own index "OrchardWall" "tracedLength" "I" ∈ TB) (hd : decode cc pc = .ok (.getfield index, 3)) (kk : JJ X (vC P) nL Q (pc + 3) lv (.int (mm_r u 0 12) :: st) u o) : JJ X (vC P) nL Q pc lv (.ref (P.2.2.2.1 0) :: st) u o := j_get F iX7 0 (gC_0 P u) rfl 12 (by decide) hl rfl rfl hd kk
theorem bC_0_12 (F : FX X (vC P) cc nL own rt rm) {v : Int32} {f : MM → Option α} (hl : Cond.fieldLink own index "OrchardWall" "tracedLength" "I" ∈ TB) (hd : decode cc pc = .ok (.putfield index, 3)) (kk : ∀ u1, JJ X (vC P) nL Q (pc + 3) lv st u1 (f u1)) : JJ X (vC P) nL Q pc lv (.int v :: .ref (P.2.2.2.1 0) :: st) u (mo_pf u 0 12 v f) := j_put F iX7 tyX7 tyX7_ok nmX7 0 (gC_0 P u) rfl 12 (by decide) hl rfl rfl (ty := .int) (by decide +kernel) rfl rfl (Nat.le_of_ble_eq_true rfl) (pC_0_12 P u v) hd (kk _)
theorem aC_0_13 (F : FX X (vC P) cc nL own rt rm) (hl : Cond.fieldLink own index "OrchardWall" "finding" "I" ∈ TB) (hd : decode cc pc = .ok (.getfield index, 3)) (kk : JJ X (vC P) nL Q (pc + 3) lv (.int (mm_r u 0 13) :: st) u o) : JJ X (vC P) nL Q pc lv (.ref (P.2.2.2.1 0) :: st) u o := j_get F iX7 0 (gC_0 P u) rfl 13 (by decide) hl rfl rfl hd kk
theorem bC_0_13 (F : FX X (vC P) cc nL own rt rm) {v : Int32} {f : MM → Option α} (hl : Cond.fieldLink own index "OrchardWall" "finding" "I" ∈ TB) (hd : decode cc pc = .ok (.putfield index, 3)) (kk : ∀ u1, JJ X (vC P) nL Q (pc + 3) lv st u1 (f u1)) : JJ X (vC P) nL Q pc lv (.int v :: .ref (P.2.2.2.1 0) :: st) u (mo_pf u 0 13 v f) := j_put F iX7 tyX7 tyX7_ok nmX7 0 (gC_0 P u) rfl 13 (by decide) hl rfl rfl (ty := .int) (by decide +kernel) rfl rfl (Nat.le_of_ble_eq_true rfl) (pC_0_13 P u v) hd (kk _)
theorem aC_1_0 (F : FX X (vC P) cc nL own rt rm) (hl : Cond.fieldLink own index "OrchardWall$Rows" "lanes" "[I" ∈ TB) (hd : decode cc pc = .ok (.getfield index, 3)) (kk : JJ X (vC P) nL Q (pc + 3) lv (.ref (P.2.2.2.1 13) :: st) u o) : JJ X (vC P) nL Q pc lv (.ref (P.2.2.2.1 1) :: st) u o := j_get F iX6 1 (gC_1 P u) rfl 0 (by decide) hl rfl rfl hd kk
theorem aC_1_1 (F : FX X (vC P) cc nL own rt rm) (hl : Cond.fieldLink own index "OrchardWall$Rows" "sizes" "[I" ∈ TB) (hd : decode cc pc = .ok (.getfield index, 3)) (kk : JJ X (vC P) nL Q (pc + 3) lv (.ref (P.2.2.2.1 14) :: st) u o) : JJ X (vC P) nL Q pc lv (.ref (P.2.2.2.1 1) :: st) u o := j_get F iX6 1 (gC_1 P u) rfl 1 (by decide) hl rfl rfl hd kk
theorem aC_1_2 (F : FX X (vC P) cc nL own rt rm) (hl : Cond.fieldLink own index "OrchardWall$Rows" "items" "[[I" ∈ TB) (hd : decode cc pc = .ok (.getfield index, 3)) (kk : JJ X (vC P) nL Q (pc + 3) lv (.ref (P.2.2.2.1 11) :: st) u o) : JJ X (vC P) nL Q pc lv (.ref (P.2.2.2.1 1) :: st) u o := j_get F iX6 1 (gC_1 P u) rfl 2 (by decide) hl rfl rfl hd kk
theorem aC_2_0 (F : FX X (vC P) cc nL own rt rm) (hl : Cond.fieldLink own index "OrchardWall$Reader" "tape" "[I" ∈ TB) (hd : decode cc pc = .ok (.getfield index, 3)) (kk : JJ X (vC P) nL Q (pc + 3) lv (.ref (P.2.2.2.1 15) :: st) u o) : JJ X (vC P) nL Q pc lv (.ref (P.2.2.2.1 2) :: st) u o := j_get F iX5 2 (gC_2 P u) rfl 0 (by decide) hl rfl rfl hd kk
theorem aC_2_1 (F : FX X (vC P) cc nL own rt rm) (hl : Cond.fieldLink own index "OrchardWall$Reader" "length" "I" ∈ TB) (hd : decode cc pc = .ok (.getfield index, 3)) (kk : JJ X (vC P) nL Q (pc + 3) lv (.int (mm_r u 2 1) :: st) u o) : JJ X (vC P) nL Q pc lv (.ref (P.2.2.2.1 2) :: st) u o := j_get F iX5 2 (gC_2 P u) rfl 1 (by decide) hl rfl rfl hd kk
theorem bC_2_1 (F : FX X (vC P) cc nL own rt rm) {v : Int32} {f : MM → Option α} (hl : Cond.fieldLink own index "OrchardWall$Reader" "length" "I" ∈ TB) (hd : decode cc pc = .ok (.putfield index, 3)) (kk : ∀ u1, JJ X (vC P) nL Q (pc + 3) lv st u1 (f u1)) : JJ X (vC P) nL Q pc lv (.int v :: .ref (P.2.2.2.1 2) :: st) u (mo_pf u 2 1 v f) := j_put F iX5 tyX5 tyX5_ok nmX5 2 (gC_2 P u) rfl 1 (by decide) hl rfl rfl (ty := .int) (by decide +kernel) rfl rfl (Nat.le_of_ble_eq_true rfl) (pC_2_1 P u v) hd (kk _)
theorem aC_2_2 (F : FX X (vC P) cc nL own rt rm) (hl : Cond.fieldLink own index "OrchardWall$Reader" "fault" "I" ∈ TB) (hd : decode cc pc = .ok (.getfield index, 3)) (kk : JJ X (vC P) nL Q (pc + 3) lv (.int (mm_r u 2 2) :: st) u o) : JJ X (vC P) nL Q pc lv (.ref (P.2.2.2.1 2) :: st) u o := j_get F iX5 2 (gC_2 P u) rfl 2 (by decide) hl rfl rfl hd kk
theorem bC_2_2 (F : FX X (vC P) cc nL own rt rm) {v : Int32} {f : MM → Option α} (hl : Cond.fieldLink own index "OrchardWall$Reader" "fault" "I" ∈ TB) (hd : decode cc pc = .ok (.putfield index, 3)) (kk : ∀ u1, JJ X (vC P) nL Q (pc + 3) lv st u1 (f u1)) : JJ X (vC P) nL Q pc lv (.int v :: .ref (P.2.2.2.1 2) :: st) u (mo_pf u 2 2 v f) := j_put F iX5 tyX5 tyX5_ok nmX5 2 (gC_2 P u) rfl 2 (by decide) hl rfl rfl (ty := .int) (by decide +kernel) rfl rfl (Nat.le_of_ble_eq_true rfl) (pC_2_2 P u v) hd (kk _)
theorem aC_2_3 (F : FX X (vC P) cc nL own rt rm) (hl : Cond.fieldLink own index "OrchardWall$Reader" "token" "I" ∈ TB) (hd : decode cc pc = .ok (.getfield index, 3)) (kk : JJ X (vC P) nL Q (pc + 3) lv (.int (mm_r u 2 3) :: st) u o) : JJ X (vC P) nL Q pc lv (.ref (P.2.2.2.1 2) :: st) u o := j_get F iX5 2 (gC_2 P u) rfl 3 (by decide) hl rfl rfl hd kk
theorem bC_2_3 (F : FX X (vC P) cc nL own rt rm) {v : Int32} {f : MM → Option α} (hl : Cond.fieldLink own index "OrchardWall$Reader" "token" "I" ∈ TB) (hd : decode cc pc = .ok (.putfield index, 3)) (kk : ∀ u1, JJ X (vC P) nL Q (pc + 3) lv st u1 (f u1)) : JJ X (vC P) nL Q pc lv (.int v :: .ref (P.2.2.2.1 2) :: st) u (mo_pf u 2 3 v f) := j_put F iX5 tyX5 tyX5_ok nmX5 2 (gC_2 P u) rfl 3 (by decide) hl rfl rfl (ty := .int) (by decide +kernel) rfl rfl (Nat.le_of_ble_eq_true rfl) (pC_2_3 P u v) hd (kk _)
theorem aC_2_4 (F : FX X (vC P) cc nL own rt rm) (hl : Cond.fieldLink own index "OrchardWall$Reader" "number" "I" ∈ TB) (hd : decode cc pc = .ok (.getfield index, 3)) (kk : JJ X (vC P) nL Q (pc + 3) lv (.int (mm_r u 2 4) :: st) u o) : JJ X (vC P) nL Q pc lv (.ref (P.2.2.2.1 2) :: st) u o := j_get F iX5 2 (gC_2 P u) rfl 4 (by decide) hl rfl rfl hd kk
theorem bC_2_4 (F : FX X (vC P) cc nL own rt rm) {v : Int32} {f : MM → Option α} (hl : Cond.fieldLink own index "OrchardWall$Reader" "number" "I" ∈ TB) (hd : decode cc pc = .ok (.putfield index, 3)) (kk : ∀ u1, JJ X (vC P) nL Q (pc + 3) lv st u1 (f u1)) : JJ X (vC P) nL Q pc lv (.int v :: .ref (P.2.2.2.1 2) :: st) u (mo_pf u 2 4 v f) := j_put F iX5 tyX5 tyX5_ok nmX5 2 (gC_2 P u) rfl 4 (by decide) hl rfl rfl (ty := .int) (by decide +kernel) rfl rfl (Nat.le_of_ble_eq_true rfl) (pC_2_4 P u v) hd (kk _)
theorem aC_2_5 (F : FX X (vC P) cc nL own rt rm) (hl : Cond.fieldLink own index "OrchardWall$Reader" "place" "I" ∈ TB) (hd : decode cc pc = .ok (.getfield index, 3)) (kk : JJ X (vC P) nL Q (pc + 3) lv (.int (mm_r u 2 5) :: st) u o) : JJ X (vC P) nL Q pc lv (.ref (P.2.2.2.1 2) :: st) u o := j_get F iX5 2 (gC_2 P u) rfl 5 (by decide) hl rfl rfl hd kk
theorem bC_2_5 (F : FX X (vC P) cc nL own rt rm) {v : Int32} {f : MM → Option α} (hl : Cond.fieldLink own index "OrchardWall$Reader" "place" "I" ∈ TB) (hd : decode cc pc = .ok (.putfield index, 3)) (kk : ∀ u1, JJ X (vC P) nL Q (pc + 3) lv st u1 (f u1)) : JJ X (vC P) nL Q pc lv (.int v :: .ref (P.2.2.2.1 2) :: st) u (mo_pf u 2 5 v f) := j_put F iX5 tyX5 tyX5_ok nmX5 2 (gC_2 P u) rfl 5 (by decide) hl rfl rfl (ty := .int) (by decide +kernel) rfl rfl (Nat.le_of_ble_eq_true rfl) (pC_2_5 P u v) hd (kk _)
theorem aC_2_6 (F : FX X (vC P) cc nL own rt rm) (hl : Cond.fieldLink own index "OrchardWall$Reader" "behind" "I" ∈ TB) (hd : decode cc pc = .ok (.getfield index, 3)) (kk : JJ X (vC P) nL Q (pc + 3) lv (.int (mm_r u 2 6) :: st) u o) : JJ X (vC P) nL Q pc lv (.ref (P.2.2.2.1 2) :: st) u o := j_get F iX5 2 (gC_2 P u) rfl 6 (by decide) hl rfl rfl hd kk
theorem bC_2_6 (F : FX X (vC P) cc nL own rt rm) {v : Int32} {f : MM → Option α} (hl : Cond.fieldLink own index "OrchardWall$Reader" "behind" "I" ∈ TB) (hd : decode cc pc = .ok (.putfield index, 3)) (kk : ∀ u1, JJ X (vC P) nL Q (pc + 3) lv st u1 (f u1)) : JJ X (vC P) nL Q pc lv (.int v :: .ref (P.2.2.2.1 2) :: st) u (mo_pf u 2 6 v f) := j_put F iX5 tyX5 tyX5_ok nmX5 2 (gC_2 P u) rfl 6 (by decide) hl rfl rfl (ty := .int) (by decide +kernel) rfl rfl (Nat.le_of_ble_eq_true rfl) (pC_2_6 P u v) hd (kk _)
theorem aC_3_0 (F : FX X (vC P) cc nL own rt rm) (hl : Cond.fieldLink own index "OrchardWall$Orchard" "stands" "Z" ∈ TB) (hd : decode cc pc = .ok (.getfield index, 3)) (kk : JJ X (vC P) nL Q (pc + 3) lv (.int (mm_r u 3 0) :: st) u o) : JJ X (vC P) nL Q pc lv (.ref (P.2.2.2.1 3) :: st) u o := j_get F iX3 3 (gC_3 P u) rfl 0 (by decide) hl rfl rfl hd kk
theorem bC_3_0 (F : FX X (vC P) cc nL own rt rm) {v : Int32} {f : MM → Option α} (hz : narrow .boolean (.int v) = .int v ∧ fits .boolean (.int v) = true) (hl : Cond.fieldLink own index "OrchardWall$Orchard" "stands" "Z" ∈ TB) (hd : decode cc pc = .ok (.putfield index, 3)) (kk : ∀ u1, JJ X (vC P) nL Q (pc + 3) lv st u1 (f u1)) : JJ X (vC P) nL Q pc lv (.int v :: .ref (P.2.2.2.1 3) :: st) u (mo_pf u 3 0 v f) := j_put F iX3 tyX3 tyX3_ok nmX3 3 (gC_3 P u) rfl 0 (by decide) hl rfl rfl (ty := .boolean) (by decide +kernel) hz.1 hz.2 (Nat.le_of_ble_eq_true rfl) (pC_3_0 P u v) hd (kk _)
theorem aC_3_1 (F : FX X (vC P) cc nL own rt rm) (hl : Cond.fieldLink own index "OrchardWall$Orchard" "house" "I" ∈ TB) (hd : decode cc pc = .ok (.getfield index, 3)) (kk : JJ X (vC P) nL Q (pc + 3) lv (.int (mm_r u 3 1) :: st) u o) : JJ X (vC P) nL Q pc lv (.ref (P.2.2.2.1 3) :: st) u o := j_get F iX3 3 (gC_3 P u) rfl 1 (by decide) hl rfl rfl hd kk
theorem bC_3_1 (F : FX X (vC P) cc nL own rt rm) {v : Int32} {f : MM → Option α} (hl : Cond.fieldLink own index "OrchardWall$Orchard" "house" "I" ∈ TB) (hd : decode cc pc = .ok (.putfield index, 3)) (kk : ∀ u1, JJ X (vC P) nL Q (pc + 3) lv st u1 (f u1)) : JJ X (vC P) nL Q pc lv (.int v :: .ref (P.2.2.2.1 3) :: st) u (mo_pf u 3 1 v f) := j_put F iX3 tyX3 tyX3_ok nmX3 3 (gC_3 P u) rfl 1 (by decide) hl rfl rfl (ty := .int) (by decide +kernel) rfl rfl (Nat.le_of_ble_eq_true rfl) (pC_3_1 P u v) hd (kk _)
theorem aC_3_2 (F : FX X (vC P) cc nL own rt rm) (hl : Cond.fieldLink own index "OrchardWall$Orchard" "entry" "I" ∈ TB) (hd : decode cc pc = .ok (.getfield index, 3)) (kk : JJ X (vC P) nL Q (pc + 3) lv (.int (mm_r u 3 2) :: st) u o) : JJ X (vC P) nL Q pc lv (.ref (P.2.2.2.1 3) :: st) u o := j_get F iX3 3 (gC_3 P u) rfl 2 (by decide) hl rfl rfl hd kk
theorem bC_3_2 (F : FX X (vC P) cc nL own rt rm) {v : Int32} {f : MM → Option α} (hl : Cond.fieldLink own index "OrchardWall$Orchard" "entry" "I" ∈ TB) (hd : decode cc pc = .ok (.putfield index, 3)) (kk : ∀ u1, JJ X (vC P) nL Q (pc + 3) lv st u1 (f u1)) : JJ X (vC P) nL Q pc lv (.int v :: .ref (P.2.2.2.1 3) :: st) u (mo_pf u 3 2 v f) := j_put F iX3 tyX3 tyX3_ok nmX3 3 (gC_3 P u) rfl 2 (by decide) hl rfl rfl (ty := .int) (by decide +kernel) rfl rfl (Nat.le_of_ble_eq_true rfl) (pC_3_2 P u v) hd (kk _)
theorem aC_3_3 (F : FX X (vC P) cc nL own rt rm) (hl : Cond.fieldLink own index "OrchardWall$Orchard" "ears" "I" ∈ TB) (hd : decode cc pc = .ok (.getfield index, 3)) (kk : JJ X (vC P) nL Q (pc + 3) lv (.int (mm_r u 3 3) :: st) u o) : JJ X (vC P) nL Q pc lv (.ref (P.2.2.2.1 3) :: st) u o := j_get F iX3 3 (gC_3 P u) rfl 3 (by decide) hl rfl rfl hd kk
theorem bC_3_3 (F : FX X (vC P) cc nL own rt rm) {v : Int32} {f : MM → Option α} (hl : Cond.fieldLink own index "OrchardWall$Orchard" "ears" "I" ∈ TB) (hd : decode cc pc = .ok (.putfield index, 3)) (kk : ∀ u1, JJ X (vC P) nL Q (pc + 3) lv st u1 (f u1)) : JJ X (vC P) nL Q pc lv (.int v :: .ref (P.2.2.2.1 3) :: st) u (mo_pf u 3 3 v f) := j_put F iX3 tyX3 tyX3_ok nmX3 3 (gC_3 P u) rfl 3 (by decide) hl rfl rfl (ty := .int) (by decide +kernel) rfl rfl (Nat.le_of_ble_eq_true rfl) (pC_3_3 P u v) hd (kk _)
theorem aC_3_4 (F : FX X (vC P) cc nL own rt rm) (hl : Cond.fieldLink own index "OrchardWall$Orchard" "delay" "I" ∈ TB) (hd : decode cc pc = .ok (.getfield index, 3)) (kk : JJ X (vC P) nL Q (pc + 3) lv (.int (mm_r u 3 4) :: st) u o) : JJ X (vC P) nL Q pc lv (.ref (P.2.2.2.1 3) :: st) u o := j_get F iX3 3 (gC_3 P u) rfl 4 (by decide) hl rfl rfl hd kk
theorem bC_3_4 (F : FX X (vC P) cc nL own rt rm) {v : Int32} {f : MM → Option α} (hl : Cond.fieldLink own index "OrchardWall$Orchard" "delay" "I" ∈ TB) (hd : decode cc pc = .ok (.putfield index, 3)) (kk : ∀ u1, JJ X (vC P) nL Q (pc + 3) lv st u1 (f u1)) : JJ X (vC P) nL Q pc lv (.int v :: .ref (P.2.2.2.1 3) :: st) u (mo_pf u 3 4 v f) := j_put F iX3 tyX3 tyX3_ok nmX3 3 (gC_3 P u) rfl 4 (by decide) hl rfl rfl (ty := .int) (by decide +kernel) rfl rfl (Nat.le_of_ble_eq_true rfl) (pC_3_4 P u v) hd (kk _)
theorem aC_3_5 (F : FX X (vC P) cc nL own rt rm) (hl : Cond.fieldLink own index "OrchardWall$Orchard" "dog" "I" ∈ TB) (hd : decode cc pc = .ok (.getfield index, 3)) (kk : JJ X (vC P) nL Q (pc + 3) lv (.int (mm_r u 3 5) :: st) u o) : JJ X (vC P) nL Q pc lv (.ref (P.2.2.2.1 3) :: st) u o := j_get F iX3 3 (gC_3 P u) rfl 5 (by decide) hl rfl rfl hd kk
theorem bC_3_5 (F : FX X (vC P) cc nL own rt rm) {v : Int32} {f : MM → Option α} (hl : Cond.fieldLink own index "OrchardWall$Orchard" "dog" "I" ∈ TB) (hd : decode cc pc = .ok (.putfield index, 3)) (kk : ∀ u1, JJ X (vC P) nL Q (pc + 3) lv st u1 (f u1)) : JJ X (vC P) nL Q pc lv (.int v :: .ref (P.2.2.2.1 3) :: st) u (mo_pf u 3 5 v f) := j_put F iX3 tyX3 tyX3_ok nmX3 3 (gC_3 P u) rfl 5 (by decide) hl rfl rfl (ty := .int) (by decide +kernel) rfl rfl (Nat.le_of_ble_eq_true rfl) (pC_3_5 P u v) hd (kk _)
theorem aC_3_6 (F : FX X (vC P) cc nL own rt rm) (hl : Cond.fieldLink own index "OrchardWall$Orchard" "hens" "I" ∈ TB) (hd : decode cc pc = .ok (.getfield index, 3)) (kk : JJ X (vC P) nL Q (pc + 3) lv (.int (mm_r u 3 6) :: st) u o) : JJ X (vC P) nL Q pc lv (.ref (P.2.2.2.1 3) :: st) u o := j_get F iX3 3 (gC_3 P u) rfl 6 (by decide) hl rfl rfl hd kk
theorem bC_3_6 (F : FX X (vC P) cc nL own rt rm) {v : Int32} {f : MM → Option α} (hl : Cond.fieldLink own index "OrchardWall$Orchard" "hens" "I" ∈ TB) (hd : decode cc pc = .ok (.putfield index, 3)) (kk : ∀ u1, JJ X (vC P) nL Q (pc + 3) lv st u1 (f u1)) : JJ X (vC P) nL Q pc lv (.int v :: .ref (P.2.2.2.1 3) :: st) u (mo_pf u 3 6 v f) := j_put F iX3 tyX3 tyX3_ok nmX3 3 (gC_3 P u) rfl 6 (by decide) hl rfl rfl (ty := .int) (by decide +kernel) rfl rfl (Nat.le_of_ble_eq_true rfl) (pC_3_6 P u v) hd (kk _)
theorem aC_3_7 (F : FX X (vC P) cc nL own rt rm) (hl : Cond.fieldLink own index "OrchardWall$Orchard" "trees" "I" ∈ TB) (hd : decode cc pc = .ok (.getfield index, 3)) (kk : JJ X (vC P) nL Q (pc + 3) lv (.int (mm_r u 3 7) :: st) u o) : JJ X (vC P) nL Q pc lv (.ref (P.2.2.2.1 3) :: st) u o := j_get F iX3 3 (gC_3 P u) rfl 7 (by decide) hl rfl rfl hd kk
theorem bC_3_7 (F : FX X (vC P) cc nL own rt rm) {v : Int32} {f : MM → Option α} (hl : Cond.fieldLink own index "OrchardWall$Orchard" "trees" "I" ∈ TB) (hd : decode cc pc = .ok (.putfield index, 3)) (kk : ∀ u1, JJ X (vC P) nL Q (pc + 3) lv st u1 (f u1)) : JJ X (vC P) nL Q pc lv (.int v :: .ref (P.2.2.2.1 3) :: st) u (mo_pf u 3 7 v f) := j_put F iX3 tyX3 tyX3_ok nmX3 3 (gC_3 P u) rfl 7 (by decide) hl rfl rfl (ty := .int) (by decide +kernel) rfl rfl (Nat.le_of_ble_eq_true rfl) (pC_3_7 P u v) hd (kk _)
theorem aC_3_8 (F : FX X (vC P) cc nL own rt rm) (hl : Cond.fieldLink own index "OrchardWall$Orchard" "raiders" "I" ∈ TB) (hd : decode cc pc = .ok (.getfield index, 3)) (kk : JJ X (vC P) nL Q (pc + 3) lv (.int (mm_r u 3 8) :: st) u o) : JJ X (vC P) nL Q pc lv (.ref (P.2.2.2.1 3) :: st) u o := j_get F iX3 3 (gC_3 P u) rfl 8 (by decide) hl rfl rfl hd kk
theorem bC_3_8 (F : FX X (vC P) cc nL own rt rm) {v : Int32} {f : MM → Option α} (hl : Cond.fieldLink own index "OrchardWall$Orchard" "raiders" "I" ∈ TB) (hd : decode cc pc = .ok (.putfield index, 3)) (kk : ∀ u1, JJ X (vC P) nL Q (pc + 3) lv st u1 (f u1)) : JJ X (vC P) nL Q pc lv (.int v :: .ref (P.2.2.2.1 3) :: st) u (mo_pf u 3 8 v f) := j_put F iX3 tyX3 tyX3_ok nmX3 3 (gC_3 P u) rfl 8 (by decide) hl rfl rfl (ty := .int) (by decide +kernel) rfl rfl (Nat.le_of_ble_eq_true rfl) (pC_3_8 P u v) hd (kk _)
theorem aC_3_9 (F : FX X (vC P) cc nL own rt rm) (hl : Cond.fieldLink own index "OrchardWall$Orchard" "loud" "[I" ∈ TB) (hd : decode cc pc = .ok (.getfield index, 3)) (kk : JJ X (vC P) nL Q (pc + 3) lv (.ref (P.2.2.2.1 31) :: st) u o) : JJ X (vC P) nL Q pc lv (.ref (P.2.2.2.1 3) :: st) u o := j_get F iX3 3 (gC_3 P u) rfl 9 (by decide) hl rfl rfl hd kk
theorem aC_3_10 (F : FX X (vC P) cc nL own rt rm) (hl : Cond.fieldLink own index "OrchardWall$Orchard" "treeCell" "[I" ∈ TB) (hd : decode cc pc = .ok (.getfield index, 3)) (kk : JJ X (vC P) nL Q (pc + 3) lv (.ref (P.2.2.2.1 32) :: st) u o) : JJ X (vC P) nL Q pc lv (.ref (P.2.2.2.1 3) :: st) u o := j_get F iX3 3 (gC_3 P u) rfl 10 (by decide) hl rfl rfl hd kk
theorem aC_3_11 (F : FX X (vC P) cc nL own rt rm) (hl : Cond.fieldLink own index "OrchardWall$Orchard" "treeWorth" "[I" ∈ TB) (hd : decode cc pc = .ok (.getfield index, 3)) (kk : JJ X (vC P) nL Q (pc + 3) lv (.ref (P.2.2.2.1 33) :: st) u o) : JJ X (vC P) nL Q pc lv (.ref (P.2.2.2.1 3) :: st) u o := j_get F iX3 3 (gC_3 P u) rfl 11 (by decide) hl rfl rfl hd kk
theorem aC_3_12 (F : FX X (vC P) cc nL own rt rm) (hl : Cond.fieldLink own index "OrchardWall$Orchard" "kinds" "[I" ∈ TB) (hd : decode cc pc = .ok (.getfield index, 3)) (kk : JJ X (vC P) nL Q (pc + 3) lv (.ref (P.2.2.2.1 34) :: st) u o) : JJ X (vC P) nL Q pc lv (.ref (P.2.2.2.1 3) :: st) u o := j_get F iX3 3 (gC_3 P u) rfl 12 (by decide) hl rfl rfl hd kk
theorem aC_3_13 (F : FX X (vC P) cc nL own rt rm) (hl : Cond.fieldLink own index "OrchardWall$Orchard" "full" "[I" ∈ TB) (hd : decode cc pc = .ok (.getfield index, 3)) (kk : JJ X (vC P) nL Q (pc + 3) lv (.ref (P.2.2.2.1 35) :: st) u o) : JJ X (vC P) nL Q pc lv (.ref (P.2.2.2.1 3) :: st) u o := j_get F iX3 3 (gC_3 P u) rfl 13 (by decide) hl rfl rfl hd kk
theorem aC_3_14 (F : FX X (vC P) cc nL own rt rm) (hl : Cond.fieldLink own index "OrchardWall$Orchard" "now" "[I" ∈ TB) (hd : decode cc pc = .ok (.getfield index, 3)) (kk : JJ X (vC P) nL Q (pc + 3) lv (.ref (P.2.2.2.1 36) :: st) u o) : JJ X (vC P) nL Q pc lv (.ref (P.2.2.2.1 3) :: st) u o := j_get F iX3 3 (gC_3 P u) rfl 14 (by decide) hl rfl rfl hd kk
theorem aC_4_0 (F : FX X (vC P) cc nL own rt rm) (hl : Cond.fieldLink own index "OrchardWall$Orchard" "stands" "Z" ∈ TB) (hd : decode cc pc = .ok (.getfield index, 3)) (kk : JJ X (vC P) nL Q (pc + 3) lv (.int (mm_r u 4 0) :: st) u o) : JJ X (vC P) nL Q pc lv (.ref (P.2.2.2.1 4) :: st) u o := j_get F iX3 4 (gC_4 P u) rfl 0 (by decide) hl rfl rfl hd kk
theorem bC_4_0 (F : FX X (vC P) cc nL own rt rm) {v : Int32} {f : MM → Option α} (hz : narrow .boolean (.int v) = .int v ∧ fits .boolean (.int v) = true) (hl : Cond.fieldLink own index "OrchardWall$Orchard" "stands" "Z" ∈ TB) (hd : decode cc pc = .ok (.putfield index, 3)) (kk : ∀ u1, JJ X (vC P) nL Q (pc + 3) lv st u1 (f u1)) : JJ X (vC P) nL Q pc lv (.int v :: .ref (P.2.2.2.1 4) :: st) u (mo_pf u 4 0 v f) := j_put F iX3 tyX3 tyX3_ok nmX3 4 (gC_4 P u) rfl 0 (by decide) hl rfl rfl (ty := .boolean) (by decide +kernel) hz.1 hz.2 (Nat.le_of_ble_eq_true rfl) (pC_4_0 P u v) hd (kk _)
theorem aC_4_1 (F : FX X (vC P) cc nL own rt rm) (hl : Cond.fieldLink own index "OrchardWall$Orchard" "house" "I" ∈ TB) (hd : decode cc pc = .ok (.getfield index, 3)) (kk : JJ X (vC P) nL Q (pc + 3) lv (.int (mm_r u 4 1) :: st) u o) : JJ X (vC P) nL Q pc lv (.ref (P.2.2.2.1 4) :: st) u o := j_get F iX3 4 (gC_4 P u) rfl 1 (by decide) hl rfl rfl hd kk
theorem bC_4_1 (F : FX X (vC P) cc nL own rt rm) {v : Int32} {f : MM → Option α} (hl : Cond.fieldLink own index "OrchardWall$Orchard" "house" "I" ∈ TB) (hd : decode cc pc = .ok (.putfield index, 3)) (kk : ∀ u1, JJ X (vC P) nL Q (pc + 3) lv st u1 (f u1)) : JJ X (vC P) nL Q pc lv (.int v :: .ref (P.2.2.2.1 4) :: st) u (mo_pf u 4 1 v f) := j_put F iX3 tyX3 tyX3_ok nmX3 4 (gC_4 P u) rfl 1 (by decide) hl rfl rfl (ty := .int) (by decide +kernel) rfl rfl (Nat.le_of_ble_eq_true rfl) (pC_4_1 P u v) hd (kk _)
theorem aC_4_2 (F : FX X (vC P) cc nL own rt rm) (hl : Cond.fieldLink own index "OrchardWall$Orchard" "entry" "I" ∈ TB) (hd : decode cc pc = .ok (.getfield index, 3)) (kk : JJ X (vC P) nL Q (pc + 3) lv (.int (mm_r u 4 2) :: st) u o) : JJ X (vC P) nL Q pc lv (.ref (P.2.2.2.1 4) :: st) u o := j_get F iX3 4 (gC_4 P u) rfl 2 (by decide) hl rfl rfl hd kk
theorem bC_4_2 (F : FX X (vC P) cc nL own rt rm) {v : Int32} {f : MM → Option α} (hl : Cond.fieldLink own index "OrchardWall$Orchard" "entry" "I" ∈ TB) (hd : decode cc pc = .ok (.putfield index, 3)) (kk : ∀ u1, JJ X (vC P) nL Q (pc + 3) lv st u1 (f u1)) : JJ X (vC P) nL Q pc lv (.int v :: .ref (P.2.2.2.1 4) :: st) u (mo_pf u 4 2 v f) := j_put F iX3 tyX3 tyX3_ok nmX3 4 (gC_4 P u) rfl 2 (by decide) hl rfl rfl (ty := .int) (by decide +kernel) rfl rfl (Nat.le_of_ble_eq_true rfl) (pC_4_2 P u v) hd (kk _)
theorem aC_4_3 (F : FX X (vC P) cc nL own rt rm) (hl : Cond.fieldLink own index "OrchardWall$Orchard" "ears" "I" ∈ TB) (hd : decode cc pc = .ok (.getfield index, 3)) (kk : JJ X (vC P) nL Q (pc + 3) lv (.int (mm_r u 4 3) :: st) u o) : JJ X (vC P) nL Q pc lv (.ref (P.2.2.2.1 4) :: st) u o := j_get F iX3 4 (gC_4 P u) rfl 3 (by decide) hl rfl rfl hd kk
theorem bC_4_3 (F : FX X (vC P) cc nL own rt rm) {v : Int32} {f : MM → Option α} (hl : Cond.fieldLink own index "OrchardWall$Orchard" "ears" "I" ∈ TB) (hd : decode cc pc = .ok (.putfield index, 3)) (kk : ∀ u1, JJ X (vC P) nL Q (pc + 3) lv st u1 (f u1)) : JJ X (vC P) nL Q pc lv (.int v :: .ref (P.2.2.2.1 4) :: st) u (mo_pf u 4 3 v f) := j_put F iX3 tyX3 tyX3_ok nmX3 4 (gC_4 P u) rfl 3 (by decide) hl rfl rfl (ty := .int) (by decide +kernel) rfl rfl (Nat.le_of_ble_eq_true rfl) (pC_4_3 P u v) hd (kk _)
theorem aC_4_4 (F : FX X (vC P) cc nL own rt rm) (hl : Cond.fieldLink own index "OrchardWall$Orchard" "delay" "I" ∈ TB) (hd : decode cc pc = .ok (.getfield index, 3)) (kk : JJ X (vC P) nL Q (pc + 3) lv (.int (mm_r u 4 4) :: st) u o) : JJ X (vC P) nL Q pc lv (.ref (P.2.2.2.1 4) :: st) u o := j_get F iX3 4 (gC_4 P u) rfl 4 (by decide) hl rfl rfl hd kk
theorem bC_4_4 (F : FX X (vC P) cc nL own rt rm) {v : Int32} {f : MM → Option α} (hl : Cond.fieldLink own index "OrchardWall$Orchard" "delay" "I" ∈ TB) (hd : decode cc pc = .ok (.putfield index, 3)) (kk : ∀ u1, JJ X (vC P) nL Q (pc + 3) lv st u1 (f u1)) : JJ X (vC P) nL Q pc lv (.int v :: .ref (P.2.2.2.1 4) :: st) u (mo_pf u 4 4 v f) := j_put F iX3 tyX3 tyX3_ok nmX3 4 (gC_4 P u) rfl 4 (by decide) hl rfl rfl (ty := .int) (by decide +kernel) rfl rfl (Nat.le_of_ble_eq_true rfl) (pC_4_4 P u v) hd (kk _)
theorem aC_4_5 (F : FX X (vC P) cc nL own rt rm) (hl : Cond.fieldLink own index "OrchardWall$Orchard" "dog" "I" ∈ TB) (hd : decode cc pc = .ok (.getfield index, 3)) (kk : JJ X (vC P) nL Q (pc + 3) lv (.int (mm_r u 4 5) :: st) u o) : JJ X (vC P) nL Q pc lv (.ref (P.2.2.2.1 4) :: st) u o := j_get F iX3 4 (gC_4 P u) rfl 5 (by decide) hl rfl rfl hd kk
theorem bC_4_5 (F : FX X (vC P) cc nL own rt rm) {v : Int32} {f : MM → Option α} (hl : Cond.fieldLink own index "OrchardWall$Orchard" "dog" "I" ∈ TB) (hd : decode cc pc = .ok (.putfield index, 3)) (kk : ∀ u1, JJ X (vC P) nL Q (pc + 3) lv st u1 (f u1)) : JJ X (vC P) nL Q pc lv (.int v :: .ref (P.2.2.2.1 4) :: st) u (mo_pf u 4 5 v f) := j_put F iX3 tyX3 tyX3_ok nmX3 4 (gC_4 P u) rfl 5 (by decide) hl rfl rfl (ty := .int) (by decide +kernel) rfl rfl (Nat.le_of_ble_eq_true rfl) (pC_4_5 P u v) hd (kk _)
theorem aC_4_6 (F : FX X (vC P) cc nL own rt rm) (hl : Cond.fieldLink own index "OrchardWall$Orchard" "hens" "I" ∈ TB) (hd : decode cc pc = .ok (.getfield index, 3)) (kk : JJ X (vC P) nL Q (pc + 3) lv (.int (mm_r u 4 6) :: st) u o) : JJ X (vC P) nL Q pc lv (.ref (P.2.2.2.1 4) :: st) u o := j_get F iX3 4 (gC_4 P u) rfl 6 (by decide) hl rfl rfl hd kk
theorem bC_4_6 (F : FX X (vC P) cc nL own rt rm) {v : Int32} {f : MM → Option α} (hl : Cond.fieldLink own index "OrchardWall$Orchard" "hens" "I" ∈ TB) (hd : decode cc pc = .ok (.putfield index, 3)) (kk : ∀ u1, JJ X (vC P) nL Q (pc + 3) lv st u1 (f u1)) : JJ X (vC P) nL Q pc lv (.int v :: .ref (P.2.2.2.1 4) :: st) u (mo_pf u 4 6 v f) := j_put F iX3 tyX3 tyX3_ok nmX3 4 (gC_4 P u) rfl 6 (by decide) hl rfl rfl (ty := .int) (by decide +kernel) rfl rfl (Nat.le_of_ble_eq_true rfl) (pC_4_6 P u v) hd (kk _)
theorem aC_4_7 (F : FX X (vC P) cc nL own rt rm) (hl : Cond.fieldLink own index "OrchardWall$Orchard" "trees" "I" ∈ TB) (hd : decode cc pc = .ok (.getfield index, 3)) (kk : JJ X (vC P) nL Q (pc + 3) lv (.int (mm_r u 4 7) :: st) u o) : JJ X (vC P) nL Q pc lv (.ref (P.2.2.2.1 4) :: st) u o := j_get F iX3 4 (gC_4 P u) rfl 7 (by decide) hl rfl rfl hd kk
theorem bC_4_7 (F : FX X (vC P) cc nL own rt rm) {v : Int32} {f : MM → Option α} (hl : Cond.fieldLink own index "OrchardWall$Orchard" "trees" "I" ∈ TB) (hd : decode cc pc = .ok (.putfield index, 3)) (kk : ∀ u1, JJ X (vC P) nL Q (pc + 3) lv st u1 (f u1)) : JJ X (vC P) nL Q pc lv (.int v :: .ref (P.2.2.2.1 4) :: st) u (mo_pf u 4 7 v f) := j_put F iX3 tyX3 tyX3_ok nmX3 4 (gC_4 P u) rfl 7 (by decide) hl rfl rfl (ty := .int) (by decide +kernel) rfl rfl (Nat.le_of_ble_eq_true rfl) (pC_4_7 P u v) hd (kk _)
theorem aC_4_8 (F : FX X (vC P) cc nL own rt rm) (hl : Cond.fieldLink own index "OrchardWall$Orchard" "raiders" "I" ∈ TB) (hd : decode cc pc = .ok (.getfield index, 3)) (kk : JJ X (vC P) nL Q (pc + 3) lv (.int (mm_r u 4 8) :: st) u o) : JJ X (vC P) nL Q pc lv (.ref (P.2.2.2.1 4) :: st) u o := j_get F iX3 4 (gC_4 P u) rfl 8 (by decide) hl rfl rfl hd kk
theorem bC_4_8 (F : FX X (vC P) cc nL own rt rm) {v : Int32} {f : MM → Option α} (hl : Cond.fieldLink own index "OrchardWall$Orchard" "raiders" "I" ∈ TB) (hd : decode cc pc = .ok (.putfield index, 3)) (kk : ∀ u1, JJ X (vC P) nL Q (pc + 3) lv st u1 (f u1)) : JJ X (vC P) nL Q pc lv (.int v :: .ref (P.2.2.2.1 4) :: st) u (mo_pf u 4 8 v f) := j_put F iX3 tyX3 tyX3_ok nmX3 4 (gC_4 P u) rfl 8 (by decide) hl rfl rfl (ty := .int) (by decide +kernel) rfl rfl (Nat.le_of_ble_eq_true rfl) (pC_4_8 P u v) hd (kk _)
theorem aC_4_9 (F : FX X (vC P) cc nL own rt rm) (hl : Cond.fieldLink own index "OrchardWall$Orchard" "loud" "[I" ∈ TB) (hd : decode cc pc = .ok (.getfield index, 3)) (kk : JJ X (vC P) nL Q (pc + 3) lv (.ref (P.2.2.2.1 37) :: st) u o) : JJ X (vC P) nL Q pc lv (.ref (P.2.2.2.1 4) :: st) u o := j_get F iX3 4 (gC_4 P u) rfl 9 (by decide) hl rfl rfl hd kk
theorem aC_4_10 (F : FX X (vC P) cc nL own rt rm) (hl : Cond.fieldLink own index "OrchardWall$Orchard" "treeCell" "[I" ∈ TB) (hd : decode cc pc = .ok (.getfield index, 3)) (kk : JJ X (vC P) nL Q (pc + 3) lv (.ref (P.2.2.2.1 38) :: st) u o) : JJ X (vC P) nL Q pc lv (.ref (P.2.2.2.1 4) :: st) u o := j_get F iX3 4 (gC_4 P u) rfl 10 (by decide) hl rfl rfl hd kk
theorem aC_4_11 (F : FX X (vC P) cc nL own rt rm) (hl : Cond.fieldLink own index "OrchardWall$Orchard" "treeWorth" "[I" ∈ TB) (hd : decode cc pc = .ok (.getfield index, 3)) (kk : JJ X (vC P) nL Q (pc + 3) lv (.ref (P.2.2.2.1 39) :: st) u o) : JJ X (vC P) nL Q pc lv (.ref (P.2.2.2.1 4) :: st) u o := j_get F iX3 4 (gC_4 P u) rfl 11 (by decide) hl rfl rfl hd kk
theorem aC_4_12 (F : FX X (vC P) cc nL own rt rm) (hl : Cond.fieldLink own index "OrchardWall$Orchard" "kinds" "[I" ∈ TB) (hd : decode cc pc = .ok (.getfield index, 3)) (kk : JJ X (vC P) nL Q (pc + 3) lv (.ref (P.2.2.2.1 40) :: st) u o) : JJ X (vC P) nL Q pc lv (.ref (P.2.2.2.1 4) :: st) u o := j_get F iX3 4 (gC_4 P u) rfl 12 (by decide) hl rfl rfl hd kk
theorem aC_4_13 (F : FX X (vC P) cc nL own rt rm) (hl : Cond.fieldLink own index "OrchardWall$Orchard" "full" "[I" ∈ TB) (hd : decode cc pc = .ok (.getfield index, 3)) (kk : JJ X (vC P) nL Q (pc + 3) lv (.ref (P.2.2.2.1 41) :: st) u o) : JJ X (vC P) nL Q pc lv (.ref (P.2.2.2.1 4) :: st) u o := j_get F iX3 4 (gC_4 P u) rfl 13 (by decide) hl rfl rfl hd kk
theorem aC_4_14 (F : FX X (vC P) cc nL own rt rm) (hl : Cond.fieldLink own index "OrchardWall$Orchard" "now" "[I" ∈ TB) (hd : decode cc pc = .ok (.getfield index, 3)) (kk : JJ X (vC P) nL Q (pc + 3) lv (.ref (P.2.2.2.1 42) :: st) u o) : JJ X (vC P) nL Q pc lv (.ref (P.2.2.2.1 4) :: st) u o := j_get F iX3 4 (gC_4 P u) rfl 14 (by decide) hl rfl rfl hd kk
theorem aC_5_0 (F : FX X (vC P) cc nL own rt rm) (hl : Cond.fieldLink own index "OrchardWall$Orchard" "stands" "Z" ∈ TB) (hd : decode cc pc = .ok (.getfield index, 3)) (kk : JJ X (vC P) nL Q (pc + 3) lv (.int (mm_r u 5 0) :: st) u o) : JJ X (vC P) nL Q pc lv (.ref (P.2.2.2.1 5) :: st) u o := j_get F iX3 5 (gC_5 P u) rfl 0 (by decide) hl rfl rfl hd kk
theorem bC_5_0 (F : FX X (vC P) cc nL own rt rm) {v : Int32} {f : MM → Option α} (hz : narrow .boolean (.int v) = .int v ∧ fits .boolean (.int v) = true) (hl : Cond.fieldLink own index "OrchardWall$Orchard" "stands" "Z" ∈ TB) (hd : decode cc pc = .ok (.putfield index, 3)) (kk : ∀ u1, JJ X (vC P) nL Q (pc + 3) lv st u1 (f u1)) : JJ X (vC P) nL Q pc lv (.int v :: .ref (P.2.2.2.1 5) :: st) u (mo_pf u 5 0 v f) := j_put F iX3 tyX3 tyX3_ok nmX3 5 (gC_5 P u) rfl 0 (by decide) hl rfl rfl (ty := .boolean) (by decide +kernel) hz.1 hz.2 (Nat.le_of_ble_eq_true rfl) (pC_5_0 P u v) hd (kk _)
theorem aC_5_1 (F : FX X (vC P) cc nL own rt rm) (hl : Cond.fieldLink own index "OrchardWall$Orchard" "house" "I" ∈ TB) (hd : decode cc pc = .ok (.getfield index, 3)) (kk : JJ X (vC P) nL Q (pc + 3) lv (.int (mm_r u 5 1) :: st) u o) : JJ X (vC P) nL Q pc lv (.ref (P.2.2.2.1 5) :: st) u o := j_get F iX3 5 (gC_5 P u) rfl 1 (by decide) hl rfl rfl hd kk
theorem bC_5_1 (F : FX X (vC P) cc nL own rt rm) {v : Int32} {f : MM → Option α} (hl : Cond.fieldLink own index "OrchardWall$Orchard" "house" "I" ∈ TB) (hd : decode cc pc = .ok (.putfield index, 3)) (kk : ∀ u1, JJ X (vC P) nL Q (pc + 3) lv st u1 (f u1)) : JJ X (vC P) nL Q pc lv (.int v :: .ref (P.2.2.2.1 5) :: st) u (mo_pf u 5 1 v f) := j_put F iX3 tyX3 tyX3_ok nmX3 5 (gC_5 P u) rfl 1 (by decide) hl rfl rfl (ty := .int) (by decide +kernel) rfl rfl (Nat.le_of_ble_eq_true rfl) (pC_5_1 P u v) hd (kk _)
theorem aC_5_2 (F : FX X (vC P) cc nL own rt rm) (hl : Cond.fieldLink own index "OrchardWall$Orchard" "entry" "I" ∈ TB) (hd : decode cc pc = .ok (.getfield index, 3)) (kk : JJ X (vC P) nL Q (pc + 3) lv (.int (mm_r u 5 2) :: st) u o) : JJ X (vC P) nL Q pc lv (.ref (P.2.2.2.1 5) :: st) u o := j_get F iX3 5 (gC_5 P u) rfl 2 (by decide) hl rfl rfl hd kk
theorem bC_5_2 (F : FX X (vC P) cc nL own rt rm) {v : Int32} {f : MM → Option α} (hl : Cond.fieldLink own index "OrchardWall$Orchard" "entry" "I" ∈ TB) (hd : decode cc pc = .ok (.putfield index, 3)) (kk : ∀ u1, JJ X (vC P) nL Q (pc + 3) lv st u1 (f u1)) : JJ X (vC P) nL Q pc lv (.int v :: .ref (P.2.2.2.1 5) :: st) u (mo_pf u 5 2 v f) := j_put F iX3 tyX3 tyX3_ok nmX3 5 (gC_5 P u) rfl 2 (by decide) hl rfl rfl (ty := .int) (by decide +kernel) rfl rfl (Nat.le_of_ble_eq_true rfl) (pC_5_2 P u v) hd (kk _)
theorem aC_5_3 (F : FX X (vC P) cc nL own rt rm) (hl : Cond.fieldLink own index "OrchardWall$Orchard" "ears" "I" ∈ TB) (hd : decode cc pc = .ok (.getfield index, 3)) (kk : JJ X (vC P) nL Q (pc + 3) lv (.int (mm_r u 5 3) :: st) u o) : JJ X (vC P) nL Q pc lv (.ref (P.2.2.2.1 5) :: st) u o := j_get F iX3 5 (gC_5 P u) rfl 3 (by decide) hl rfl rfl hd kk
theorem bC_5_3 (F : FX X (vC P) cc nL own rt rm) {v : Int32} {f : MM → Option α} (hl : Cond.fieldLink own index "OrchardWall$Orchard" "ears" "I" ∈ TB) (hd : decode cc pc = .ok (.putfield index, 3)) (kk : ∀ u1, JJ X (vC P) nL Q (pc + 3) lv st u1 (f u1)) : JJ X (vC P) nL Q pc lv (.int v :: .ref (P.2.2.2.1 5) :: st) u (mo_pf u 5 3 v f) := j_put F iX3 tyX3 tyX3_ok nmX3 5 (gC_5 P u) rfl 3 (by decide) hl rfl rfl (ty := .int) (by decide +kernel) rfl rfl (Nat.le_of_ble_eq_true rfl) (pC_5_3 P u v) hd (kk _)
theorem aC_5_4 (F : FX X (vC P) cc nL own rt rm) (hl : Cond.fieldLink own index "OrchardWall$Orchard" "delay" "I" ∈ TB) (hd : decode cc pc = .ok (.getfield index, 3)) (kk : JJ X (vC P) nL Q (pc + 3) lv (.int (mm_r u 5 4) :: st) u o) : JJ X (vC P) nL Q pc lv (.ref (P.2.2.2.1 5) :: st) u o := j_get F iX3 5 (gC_5 P u) rfl 4 (by decide) hl rfl rfl hd kk
theorem bC_5_4 (F : FX X (vC P) cc nL own rt rm) {v : Int32} {f : MM → Option α} (hl : Cond.fieldLink own index "OrchardWall$Orchard" "delay" "I" ∈ TB) (hd : decode cc pc = .ok (.putfield index, 3)) (kk : ∀ u1, JJ X (vC P) nL Q (pc + 3) lv st u1 (f u1)) : JJ X (vC P) nL Q pc lv (.int v :: .ref (P.2.2.2.1 5) :: st) u (mo_pf u 5 4 v f) := j_put F iX3 tyX3 tyX3_ok nmX3 5 (gC_5 P u) rfl 4 (by decide) hl rfl rfl (ty := .int) (by decide +kernel) rfl rfl (Nat.le_of_ble_eq_true rfl) (pC_5_4 P u v) hd (kk _)
theorem aC_5_5 (F : FX X (vC P) cc nL own rt rm) (hl : Cond.fieldLink own index "OrchardWall$Orchard" "dog" "I" ∈ TB) (hd : decode cc pc = .ok (.getfield index, 3)) (kk : JJ X (vC P) nL Q (pc + 3) lv (.int (mm_r u 5 5) :: st) u o) : JJ X (vC P) nL Q pc lv (.ref (P.2.2.2.1 5) :: st) u o := j_get F iX3 5 (gC_5 P u) rfl 5 (by decide) hl rfl rfl hd kk
theorem bC_5_5 (F : FX X (vC P) cc nL own rt rm) {v : Int32} {f : MM → Option α} (hl : Cond.fieldLink own index "OrchardWall$Orchard" "dog" "I" ∈ TB) (hd : decode cc pc = .ok (.putfield index, 3)) (kk : ∀ u1, JJ X (vC P) nL Q (pc + 3) lv st u1 (f u1)) : JJ X (vC P) nL Q pc lv (.int v :: .ref (P.2.2.2.1 5) :: st) u (mo_pf u 5 5 v f) := j_put F iX3 tyX3 tyX3_ok nmX3 5 (gC_5 P u) rfl 5 (by decide) hl rfl rfl (ty := .int) (by decide +kernel) rfl rfl (Nat.le_of_ble_eq_true rfl) (pC_5_5 P u v) hd (kk _)
theorem aC_5_6 (F : FX X (vC P) cc nL own rt rm) (hl : Cond.fieldLink own index "OrchardWall$Orchard" "hens" "I" ∈ TB) (hd : decode cc pc = .ok (.getfield index, 3)) (kk : JJ X (vC P) nL Q (pc + 3) lv (.int (mm_r u 5 6) :: st) u o) : JJ X (vC P) nL Q pc lv (.ref (P.2.2.2.1 5) :: st) u o := j_get F iX3 5 (gC_5 P u) rfl 6 (by decide) hl rfl rfl hd kk
theorem bC_5_6 (F : FX X (vC P) cc nL own rt rm) {v : Int32} {f : MM → Option α} (hl : Cond.fieldLink own index "OrchardWall$Orchard" "hens" "I" ∈ TB) (hd : decode cc pc = .ok (.putfield index, 3)) (kk : ∀ u1, JJ X (vC P) nL Q (pc + 3) lv st u1 (f u1)) : JJ X (vC P) nL Q pc lv (.int v :: .ref (P.2.2.2.1 5) :: st) u (mo_pf u 5 6 v f) := j_put F iX3 tyX3 tyX3_ok nmX3 5 (gC_5 P u) rfl 6 (by decide) hl rfl rfl (ty := .int) (by decide +kernel) rfl rfl (Nat.le_of_ble_eq_true rfl) (pC_5_6 P u v) hd (kk _)
theorem aC_5_7 (F : FX X (vC P) cc nL own rt rm) (hl : Cond.fieldLink own index "OrchardWall$Orchard" "trees" "I" ∈ TB) (hd : decode cc pc = .ok (.getfield index, 3)) (kk : JJ X (vC P) nL Q (pc + 3) lv (.int (mm_r u 5 7) :: st) u o) : JJ X (vC P) nL Q pc lv (.ref (P.2.2.2.1 5) :: st) u o := j_get F iX3 5 (gC_5 P u) rfl 7 (by decide) hl rfl rfl hd kk
theorem bC_5_7 (F : FX X (vC P) cc nL own rt rm) {v : Int32} {f : MM → Option α} (hl : Cond.fieldLink own index "OrchardWall$Orchard" "trees" "I" ∈ TB) (hd : decode cc pc = .ok (.putfield index, 3)) (kk : ∀ u1, JJ X (vC P) nL Q (pc + 3) lv st u1 (f u1)) : JJ X (vC P) nL Q pc lv (.int v :: .ref (P.2.2.2.1 5) :: st) u (mo_pf u 5 7 v f) := j_put F iX3 tyX3 tyX3_ok nmX3 5 (gC_5 P u) rfl 7 (by decide) hl rfl rfl (ty := .int) (by decide +kernel) rfl rfl (Nat.le_of_ble_eq_true rfl) (pC_5_7 P u v) hd (kk _)
theorem aC_5_8 (F : FX X (vC P) cc nL own rt rm) (hl : Cond.fieldLink own index "OrchardWall$Orchard" "raiders" "I" ∈ TB) (hd : decode cc pc = .ok (.getfield index, 3)) (kk : JJ X (vC P) nL Q (pc + 3) lv (.int (mm_r u 5 8) :: st) u o) : JJ X (vC P) nL Q pc lv (.ref (P.2.2.2.1 5) :: st) u o := j_get F iX3 5 (gC_5 P u) rfl 8 (by decide) hl rfl rfl hd kk
theorem bC_5_8 (F : FX X (vC P) cc nL own rt rm) {v : Int32} {f : MM → Option α} (hl : Cond.fieldLink own index "OrchardWall$Orchard" "raiders" "I" ∈ TB) (hd : decode cc pc = .ok (.putfield index, 3)) (kk : ∀ u1, JJ X (vC P) nL Q (pc + 3) lv st u1 (f u1)) : JJ X (vC P) nL Q pc lv (.int v :: .ref (P.2.2.2.1 5) :: st) u (mo_pf u 5 8 v f) := j_put F iX3 tyX3 tyX3_ok nmX3 5 (gC_5 P u) rfl 8 (by decide) hl rfl rfl (ty := .int) (by decide +kernel) rfl rfl (Nat.le_of_ble_eq_true rfl) (pC_5_8 P u v) hd (kk _)
theorem aC_5_9 (F : FX X (vC P) cc nL own rt rm) (hl : Cond.fieldLink own index "OrchardWall$Orchard" "loud" "[I" ∈ TB) (hd : decode cc pc = .ok (.getfield index, 3)) (kk : JJ X (vC P) nL Q (pc + 3) lv (.ref (P.2.2.2.1 43) :: st) u o) : JJ X (vC P) nL Q pc lv (.ref (P.2.2.2.1 5) :: st) u o := j_get F iX3 5 (gC_5 P u) rfl 9 (by decide) hl rfl rfl hd kk
theorem aC_5_10 (F : FX X (vC P) cc nL own rt rm) (hl : Cond.fieldLink own index "OrchardWall$Orchard" "treeCell" "[I" ∈ TB) (hd : decode cc pc = .ok (.getfield index, 3)) (kk : JJ X (vC P) nL Q (pc + 3) lv (.ref (P.2.2.2.1 44) :: st) u o) : JJ X (vC P) nL Q pc lv (.ref (P.2.2.2.1 5) :: st) u o := j_get F iX3 5 (gC_5 P u) rfl 10 (by decide) hl rfl rfl hd kk
theorem aC_5_11 (F : FX X (vC P) cc nL own rt rm) (hl : Cond.fieldLink own index "OrchardWall$Orchard" "treeWorth" "[I" ∈ TB) (hd : decode cc pc = .ok (.getfield index, 3)) (kk : JJ X (vC P) nL Q (pc + 3) lv (.ref (P.2.2.2.1 45) :: st) u o) : JJ X (vC P) nL Q pc lv (.ref (P.2.2.2.1 5) :: st) u o := j_get F iX3 5 (gC_5 P u) rfl 11 (by decide) hl rfl rfl hd kk
theorem aC_5_12 (F : FX X (vC P) cc nL own rt rm) (hl : Cond.fieldLink own index "OrchardWall$Orchard" "kinds" "[I" ∈ TB) (hd : decode cc pc = .ok (.getfield index, 3)) (kk : JJ X (vC P) nL Q (pc + 3) lv (.ref (P.2.2.2.1 46) :: st) u o) : JJ X (vC P) nL Q pc lv (.ref (P.2.2.2.1 5) :: st) u o := j_get F iX3 5 (gC_5 P u) rfl 12 (by decide) hl rfl rfl hd kk
theorem aC_5_13 (F : FX X (vC P) cc nL own rt rm) (hl : Cond.fieldLink own index "OrchardWall$Orchard" "full" "[I" ∈ TB) (hd : decode cc pc = .ok (.getfield index, 3)) (kk : JJ X (vC P) nL Q (pc + 3) lv (.ref (P.2.2.2.1 47) :: st) u o) : JJ X (vC P) nL Q pc lv (.ref (P.2.2.2.1 5) :: st) u o := j_get F iX3 5 (gC_5 P u) rfl 13 (by decide) hl rfl rfl hd kk
theorem aC_5_14 (F : FX X (vC P) cc nL own rt rm) (hl : Cond.fieldLink own index "OrchardWall$Orchard" "now" "[I" ∈ TB) (hd : decode cc pc = .ok (.getfield index, 3)) (kk : JJ X (vC P) nL Q (pc + 3) lv (.ref (P.2.2.2.1 48) :: st) u o) : JJ X (vC P) nL Q pc lv (.ref (P.2.2.2.1 5) :: st) u o := j_get F iX3 5 (gC_5 P u) rfl 14 (by decide) hl rfl rfl hd kk
theorem aC_6_0 (F : FX X (vC P) cc nL own rt rm) (hl : Cond.fieldLink own index "OrchardWall$Orchard" "stands" "Z" ∈ TB) (hd : decode cc pc = .ok (.getfield index, 3)) (kk : JJ X (vC P) nL Q (pc + 3) lv (.int (mm_r u 6 0) :: st) u o) : JJ X (vC P) nL Q pc lv (.ref (P.2.2.2.1 6) :: st) u o := j_get F iX3 6 (gC_6 P u) rfl 0 (by decide) hl rfl rfl hd kk
theorem bC_6_0 (F : FX X (vC P) cc nL own rt rm) {v : Int32} {f : MM → Option α} (hz : narrow .boolean (.int v) = .int v ∧ fits .boolean (.int v) = true) (hl : Cond.fieldLink own index "OrchardWall$Orchard" "stands" "Z" ∈ TB) (hd : decode cc pc = .ok (.putfield index, 3)) (kk : ∀ u1, JJ X (vC P) nL Q (pc + 3) lv st u1 (f u1)) : JJ X (vC P) nL Q pc lv (.int v :: .ref (P.2.2.2.1 6) :: st) u (mo_pf u 6 0 v f) := j_put F iX3 tyX3 tyX3_ok nmX3 6 (gC_6 P u) rfl 0 (by decide) hl rfl rfl (ty := .boolean) (by decide +kernel) hz.1 hz.2 (Nat.le_of_ble_eq_true rfl) (pC_6_0 P u v) hd (kk _)
theorem aC_6_1 (F : FX X (vC P) cc nL own rt rm) (hl : Cond.fieldLink own index "OrchardWall$Orchard" "house" "I" ∈ TB) (hd : decode cc pc = .ok (.getfield index, 3)) (kk : JJ X (vC P) nL Q (pc + 3) lv (.int (mm_r u 6 1) :: st) u o) : JJ X (vC P) nL Q pc lv (.ref (P.2.2.2.1 6) :: st) u o := j_get F iX3 6 (gC_6 P u) rfl 1 (by decide) hl rfl rfl hd kk
theorem bC_6_1 (F : FX X (vC P) cc nL own rt rm) {v : Int32} {f : MM → Option α} (hl : Cond.fieldLink own index "OrchardWall$Orchard" "house" "I" ∈ TB) (hd : decode cc pc = .ok (.putfield index, 3)) (kk : ∀ u1, JJ X (vC P) nL Q (pc + 3) lv st u1 (f u1)) : JJ X (vC P) nL Q pc lv (.int v :: .ref (P.2.2.2.1 6) :: st) u (mo_pf u 6 1 v f) := j_put F iX3 tyX3 tyX3_ok nmX3 6 (gC_6 P u) rfl 1 (by decide) hl rfl rfl (ty := .int) (by decide +kernel) rfl rfl (Nat.le_of_ble_eq_true rfl) (pC_6_1 P u v) hd (kk _)
theorem aC_6_2 (F : FX X (vC P) cc nL own rt rm) (hl : Cond.fieldLink own index "OrchardWall$Orchard" "entry" "I" ∈ TB) (hd : decode cc pc = .ok (.getfield index, 3)) (kk : JJ X (vC P) nL Q (pc + 3) lv (.int (mm_r u 6 2) :: st) u o) : JJ X (vC P) nL Q pc lv (.ref (P.2.2.2.1 6) :: st) u o := j_get F iX3 6 (gC_6 P u) rfl 2 (by decide) hl rfl rfl hd kk
theorem bC_6_2 (F : FX X (vC P) cc nL own rt rm) {v : Int32} {f : MM → Option α} (hl : Cond.fieldLink own index "OrchardWall$Orchard" "entry" "I" ∈ TB) (hd : decode cc pc = .ok (.putfield index, 3)) (kk : ∀ u1, JJ X (vC P) nL Q (pc + 3) lv st u1 (f u1)) : JJ X (vC P) nL Q pc lv (.int v :: .ref (P.2.2.2.1 6) :: st) u (mo_pf u 6 2 v f) := j_put F iX3 tyX3 tyX3_ok nmX3 6 (gC_6 P u) rfl 2 (by decide) hl rfl rfl (ty := .int) (by decide +kernel) rfl rfl (Nat.le_of_ble_eq_true rfl) (pC_6_2 P u v) hd (kk _)
theorem aC_6_3 (F : FX X (vC P) cc nL own rt rm) (hl : Cond.fieldLink own index "OrchardWall$Orchard" "ears" "I" ∈ TB) (hd : decode cc pc = .ok (.getfield index, 3)) (kk : JJ X (vC P) nL Q (pc + 3) lv (.int (mm_r u 6 3) :: st) u o) : JJ X (vC P) nL Q pc lv (.ref (P.2.2.2.1 6) :: st) u o := j_get F iX3 6 (gC_6 P u) rfl 3 (by decide) hl rfl rfl hd kk
theorem bC_6_3 (F : FX X (vC P) cc nL own rt rm) {v : Int32} {f : MM → Option α} (hl : Cond.fieldLink own index "OrchardWall$Orchard" "ears" "I" ∈ TB) (hd : decode cc pc = .ok (.putfield index, 3)) (kk : ∀ u1, JJ X (vC P) nL Q (pc + 3) lv st u1 (f u1)) : JJ X (vC P) nL Q pc lv (.int v :: .ref (P.2.2.2.1 6) :: st) u (mo_pf u 6 3 v f) := j_put F iX3 tyX3 tyX3_ok nmX3 6 (gC_6 P u) rfl 3 (by decide) hl rfl rfl (ty := .int) (by decide +kernel) rfl rfl (Nat.le_of_ble_eq_true rfl) (pC_6_3 P u v) hd (kk _)
theorem aC_6_4 (F : FX X (vC P) cc nL own rt rm) (hl : Cond.fieldLink own index "OrchardWall$Orchard" "delay" "I" ∈ TB) (hd : decode cc pc = .ok (.getfield index, 3)) (kk : JJ X (vC P) nL Q (pc + 3) lv (.int (mm_r u 6 4) :: st) u o) : JJ X (vC P) nL Q pc lv (.ref (P.2.2.2.1 6) :: st) u o := j_get F iX3 6 (gC_6 P u) rfl 4 (by decide) hl rfl rfl hd kk
theorem bC_6_4 (F : FX X (vC P) cc nL own rt rm) {v : Int32} {f : MM → Option α} (hl : Cond.fieldLink own index "OrchardWall$Orchard" "delay" "I" ∈ TB) (hd : decode cc pc = .ok (.putfield index, 3)) (kk : ∀ u1, JJ X (vC P) nL Q (pc + 3) lv st u1 (f u1)) : JJ X (vC P) nL Q pc lv (.int v :: .ref (P.2.2.2.1 6) :: st) u (mo_pf u 6 4 v f) := j_put F iX3 tyX3 tyX3_ok nmX3 6 (gC_6 P u) rfl 4 (by decide) hl rfl rfl (ty := .int) (by decide +kernel) rfl rfl (Nat.le_of_ble_eq_true rfl) (pC_6_4 P u v) hd (kk _)
theorem aC_6_5 (F : FX X (vC P) cc nL own rt rm) (hl : Cond.fieldLink own index "OrchardWall$Orchard" "dog" "I" ∈ TB) (hd : decode cc pc = .ok (.getfield index, 3)) (kk : JJ X (vC P) nL Q (pc + 3) lv (.int (mm_r u 6 5) :: st) u o) : JJ X (vC P) nL Q pc lv (.ref (P.2.2.2.1 6) :: st) u o := j_get F iX3 6 (gC_6 P u) rfl 5 (by decide) hl rfl rfl hd kk
theorem bC_6_5 (F : FX X (vC P) cc nL own rt rm) {v : Int32} {f : MM → Option α} (hl : Cond.fieldLink own index "OrchardWall$Orchard" "dog" "I" ∈ TB) (hd : decode cc pc = .ok (.putfield index, 3)) (kk : ∀ u1, JJ X (vC P) nL Q (pc + 3) lv st u1 (f u1)) : JJ X (vC P) nL Q pc lv (.int v :: .ref (P.2.2.2.1 6) :: st) u (mo_pf u 6 5 v f) := j_put F iX3 tyX3 tyX3_ok nmX3 6 (gC_6 P u) rfl 5 (by decide) hl rfl rfl (ty := .int) (by decide +kernel) rfl rfl (Nat.le_of_ble_eq_true rfl) (pC_6_5 P u v) hd (kk _)
theorem aC_6_6 (F : FX X (vC P) cc nL own rt rm) (hl : Cond.fieldLink own index "OrchardWall$Orchard" "hens" "I" ∈ TB) (hd : decode cc pc = .ok (.getfield index, 3)) (kk : JJ X (vC P) nL Q (pc + 3) lv (.int (mm_r u 6 6) :: st) u o) : JJ X (vC P) nL Q pc lv (.ref (P.2.2.2.1 6) :: st) u o := j_get F iX3 6 (gC_6 P u) rfl 6 (by decide) hl rfl rfl hd kk
theorem bC_6_6 (F : FX X (vC P) cc nL own rt rm) {v : Int32} {f : MM → Option α} (hl : Cond.fieldLink own index "OrchardWall$Orchard" "hens" "I" ∈ TB) (hd : decode cc pc = .ok (.putfield index, 3)) (kk : ∀ u1, JJ X (vC P) nL Q (pc + 3) lv st u1 (f u1)) : JJ X (vC P) nL Q pc lv (.int v :: .ref (P.2.2.2.1 6) :: st) u (mo_pf u 6 6 v f) := j_put F iX3 tyX3 tyX3_ok nmX3 6 (gC_6 P u) rfl 6 (by decide) hl rfl rfl (ty := .int) (by decide +kernel) rfl rfl (Nat.le_of_ble_eq_true rfl) (pC_6_6 P u v) hd (kk _)
theorem aC_6_7 (F : FX X (vC P) cc nL own rt rm) (hl : Cond.fieldLink own index "OrchardWall$Orchard" "trees" "I" ∈ TB) (hd : decode cc pc = .ok (.getfield index, 3)) (kk : JJ X (vC P) nL Q (pc + 3) lv (.int (mm_r u 6 7) :: st) u o) : JJ X (vC P) nL Q pc lv (.ref (P.2.2.2.1 6) :: st) u o := j_get F iX3 6 (gC_6 P u) rfl 7 (by decide) hl rfl rfl hd kk
theorem bC_6_7 (F : FX X (vC P) cc nL own rt rm) {v : Int32} {f : MM → Option α} (hl : Cond.fieldLink own index "OrchardWall$Orchard" "trees" "I" ∈ TB) (hd : decode cc pc = .ok (.putfield index, 3)) (kk : ∀ u1, JJ X (vC P) nL Q (pc + 3) lv st u1 (f u1)) : JJ X (vC P) nL Q pc lv (.int v :: .ref (P.2.2.2.1 6) :: st) u (mo_pf u 6 7 v f) := j_put F iX3 tyX3 tyX3_ok nmX3 6 (gC_6 P u) rfl 7 (by decide) hl rfl rfl (ty := .int) (by decide +kernel) rfl rfl (Nat.le_of_ble_eq_true rfl) (pC_6_7 P u v) hd (kk _)
theorem aC_6_8 (F : FX X (vC P) cc nL own rt rm) (hl : Cond.fieldLink own index "OrchardWall$Orchard" "raiders" "I" ∈ TB) (hd : decode cc pc = .ok (.getfield index, 3)) (kk : JJ X (vC P) nL Q (pc + 3) lv (.int (mm_r u 6 8) :: st) u o) : JJ X (vC P) nL Q pc lv (.ref (P.2.2.2.1 6) :: st) u o := j_get F iX3 6 (gC_6 P u) rfl 8 (by decide) hl rfl rfl hd kk
theorem bC_6_8 (F : FX X (vC P) cc nL own rt rm) {v : Int32} {f : MM → Option α} (hl : Cond.fieldLink own index "OrchardWall$Orchard" "raiders" "I" ∈ TB) (hd : decode cc pc = .ok (.putfield index, 3)) (kk : ∀ u1, JJ X (vC P) nL Q (pc + 3) lv st u1 (f u1)) : JJ X (vC P) nL Q pc lv (.int v :: .ref (P.2.2.2.1 6) :: st) u (mo_pf u 6 8 v f) := j_put F iX3 tyX3 tyX3_ok nmX3 6 (gC_6 P u) rfl 8 (by decide) hl rfl rfl (ty := .int) (by decide +kernel) rfl rfl (Nat.le_of_ble_eq_true rfl) (pC_6_8 P u v) hd (kk _)
theorem aC_6_9 (F : FX X (vC P) cc nL own rt rm) (hl : Cond.fieldLink own index "OrchardWall$Orchard" "loud" "[I" ∈ TB) (hd : decode cc pc = .ok (.getfield index, 3)) (kk : JJ X (vC P) nL Q (pc + 3) lv (.ref (P.2.2.2.1 49) :: st) u o) : JJ X (vC P) nL Q pc lv (.ref (P.2.2.2.1 6) :: st) u o := j_get F iX3 6 (gC_6 P u) rfl 9 (by decide) hl rfl rfl hd kk
theorem aC_6_10 (F : FX X (vC P) cc nL own rt rm) (hl : Cond.fieldLink own index "OrchardWall$Orchard" "treeCell" "[I" ∈ TB) (hd : decode cc pc = .ok (.getfield index, 3)) (kk : JJ X (vC P) nL Q (pc + 3) lv (.ref (P.2.2.2.1 50) :: st) u o) : JJ X (vC P) nL Q pc lv (.ref (P.2.2.2.1 6) :: st) u o := j_get F iX3 6 (gC_6 P u) rfl 10 (by decide) hl rfl rfl hd kk
theorem aC_6_11 (F : FX X (vC P) cc nL own rt rm) (hl : Cond.fieldLink own index "OrchardWall$Orchard" "treeWorth" "[I" ∈ TB) (hd : decode cc pc = .ok (.getfield index, 3)) (kk : JJ X (vC P) nL Q (pc + 3) lv (.ref (P.2.2.2.1 51) :: st) u o) : JJ X (vC P) nL Q pc lv (.ref (P.2.2.2.1 6) :: st) u o := j_get F iX3 6 (gC_6 P u) rfl 11 (by decide) hl rfl rfl hd kk
theorem aC_6_12 (F : FX X (vC P) cc nL own rt rm) (hl : Cond.fieldLink own index "OrchardWall$Orchard" "kinds" "[I" ∈ TB) (hd : decode cc pc = .ok (.getfield index, 3)) (kk : JJ X (vC P) nL Q (pc + 3) lv (.ref (P.2.2.2.1 52) :: st) u o) : JJ X (vC P) nL Q pc lv (.ref (P.2.2.2.1 6) :: st) u o := j_get F iX3 6 (gC_6 P u) rfl 12 (by decide) hl rfl rfl hd kk
theorem aC_6_13 (F : FX X (vC P) cc nL own rt rm) (hl : Cond.fieldLink own index "OrchardWall$Orchard" "full" "[I" ∈ TB) (hd : decode cc pc = .ok (.getfield index, 3)) (kk : JJ X (vC P) nL Q (pc + 3) lv (.ref (P.2.2.2.1 53) :: st) u o) : JJ X (vC P) nL Q pc lv (.ref (P.2.2.2.1 6) :: st) u o := j_get F iX3 6 (gC_6 P u) rfl 13 (by decide) hl rfl rfl hd kk
theorem aC_6_14 (F : FX X (vC P) cc nL own rt rm) (hl : Cond.fieldLink own index "OrchardWall$Orchard" "now" "[I" ∈ TB) (hd : decode cc pc = .ok (.getfield index, 3)) (kk : JJ X (vC P) nL Q (pc + 3) lv (.ref (P.2.2.2.1 54) :: st) u o) : JJ X (vC P) nL Q pc lv (.ref (P.2.2.2.1 6) :: st) u o := j_get F iX3 6 (gC_6 P u) rfl 14 (by decide) hl rfl rfl hd kk
theorem aC_7_0 (F : FX X (vC P) cc nL own rt rm) (hl : Cond.fieldLink own index "OrchardWall$Acts" "before" "[[I" ∈ TB) (hd : decode cc pc = .ok (.getfield index, 3)) (kk : JJ X (vC P) nL Q (pc + 3) lv (.ref (P.2.2.2.1 12) :: st) u o) : JJ X (vC P) nL Q pc lv (.ref (P.2.2.2.1 7) :: st) u o := j_get F iX0 7 (gC_7 P u) rfl 0 (by decide) hl rfl rfl hd kk
theorem aC_7_1 (F : FX X (vC P) cc nL own rt rm) (hl : Cond.fieldLink own index "OrchardWall$Acts" "next" "I" ∈ TB) (hd : decode cc pc = .ok (.getfield index, 3)) (kk : JJ X (vC P) nL Q (pc + 3) lv (.int (mm_r u 7 1) :: st) u o) : JJ X (vC P) nL Q pc lv (.ref (P.2.2.2.1 7) :: st) u o := j_get F iX0 7 (gC_7 P u) rfl 1 (by decide) hl rfl rfl hd kk
theorem bC_7_1 (F : FX X (vC P) cc nL own rt rm) {v : Int32} {f : MM → Option α} (hl : Cond.fieldLink own index "OrchardWall$Acts" "next" "I" ∈ TB) (hd : decode cc pc = .ok (.putfield index, 3)) (kk : ∀ u1, JJ X (vC P) nL Q (pc + 3) lv st u1 (f u1)) : JJ X (vC P) nL Q pc lv (.int v :: .ref (P.2.2.2.1 7) :: st) u (mo_pf u 7 1 v f) := j_put F iX0 tyX0 tyX0_ok nmX0 7 (gC_7 P u) rfl 1 (by decide) hl rfl rfl (ty := .int) (by decide +kernel) rfl rfl (Nat.le_of_ble_eq_true rfl) (pC_7_1 P u v) hd (kk _)
theorem aC_7_2 (F : FX X (vC P) cc nL own rt rm) (hl : Cond.fieldLink own index "OrchardWall$Acts" "kept" "I" ∈ TB) (hd : decode cc pc = .ok (.getfield index, 3)) (kk : JJ X (vC P) nL Q (pc + 3) lv (.int (mm_r u 7 2) :: st) u o) : JJ X (vC P) nL Q pc lv (.ref (P.2.2.2.1 7) :: st) u o := j_get F iX0 7 (gC_7 P u) rfl 2 (by decide) hl rfl rfl hd kk
theorem bC_7_2 (F : FX X (vC P) cc nL own rt rm) {v : Int32} {f : MM → Option α} (hl : Cond.fieldLink own index "OrchardWall$Acts" "kept" "I" ∈ TB) (hd : decode cc pc = .ok (.putfield index, 3)) (kk : ∀ u1, JJ X (vC P) nL Q (pc + 3) lv st u1 (f u1)) : JJ X (vC P) nL Q pc lv (.int v :: .ref (P.2.2.2.1 7) :: st) u (mo_pf u 7 2 v f) := j_put F iX0 tyX0 tyX0_ok nmX0 7 (gC_7 P u) rfl 2 (by decide) hl rfl rfl (ty := .int) (by decide +kernel) rfl rfl (Nat.le_of_ble_eq_true rfl) (pC_7_2 P u v) hd (kk _)
theorem aC_8_0 (F : FX X (vC P) cc nL own rt rm) (hl : Cond.fieldLink own index "OrchardWall$Raid" "orchard" "LOrchardWall$Orchard;" ∈ TB) (hd : decode cc pc = .ok (.getfield index, 3)) (kk : JJ X (vC P) nL Q (pc + 3) lv (.ref (P.2.2.2.1 3) :: st) u o) : JJ X (vC P) nL Q pc lv (.ref (P.2.2.2.1 8) :: st) u o := j_get F iX4 8 (gC_8 P u) rfl 0 (by decide) hl rfl rfl hd kk
theorem aC_8_1 (F : FX X (vC P) cc nL own rt rm) (hl : Cond.fieldLink own index "OrchardWall$Raid" "delay" "I" ∈ TB) (hd : decode cc pc = .ok (.getfield index, 3)) (kk : JJ X (vC P) nL Q (pc + 3) lv (.int (mm_r u 8 1) :: st) u o) : JJ X (vC P) nL Q pc lv (.ref (P.2.2.2.1 8) :: st) u o := j_get F iX4 8 (gC_8 P u) rfl 1 (by decide) hl rfl rfl hd kk
theorem bC_8_1 (F : FX X (vC P) cc nL own rt rm) {v : Int32} {f : MM → Option α} (hl : Cond.fieldLink own index "OrchardWall$Raid" "delay" "I" ∈ TB) (hd : decode cc pc = .ok (.putfield index, 3)) (kk : ∀ u1, JJ X (vC P) nL Q (pc + 3) lv st u1 (f u1)) : JJ X (vC P) nL Q pc lv (.int v :: .ref (P.2.2.2.1 8) :: st) u (mo_pf u 8 1 v f) := j_put F iX4 tyX4 tyX4_ok nmX4 8 (gC_8 P u) rfl 1 (by decide) hl rfl rfl (ty := .int) (by decide +kernel) rfl rfl (Nat.le_of_ble_eq_true rfl) (pC_8_1 P u v) hd (kk _)
theorem aC_8_2 (F : FX X (vC P) cc nL own rt rm) (hl : Cond.fieldLink own index "OrchardWall$Raid" "noise" "I" ∈ TB) (hd : decode cc pc = .ok (.getfield index, 3)) (kk : JJ X (vC P) nL Q (pc + 3) lv (.int (mm_r u 8 2) :: st) u o) : JJ X (vC P) nL Q pc lv (.ref (P.2.2.2.1 8) :: st) u o := j_get F iX4 8 (gC_8 P u) rfl 2 (by decide) hl rfl rfl hd kk
theorem bC_8_2 (F : FX X (vC P) cc nL own rt rm) {v : Int32} {f : MM → Option α} (hl : Cond.fieldLink own index "OrchardWall$Raid" "noise" "I" ∈ TB) (hd : decode cc pc = .ok (.putfield index, 3)) (kk : ∀ u1, JJ X (vC P) nL Q (pc + 3) lv st u1 (f u1)) : JJ X (vC P) nL Q pc lv (.int v :: .ref (P.2.2.2.1 8) :: st) u (mo_pf u 8 2 v f) := j_put F iX4 tyX4 tyX4_ok nmX4 8 (gC_8 P u) rfl 2 (by decide) hl rfl rfl (ty := .int) (by decide +kernel) rfl rfl (Nat.le_of_ble_eq_true rfl) (pC_8_2 P u v) hd (kk _)
theorem aC_8_3 (F : FX X (vC P) cc nL own rt rm) (hl : Cond.fieldLink own index "OrchardWall$Raid" "second" "I" ∈ TB) (hd : decode cc pc = .ok (.getfield index, 3)) (kk : JJ X (vC P) nL Q (pc + 3) lv (.int (mm_r u 8 3) :: st) u o) : JJ X (vC P) nL Q pc lv (.ref (P.2.2.2.1 8) :: st) u o := j_get F iX4 8 (gC_8 P u) rfl 3 (by decide) hl rfl rfl hd kk
theorem bC_8_3 (F : FX X (vC P) cc nL own rt rm) {v : Int32} {f : MM → Option α} (hl : Cond.fieldLink own index "OrchardWall$Raid" "second" "I" ∈ TB) (hd : decode cc pc = .ok (.putfield index, 3)) (kk : ∀ u1, JJ X (vC P) nL Q (pc + 3) lv st u1 (f u1)) : JJ X (vC P) nL Q pc lv (.int v :: .ref (P.2.2.2.1 8) :: st) u (mo_pf u 8 3 v f) := j_put F iX4 tyX4 tyX4_ok nmX4 8 (gC_8 P u) rfl 3 (by decide) hl rfl rfl (ty := .int) (by decide +kernel) rfl rfl (Nat.le_of_ble_eq_true rfl) (pC_8_3 P u v) hd (kk _)
theorem aC_8_4 (F : FX X (vC P) cc nL own rt rm) (hl : Cond.fieldLink own index "OrchardWall$Raid" "door" "I" ∈ TB) (hd : decode cc pc = .ok (.getfield index, 3)) (kk : JJ X (vC P) nL Q (pc + 3) lv (.int (mm_r u 8 4) :: st) u o) : JJ X (vC P) nL Q pc lv (.ref (P.2.2.2.1 8) :: st) u o := j_get F iX4 8 (gC_8 P u) rfl 4 (by decide) hl rfl rfl hd kk
theorem bC_8_4 (F : FX X (vC P) cc nL own rt rm) {v : Int32} {f : MM → Option α} (hl : Cond.fieldLink own index "OrchardWall$Raid" "door" "I" ∈ TB) (hd : decode cc pc = .ok (.putfield index, 3)) (kk : ∀ u1, JJ X (vC P) nL Q (pc + 3) lv st u1 (f u1)) : JJ X (vC P) nL Q pc lv (.int v :: .ref (P.2.2.2.1 8) :: st) u (mo_pf u 8 4 v f) := j_put F iX4 tyX4 tyX4_ok nmX4 8 (gC_8 P u) rfl 4 (by decide) hl rfl rfl (ty := .int) (by decide +kernel) rfl rfl (Nat.le_of_ble_eq_true rfl) (pC_8_4 P u v) hd (kk _)
theorem aC_8_5 (F : FX X (vC P) cc nL own rt rm) (hl : Cond.fieldLink own index "OrchardWall$Raid" "last" "I" ∈ TB) (hd : decode cc pc = .ok (.getfield index, 3)) (kk : JJ X (vC P) nL Q (pc + 3) lv (.int (mm_r u 8 5) :: st) u o) : JJ X (vC P) nL Q pc lv (.ref (P.2.2.2.1 8) :: st) u o := j_get F iX4 8 (gC_8 P u) rfl 5 (by decide) hl rfl rfl hd kk
theorem bC_8_5 (F : FX X (vC P) cc nL own rt rm) {v : Int32} {f : MM → Option α} (hl : Cond.fieldLink own index "OrchardWall$Raid" "last" "I" ∈ TB) (hd : decode cc pc = .ok (.putfield index, 3)) (kk : ∀ u1, JJ X (vC P) nL Q (pc + 3) lv st u1 (f u1)) : JJ X (vC P) nL Q pc lv (.int v :: .ref (P.2.2.2.1 8) :: st) u (mo_pf u 8 5 v f) := j_put F iX4 tyX4 tyX4_ok nmX4 8 (gC_8 P u) rfl 5 (by decide) hl rfl rfl (ty := .int) (by decide +kernel) rfl rfl (Nat.le_of_ble_eq_true rfl) (pC_8_5 P u v) hd (kk _)
theorem aC_8_6 (F : FX X (vC P) cc nL own rt rm) (hl : Cond.fieldLink own index "OrchardWall$Raid" "inside" "I" ∈ TB) (hd : decode cc pc = .ok (.getfield index, 3)) (kk : JJ X (vC P) nL Q (pc + 3) lv (.int (mm_r u 8 6) :: st) u o) : JJ X (vC P) nL Q pc lv (.ref (P.2.2.2.1 8) :: st) u o := j_get F iX4 8 (gC_8 P u) rfl 6 (by decide) hl rfl rfl hd kk
theorem bC_8_6 (F : FX X (vC P) cc nL own rt rm) {v : Int32} {f : MM → Option α} (hl : Cond.fieldLink own index "OrchardWall$Raid" "inside" "I" ∈ TB) (hd : decode cc pc = .ok (.putfield index, 3)) (kk : ∀ u1, JJ X (vC P) nL Q (pc + 3) lv st u1 (f u1)) : JJ X (vC P) nL Q pc lv (.int v :: .ref (P.2.2.2.1 8) :: st) u (mo_pf u 8 6 v f) := j_put F iX4 tyX4 tyX4_ok nmX4 8 (gC_8 P u) rfl 6 (by decide) hl rfl rfl (ty := .int) (by decide +kernel) rfl rfl (Nat.le_of_ble_eq_true rfl) (pC_8_6 P u v) hd (kk _)
theorem aC_8_7 (F : FX X (vC P) cc nL own rt rm) (hl : Cond.fieldLink own index "OrchardWall$Raid" "left" "[I" ∈ TB) (hd : decode cc pc = .ok (.getfield index, 3)) (kk : JJ X (vC P) nL Q (pc + 3) lv (.ref (P.2.2.2.1 21) :: st) u o) : JJ X (vC P) nL Q pc lv (.ref (P.2.2.2.1 8) :: st) u o := j_get F iX4 8 (gC_8 P u) rfl 7 (by decide) hl rfl rfl hd kk
theorem aC_8_8 (F : FX X (vC P) cc nL own rt rm) (hl : Cond.fieldLink own index "OrchardWall$Raid" "goal" "[I" ∈ TB) (hd : decode cc pc = .ok (.getfield index, 3)) (kk : JJ X (vC P) nL Q (pc + 3) lv (.ref (P.2.2.2.1 22) :: st) u o) : JJ X (vC P) nL Q pc lv (.ref (P.2.2.2.1 8) :: st) u o := j_get F iX4 8 (gC_8 P u) rfl 8 (by decide) hl rfl rfl hd kk
theorem aC_8_9 (F : FX X (vC P) cc nL own rt rm) (hl : Cond.fieldLink own index "OrchardWall$Raid" "planned" "[I" ∈ TB) (hd : decode cc pc = .ok (.getfield index, 3)) (kk : JJ X (vC P) nL Q (pc + 3) lv (.ref (P.2.2.2.1 23) :: st) u o) : JJ X (vC P) nL Q pc lv (.ref (P.2.2.2.1 8) :: st) u o := j_get F iX4 8 (gC_8 P u) rfl 9 (by decide) hl rfl rfl hd kk
theorem aC_8_10 (F : FX X (vC P) cc nL own rt rm) (hl : Cond.fieldLink own index "OrchardWall$Raid" "how" "[I" ∈ TB) (hd : decode cc pc = .ok (.getfield index, 3)) (kk : JJ X (vC P) nL Q (pc + 3) lv (.ref (P.2.2.2.1 24) :: st) u o) : JJ X (vC P) nL Q pc lv (.ref (P.2.2.2.1 8) :: st) u o := j_get F iX4 8 (gC_8 P u) rfl 10 (by decide) hl rfl rfl hd kk
theorem aC_8_11 (F : FX X (vC P) cc nL own rt rm) (hl : Cond.fieldLink own index "OrchardWall$Raid" "doing" "[I" ∈ TB) (hd : decode cc pc = .ok (.getfield index, 3)) (kk : JJ X (vC P) nL Q (pc + 3) lv (.ref (P.2.2.2.1 25) :: st) u o) : JJ X (vC P) nL Q pc lv (.ref (P.2.2.2.1 8) :: st) u o := j_get F iX4 8 (gC_8 P u) rfl 11 (by decide) hl rfl rfl hd kk
theorem aC_8_12 (F : FX X (vC P) cc nL own rt rm) (hl : Cond.fieldLink own index "OrchardWall$Raid" "seconds" "[I" ∈ TB) (hd : decode cc pc = .ok (.getfield index, 3)) (kk : JJ X (vC P) nL Q (pc + 3) lv (.ref (P.2.2.2.1 26) :: st) u o) : JJ X (vC P) nL Q pc lv (.ref (P.2.2.2.1 8) :: st) u o := j_get F iX4 8 (gC_8 P u) rfl 12 (by decide) hl rfl rfl hd kk
theorem aC_8_13 (F : FX X (vC P) cc nL own rt rm) (hl : Cond.fieldLink own index "OrchardWall$Raid" "steps" "[I" ∈ TB) (hd : decode cc pc = .ok (.getfield index, 3)) (kk : JJ X (vC P) nL Q (pc + 3) lv (.ref (P.2.2.2.1 27) :: st) u o) : JJ X (vC P) nL Q pc lv (.ref (P.2.2.2.1 8) :: st) u o := j_get F iX4 8 (gC_8 P u) rfl 13 (by decide) hl rfl rfl hd kk
theorem aC_8_14 (F : FX X (vC P) cc nL own rt rm) (hl : Cond.fieldLink own index "OrchardWall$Raid" "load" "[I" ∈ TB) (hd : decode cc pc = .ok (.getfield index, 3)) (kk : JJ X (vC P) nL Q (pc + 3) lv (.ref (P.2.2.2.1 28) :: st) u o) : JJ X (vC P) nL Q pc lv (.ref (P.2.2.2.1 8) :: st) u o := j_get F iX4 8 (gC_8 P u) rfl 14 (by decide) hl rfl rfl hd kk
theorem aC_8_15 (F : FX X (vC P) cc nL own rt rm) (hl : Cond.fieldLink own index "OrchardWall$Raid" "had" "[I" ∈ TB) (hd : decode cc pc = .ok (.getfield index, 3)) (kk : JJ X (vC P) nL Q (pc + 3) lv (.ref (P.2.2.2.1 29) :: st) u o) : JJ X (vC P) nL Q pc lv (.ref (P.2.2.2.1 8) :: st) u o := j_get F iX4 8 (gC_8 P u) rfl 15 (by decide) hl rfl rfl hd kk
theorem aC_8_16 (F : FX X (vC P) cc nL own rt rm) (hl : Cond.fieldLink own index "OrchardWall$Raid" "outAt" "[I" ∈ TB) (hd : decode cc pc = .ok (.getfield index, 3)) (kk : JJ X (vC P) nL Q (pc + 3) lv (.ref (P.2.2.2.1 30) :: st) u o) : JJ X (vC P) nL Q pc lv (.ref (P.2.2.2.1 8) :: st) u o := j_get F iX4 8 (gC_8 P u) rfl 16 (by decide) hl rfl rfl hd kk
theorem aC_9_0 (F : FX X (vC P) cc nL own rt rm) (hl : Cond.fieldLink own index "OrchardWall$Book" "hours" "[I" ∈ TB) (hd : decode cc pc = .ok (.getfield index, 3)) (kk : JJ X (vC P) nL Q (pc + 3) lv (.ref (P.2.2.2.1 18) :: st) u o) : JJ X (vC P) nL Q pc lv (.ref (P.2.2.2.1 9) :: st) u o := j_get F iX1 9 (gC_9 P u) rfl 0 (by decide) hl rfl rfl hd kk
theorem aC_9_1 (F : FX X (vC P) cc nL own rt rm) (hl : Cond.fieldLink own index "OrchardWall$Book" "slept" "[I" ∈ TB) (hd : decode cc pc = .ok (.getfield index, 3)) (kk : JJ X (vC P) nL Q (pc + 3) lv (.ref (P.2.2.2.1 19) :: st) u o) : JJ X (vC P) nL Q pc lv (.ref (P.2.2.2.1 9) :: st) u o := j_get F iX1 9 (gC_9 P u) rfl 1 (by decide) hl rfl rfl hd kk
theorem aC_9_2 (F : FX X (vC P) cc nL own rt rm) (hl : Cond.fieldLink own index "OrchardWall$Book" "lines" "I" ∈ TB) (hd : decode cc pc = .ok (.getfield index, 3)) (kk : JJ X (vC P) nL Q (pc + 3) lv (.int (mm_r u 9 2) :: st) u o) : JJ X (vC P) nL Q pc lv (.ref (P.2.2.2.1 9) :: st) u o := j_get F iX1 9 (gC_9 P u) rfl 2 (by decide) hl rfl rfl hd kk
theorem bC_9_2 (F : FX X (vC P) cc nL own rt rm) {v : Int32} {f : MM → Option α} (hl : Cond.fieldLink own index "OrchardWall$Book" "lines" "I" ∈ TB) (hd : decode cc pc = .ok (.putfield index, 3)) (kk : ∀ u1, JJ X (vC P) nL Q (pc + 3) lv st u1 (f u1)) : JJ X (vC P) nL Q pc lv (.int v :: .ref (P.2.2.2.1 9) :: st) u (mo_pf u 9 2 v f) := j_put F iX1 tyX1 tyX1_ok nmX1 9 (gC_9 P u) rfl 2 (by decide) hl rfl rfl (ty := .int) (by decide +kernel) rfl rfl (Nat.le_of_ble_eq_true rfl) (pC_9_2 P u v) hd (kk _)
theorem aC_10_0 (F : FX X (vC P) cc nL own rt rm) (hl : Cond.fieldLink own index "OrchardWall$Days" "stakes" "[I" ∈ TB) (hd : decode cc pc = .ok (.getfield index, 3)) (kk : JJ X (vC P) nL Q (pc + 3) lv (.ref (P.2.2.2.1 20) :: st) u o) : JJ X (vC P) nL Q pc lv (.ref (P.2.2.2.1 10) :: st) u o := j_get F iX2 10 (gC_10 P u) rfl 0 (by decide) hl rfl rfl hd kk
theorem aC_10_1 (F : FX X (vC P) cc nL own rt rm) (hl : Cond.fieldLink own index "OrchardWall$Days" "bestSet" "I" ∈ TB) (hd : decode cc pc = .ok (.getfield index, 3)) (kk : JJ X (vC P) nL Q (pc + 3) lv (.int (mm_r u 10 1) :: st) u o) : JJ X (vC P) nL Q pc lv (.ref (P.2.2.2.1 10) :: st) u o := j_get F iX2 10 (gC_10 P u) rfl 1 (by decide) hl rfl rfl hd kk
theorem bC_10_1 (F : FX X (vC P) cc nL own rt rm) {v : Int32} {f : MM → Option α} (hl : Cond.fieldLink own index "OrchardWall$Days" "bestSet" "I" ∈ TB) (hd : decode cc pc = .ok (.putfield index, 3)) (kk : ∀ u1, JJ X (vC P) nL Q (pc + 3) lv st u1 (f u1)) : JJ X (vC P) nL Q pc lv (.int v :: .ref (P.2.2.2.1 10) :: st) u (mo_pf u 10 1 v f) := j_put F iX2 tyX2 tyX2_ok nmX2 10 (gC_10 P u) rfl 1 (by decide) hl rfl rfl (ty := .int) (by decide +kernel) rfl rfl (Nat.le_of_ble_eq_true rfl) (pC_10_1 P u v) hd (kk _)
theorem aC_10_2 (F : FX X (vC P) cc nL own rt rm) (hl : Cond.fieldLink own index "OrchardWall$Days" "bestAbove" "J" ∈ TB) (hd : decode cc pc = .ok (.getfield index, 3)) (kk : JJ X (vC P) nL Q (pc + 3) lv (.long (mm_rl u 0) :: st) u o) : JJ X (vC P) nL Q pc lv (.ref (P.2.2.2.1 10) :: st) u o := j_get F iX2 10 (gC_10 P u) rfl 2 (by decide) hl rfl rfl hd kk
theorem bC_10_2 (F : FX X (vC P) cc nL own rt rm) {v : Int64} {f : MM → Option α} (hl : Cond.fieldLink own index "OrchardWall$Days" "bestAbove" "J" ∈ TB) (hd : decode cc pc = .ok (.putfield index, 3)) (kk : ∀ u1, JJ X (vC P) nL Q (pc + 3) lv st u1 (f u1)) : JJ X (vC P) nL Q pc lv (.long v :: .ref (P.2.2.2.1 10) :: st) u (mo_pl u 0 v f) := j_put F iX2 tyX2 tyX2_ok nmX2 10 (gC_10 P u) rfl 2 (by decide) hl rfl rfl (ty := .long) (by decide +kernel) rfl rfl (Nat.le_of_ble_eq_true rfl) (pC_10_2 P u v) hd (kk _)
theorem aC_10_3 (F : FX X (vC P) cc nL own rt rm) (hl : Cond.fieldLink own index "OrchardWall$Days" "bestBelow" "J" ∈ TB) (hd : decode cc pc = .ok (.getfield index, 3)) (kk : JJ X (vC P) nL Q (pc + 3) lv (.long (mm_rl u 1) :: st) u o) : JJ X (vC P) nL Q pc lv (.ref (P.2.2.2.1 10) :: st) u o := j_get F iX2 10 (gC_10 P u) rfl 3 (by decide) hl rfl rfl hd kk
theorem bC_10_3 (F : FX X (vC P) cc nL own rt rm) {v : Int64} {f : MM → Option α} (hl : Cond.fieldLink own index "OrchardWall$Days" "bestBelow" "J" ∈ TB) (hd : decode cc pc = .ok (.putfield index, 3)) (kk : ∀ u1, JJ X (vC P) nL Q (pc + 3) lv st u1 (f u1)) : JJ X (vC P) nL Q pc lv (.long v :: .ref (P.2.2.2.1 10) :: st) u (mo_pl u 1 v f) := j_put F iX2 tyX2 tyX2_ok nmX2 10 (gC_10 P u) rfl 3 (by decide) hl rfl rfl (ty := .long) (by decide +kernel) rfl rfl (Nat.le_of_ble_eq_true rfl) (pC_10_3 P u v) hd (kk _)
theorem aR_0_0 (F : FX X (vR P) cc nL own rt rm) (hl : Cond.fieldLink own index "OrchardWallModel" "thrown" "I" ∈ TB) (hd : decode cc pc = .ok (.getfield index, 3)) (kk : JJ X (vR P) nL Q (pc + 3) lv (.int (mm_r u 0 0) :: st) u o) : JJ X (vR P) nL Q pc lv (.ref (P.2.2.2.1 0) :: st) u o := j_get F iX8 0 (gR_0 P u) rfl 0 (by decide) hl rfl rfl hd kk
theorem bR_0_0 (F : FX X (vR P) cc nL own rt rm) {v : Int32} {f : MM → Option α} (hl : Cond.fieldLink own index "OrchardWallModel" "thrown" "I" ∈ TB) (hd : decode cc pc = .ok (.putfield index, 3)) (kk : ∀ u1, JJ X (vR P) nL Q (pc + 3) lv st u1 (f u1)) : JJ X (vR P) nL Q pc lv (.int v :: .ref (P.2.2.2.1 0) :: st) u (mo_pf u 0 0 v f) := j_put F iX8 tyX8 tyX8_ok nmX8 0 (gR_0 P u) rfl 0 (by decide) hl rfl rfl (ty := .int) (by decide +kernel) rfl rfl (Nat.le_of_ble_eq_true rfl) (pR_0_0 P u v) hd (kk _)
theorem aR_0_1 (F : FX X (vR P) cc nL own rt rm) (hl : Cond.fieldLink own index "OrchardWallModel" "status" "I" ∈ TB) (hd : decode cc pc = .ok (.getfield index, 3)) (kk : JJ X (vR P) nL Q (pc + 3) lv (.int (mm_r u 0 1) :: st) u o) : JJ X (vR P) nL Q pc lv (.ref (P.2.2.2.1 0) :: st) u o := j_get F iX8 0 (gR_0 P u) rfl 1 (by decide) hl rfl rfl hd kk
theorem bR_0_1 (F : FX X (vR P) cc nL own rt rm) {v : Int32} {f : MM → Option α} (hl : Cond.fieldLink own index "OrchardWallModel" "status" "I" ∈ TB) (hd : decode cc pc = .ok (.putfield index, 3)) (kk : ∀ u1, JJ X (vR P) nL Q (pc + 3) lv st u1 (f u1)) : JJ X (vR P) nL Q pc lv (.int v :: .ref (P.2.2.2.1 0) :: st) u (mo_pf u 0 1 v f) := j_put F iX8 tyX8 tyX8_ok nmX8 0 (gR_0 P u) rfl 1 (by decide) hl rfl rfl (ty := .int) (by decide +kernel) rfl rfl (Nat.le_of_ble_eq_true rfl) (pR_0_1 P u v) hd (kk _)
theorem aR_0_2 (F : FX X (vR P) cc nL own rt rm) (hl : Cond.fieldLink own index "OrchardWallModel" "lane" "[I" ∈ TB) (hd : decode cc pc = .ok (.getfield index, 3)) (kk : JJ X (vR P) nL Q (pc + 3) lv (.ref (P.2.2.2.1 2) :: st) u o) : JJ X (vR P) nL Q pc lv (.ref (P.2.2.2.1 0) :: st) u o := j_get F iX8 0 (gR_0 P u) rfl 2 (by decide) hl rfl rfl hd kk
theorem aR_0_3 (F : FX X (vR P) cc nL own rt rm) (hl : Cond.fieldLink own index "OrchardWallModel" "many" "[I" ∈ TB) (hd : decode cc pc = .ok (.getfield index, 3)) (kk : JJ X (vR P) nL Q (pc + 3) lv (.ref (P.2.2.2.1 3) :: st) u o) : JJ X (vR P) nL Q pc lv (.ref (P.2.2.2.1 0) :: st) u o := j_get F iX8 0 (gR_0 P u) rfl 3 (by decide) hl rfl rfl hd kk
theorem aR_0_4 (F : FX X (vR P) cc nL own rt rm) (hl : Cond.fieldLink own index "OrchardWallModel" "item" "[I" ∈ TB) (hd : decode cc pc = .ok (.getfield index, 3)) (kk : JJ X (vR P) nL Q (pc + 3) lv (.ref (P.2.2.2.1 4) :: st) u o) : JJ X (vR P) nL Q pc lv (.ref (P.2.2.2.1 0) :: st) u o := j_get F iX8 0 (gR_0 P u) rfl 4 (by decide) hl rfl rfl hd kk
theorem aR_0_5 (F : FX X (vR P) cc nL own rt rm) (hl : Cond.fieldLink own index "OrchardWallModel" "wall" "[I" ∈ TB) (hd : decode cc pc = .ok (.getfield index, 3)) (kk : JJ X (vR P) nL Q (pc + 3) lv (.ref (P.2.2.2.1 5) :: st) u o) : JJ X (vR P) nL Q pc lv (.ref (P.2.2.2.1 0) :: st) u o := j_get F iX8 0 (gR_0 P u) rfl 5 (by decide) hl rfl rfl hd kk
theorem aR_0_6 (F : FX X (vR P) cc nL own rt rm) (hl : Cond.fieldLink own index "OrchardWallModel" "fresh" "[I" ∈ TB) (hd : decode cc pc = .ok (.getfield index, 3)) (kk : JJ X (vR P) nL Q (pc + 3) lv (.ref (P.2.2.2.1 6) :: st) u o) : JJ X (vR P) nL Q pc lv (.ref (P.2.2.2.1 0) :: st) u o := j_get F iX8 0 (gR_0 P u) rfl 6 (by decide) hl rfl rfl hd kk
theorem aR_0_7 (F : FX X (vR P) cc nL own rt rm) (hl : Cond.fieldLink own index "OrchardWallModel" "was" "[I" ∈ TB) (hd : decode cc pc = .ok (.getfield index, 3)) (kk : JJ X (vR P) nL Q (pc + 3) lv (.ref (P.2.2.2.1 7) :: st) u o) : JJ X (vR P) nL Q pc lv (.ref (P.2.2.2.1 0) :: st) u o := j_get F iX8 0 (gR_0 P u) rfl 7 (by decide) hl rfl rfl hd kk
theorem aR_0_8 (F : FX X (vR P) cc nL own rt rm) (hl : Cond.fieldLink own index "OrchardWallModel" "acts" "I" ∈ TB) (hd : decode cc pc = .ok (.getfield index, 3)) (kk : JJ X (vR P) nL Q (pc + 3) lv (.int (mm_r u 0 8) :: st) u o) : JJ X (vR P) nL Q pc lv (.ref (P.2.2.2.1 0) :: st) u o := j_get F iX8 0 (gR_0 P u) rfl 8 (by decide) hl rfl rfl hd kk
theorem bR_0_8 (F : FX X (vR P) cc nL own rt rm) {v : Int32} {f : MM → Option α} (hl : Cond.fieldLink own index "OrchardWallModel" "acts" "I" ∈ TB) (hd : decode cc pc = .ok (.putfield index, 3)) (kk : ∀ u1, JJ X (vR P) nL Q (pc + 3) lv st u1 (f u1)) : JJ X (vR P) nL Q pc lv (.int v :: .ref (P.2.2.2.1 0) :: st) u (mo_pf u 0 8 v f) := j_put F iX8 tyX8 tyX8_ok nmX8 0 (gR_0 P u) rfl 8 (by decide) hl rfl rfl (ty := .int) (by decide +kernel) rfl rfl (Nat.le_of_ble_eq_true rfl) (pR_0_8 P u v) hd (kk _)
theorem aR_0_9 (F : FX X (vR P) cc nL own rt rm) (hl : Cond.fieldLink own index "OrchardWallModel" "tape" "[I" ∈ TB) (hd : decode cc pc = .ok (.getfield index, 3)) (kk : JJ X (vR P) nL Q (pc + 3) lv (.ref (P.2.2.2.1 8) :: st) u o) : JJ X (vR P) nL Q pc lv (.ref (P.2.2.2.1 0) :: st) u o := j_get F iX8 0 (gR_0 P u) rfl 9 (by decide) hl rfl rfl hd kk
theorem aR_0_10 (F : FX X (vR P) cc nL own rt rm) (hl : Cond.fieldLink own index "OrchardWallModel" "taped" "I" ∈ TB) (hd : decode cc pc = .ok (.getfield index, 3)) (kk : JJ X (vR P) nL Q (pc + 3) lv (.int (mm_r u 0 10) :: st) u o) : JJ X (vR P) nL Q pc lv (.ref (P.2.2.2.1 0) :: st) u o := j_get F iX8 0 (gR_0 P u) rfl 10 (by decide) hl rfl rfl hd kk
theorem bR_0_10 (F : FX X (vR P) cc nL own rt rm) {v : Int32} {f : MM → Option α} (hl : Cond.fieldLink own index "OrchardWallModel" "taped" "I" ∈ TB) (hd : decode cc pc = .ok (.putfield index, 3)) (kk : ∀ u1, JJ X (vR P) nL Q (pc + 3) lv st u1 (f u1)) : JJ X (vR P) nL Q pc lv (.int v :: .ref (P.2.2.2.1 0) :: st) u (mo_pf u 0 10 v f) := j_put F iX8 tyX8 tyX8_ok nmX8 0 (gR_0 P u) rfl 10 (by decide) hl rfl rfl (ty := .int) (by decide +kernel) rfl rfl (Nat.le_of_ble_eq_true rfl) (pR_0_10 P u v) hd (kk _)
theorem aR_0_11 (F : FX X (vR P) cc nL own rt rm) (hl : Cond.fieldLink own index "OrchardWallModel" "cursor" "I" ∈ TB) (hd : decode cc pc = .ok (.getfield index, 3)) (kk : JJ X (vR P) nL Q (pc + 3) lv (.int (mm_r u 0 11) :: st) u o) : JJ X (vR P) nL Q pc lv (.ref (P.2.2.2.1 0) :: st) u o := j_get F iX8 0 (gR_0 P u) rfl 11 (by decide) hl rfl rfl hd kk
theorem bR_0_11 (F : FX X (vR P) cc nL own rt rm) {v : Int32} {f : MM → Option α} (hl : Cond.fieldLink own index "OrchardWallModel" "cursor" "I" ∈ TB) (hd : decode cc pc = .ok (.putfield index, 3)) (kk : ∀ u1, JJ X (vR P) nL Q (pc + 3) lv st u1 (f u1)) : JJ X (vR P) nL Q pc lv (.int v :: .ref (P.2.2.2.1 0) :: st) u (mo_pf u 0 11 v f) := j_put F iX8 tyX8 tyX8_ok nmX8 0 (gR_0 P u) rfl 11 (by decide) hl rfl rfl (ty := .int) (by decide +kernel) rfl rfl (Nat.le_of_ble_eq_true rfl) (pR_0_11 P u v) hd (kk _)
theorem aR_0_12 (F : FX X (vR P) cc nL own rt rm) (hl : Cond.fieldLink own index "OrchardWallModel" "start" "I" ∈ TB) (hd : decode cc pc = .ok (.getfield index, 3)) (kk : JJ X (vR P) nL Q (pc + 3) lv (.int (mm_r u 0 12) :: st) u o) : JJ X (vR P) nL Q pc lv (.ref (P.2.2.2.1 0) :: st) u o := j_get F iX8 0 (gR_0 P u) rfl 12 (by decide) hl rfl rfl hd kk
theorem bR_0_12 (F : FX X (vR P) cc nL own rt rm) {v : Int32} {f : MM → Option α} (hl : Cond.fieldLink own index "OrchardWallModel" "start" "I" ∈ TB) (hd : decode cc pc = .ok (.putfield index, 3)) (kk : ∀ u1, JJ X (vR P) nL Q (pc + 3) lv st u1 (f u1)) : JJ X (vR P) nL Q pc lv (.int v :: .ref (P.2.2.2.1 0) :: st) u (mo_pf u 0 12 v f) := j_put F iX8 tyX8 tyX8_ok nmX8 0 (gR_0 P u) rfl 12 (by decide) hl rfl rfl (ty := .int) (by decide +kernel) rfl rfl (Nat.le_of_ble_eq_true rfl) (pR_0_12 P u v) hd (kk _)
theorem aR_0_13 (F : FX X (vR P) cc nL own rt rm) (hl : Cond.fieldLink own index "OrchardWallModel" "token" "I" ∈ TB) (hd : decode cc pc = .ok (.getfield index, 3)) (kk : JJ X (vR P) nL Q (pc + 3) lv (.int (mm_r u 0 13) :: st) u o) : JJ X (vR P) nL Q pc lv (.ref (P.2.2.2.1 0) :: st) u o := j_get F iX8 0 (gR_0 P u) rfl 13 (by decide) hl rfl rfl hd kk
theorem bR_0_13 (F : FX X (vR P) cc nL own rt rm) {v : Int32} {f : MM → Option α} (hl : Cond.fieldLink own index "OrchardWallModel" "token" "I" ∈ TB) (hd : decode cc pc = .ok (.putfield index, 3)) (kk : ∀ u1, JJ X (vR P) nL Q (pc + 3) lv st u1 (f u1)) : JJ X (vR P) nL Q pc lv (.int v :: .ref (P.2.2.2.1 0) :: st) u (mo_pf u 0 13 v f) := j_put F iX8 tyX8 tyX8_ok nmX8 0 (gR_0 P u) rfl 13 (by decide) hl rfl rfl (ty := .int) (by decide +kernel) rfl rfl (Nat.le_of_ble_eq_true rfl) (pR_0_13 P u v) hd (kk _)
theorem aR_0_14 (F : FX X (vR P) cc nL own rt rm) (hl : Cond.fieldLink own index "OrchardWallModel" "value" "I" ∈ TB) (hd : decode cc pc = .ok (.getfield index, 3)) (kk : JJ X (vR P) nL Q (pc + 3) lv (.int (mm_r u 0 14) :: st) u o) : JJ X (vR P) nL Q pc lv (.ref (P.2.2.2.1 0) :: st) u o := j_get F iX8 0 (gR_0 P u) rfl 14 (by decide) hl rfl rfl hd kk
theorem bR_0_14 (F : FX X (vR P) cc nL own rt rm) {v : Int32} {f : MM → Option α} (hl : Cond.fieldLink own index "OrchardWallModel" "value" "I" ∈ TB) (hd : decode cc pc = .ok (.putfield index, 3)) (kk : ∀ u1, JJ X (vR P) nL Q (pc + 3) lv st u1 (f u1)) : JJ X (vR P) nL Q pc lv (.int v :: .ref (P.2.2.2.1 0) :: st) u (mo_pf u 0 14 v f) := j_put F iX8 tyX8 tyX8_ok nmX8 0 (gR_0 P u) rfl 14 (by decide) hl rfl rfl (ty := .int) (by decide +kernel) rfl rfl (Nat.le_of_ble_eq_true rfl) (pR_0_14 P u v) hd (kk _)
theorem aR_0_15 (F : FX X (vR P) cc nL own rt rm) (hl : Cond.fieldLink own index "OrchardWallModel" "fault" "I" ∈ TB) (hd : decode cc pc = .ok (.getfield index, 3)) (kk : JJ X (vR P) nL Q (pc + 3) lv (.int (mm_r u 0 15) :: st) u o) : JJ X (vR P) nL Q pc lv (.ref (P.2.2.2.1 0) :: st) u o := j_get F iX8 0 (gR_0 P u) rfl 15 (by decide) hl rfl rfl hd kk
theorem bR_0_15 (F : FX X (vR P) cc nL own rt rm) {v : Int32} {f : MM → Option α} (hl : Cond.fieldLink own index "OrchardWallModel" "fault" "I" ∈ TB) (hd : decode cc pc = .ok (.putfield index, 3)) (kk : ∀ u1, JJ X (vR P) nL Q (pc + 3) lv st u1 (f u1)) : JJ X (vR P) nL Q pc lv (.int v :: .ref (P.2.2.2.1 0) :: st) u (mo_pf u 0 15 v f) := j_put F iX8 tyX8 tyX8_ok nmX8 0 (gR_0 P u) rfl 15 (by decide) hl rfl rfl (ty := .int) (by decide +kernel) rfl rfl (Nat.le_of_ble_eq_true rfl) (pR_0_15 P u v) hd (kk _)
theorem aR_0_16 (F : FX X (vR P) cc nL own rt rm) (hl : Cond.fieldLink own index "OrchardWallModel" "faultAt" "I" ∈ TB) (hd : decode cc pc = .ok (.getfield index, 3)) (kk : JJ X (vR P) nL Q (pc + 3) lv (.int (mm_r u 0 16) :: st) u o) : JJ X (vR P) nL Q pc lv (.ref (P.2.2.2.1 0) :: st) u o := j_get F iX8 0 (gR_0 P u) rfl 16 (by decide) hl rfl rfl hd kk
theorem bR_0_16 (F : FX X (vR P) cc nL own rt rm) {v : Int32} {f : MM → Option α} (hl : Cond.fieldLink own index "OrchardWallModel" "faultAt" "I" ∈ TB) (hd : decode cc pc = .ok (.putfield index, 3)) (kk : ∀ u1, JJ X (vR P) nL Q (pc + 3) lv st u1 (f u1)) : JJ X (vR P) nL Q pc lv (.int v :: .ref (P.2.2.2.1 0) :: st) u (mo_pf u 0 16 v f) := j_put F iX8 tyX8 tyX8_ok nmX8 0 (gR_0 P u) rfl 16 (by decide) hl rfl rfl (ty := .int) (by decide +kernel) rfl rfl (Nat.le_of_ble_eq_true rfl) (pR_0_16 P u v) hd (kk _)
theorem aR_0_17 (F : FX X (vR P) cc nL own rt rm) (hl : Cond.fieldLink own index "OrchardWallModel" "latest" "I" ∈ TB) (hd : decode cc pc = .ok (.getfield index, 3)) (kk : JJ X (vR P) nL Q (pc + 3) lv (.int (mm_r u 0 17) :: st) u o) : JJ X (vR P) nL Q pc lv (.ref (P.2.2.2.1 0) :: st) u o := j_get F iX8 0 (gR_0 P u) rfl 17 (by decide) hl rfl rfl hd kk
theorem bR_0_17 (F : FX X (vR P) cc nL own rt rm) {v : Int32} {f : MM → Option α} (hl : Cond.fieldLink own index "OrchardWallModel" "latest" "I" ∈ TB) (hd : decode cc pc = .ok (.putfield index, 3)) (kk : ∀ u1, JJ X (vR P) nL Q (pc + 3) lv st u1 (f u1)) : JJ X (vR P) nL Q pc lv (.int v :: .ref (P.2.2.2.1 0) :: st) u (mo_pf u 0 17 v f) := j_put F iX8 tyX8 tyX8_ok nmX8 0 (gR_0 P u) rfl 17 (by decide) hl rfl rfl (ty := .int) (by decide +kernel) rfl rfl (Nat.le_of_ble_eq_true rfl) (pR_0_17 P u v) hd (kk _)
theorem aR_0_18 (F : FX X (vR P) cc nL own rt rm) (hl : Cond.fieldLink own index "OrchardWallModel" "toTree" "[I" ∈ TB) (hd : decode cc pc = .ok (.getfield index, 3)) (kk : JJ X (vR P) nL Q (pc + 3) lv (.ref (P.2.2.2.1 9) :: st) u o) : JJ X (vR P) nL Q pc lv (.ref (P.2.2.2.1 0) :: st) u o := j_get F iX8 0 (gR_0 P u) rfl 18 (by decide) hl rfl rfl hd kk
theorem aR_0_19 (F : FX X (vR P) cc nL own rt rm) (hl : Cond.fieldLink own index "OrchardWallModel" "planned" "[I" ∈ TB) (hd : decode cc pc = .ok (.getfield index, 3)) (kk : JJ X (vR P) nL Q (pc + 3) lv (.ref (P.2.2.2.1 10) :: st) u o) : JJ X (vR P) nL Q pc lv (.ref (P.2.2.2.1 0) :: st) u o := j_get F iX8 0 (gR_0 P u) rfl 19 (by decide) hl rfl rfl hd kk
theorem aR_0_20 (F : FX X (vR P) cc nL own rt rm) (hl : Cond.fieldLink own index "OrchardWallModel" "how" "[I" ∈ TB) (hd : decode cc pc = .ok (.getfield index, 3)) (kk : JJ X (vR P) nL Q (pc + 3) lv (.ref (P.2.2.2.1 11) :: st) u o) : JJ X (vR P) nL Q pc lv (.ref (P.2.2.2.1 0) :: st) u o := j_get F iX8 0 (gR_0 P u) rfl 20 (by decide) hl rfl rfl hd kk
theorem aR_0_21 (F : FX X (vR P) cc nL own rt rm) (hl : Cond.fieldLink own index "OrchardWallModel" "apples" "[I" ∈ TB) (hd : decode cc pc = .ok (.getfield index, 3)) (kk : JJ X (vR P) nL Q (pc + 3) lv (.ref (P.2.2.2.1 12) :: st) u o) : JJ X (vR P) nL Q pc lv (.ref (P.2.2.2.1 0) :: st) u o := j_get F iX8 0 (gR_0 P u) rfl 21 (by decide) hl rfl rfl hd kk
theorem aR_0_22 (F : FX X (vR P) cc nL own rt rm) (hl : Cond.fieldLink own index "OrchardWallModel" "on" "[I" ∈ TB) (hd : decode cc pc = .ok (.getfield index, 3)) (kk : JJ X (vR P) nL Q (pc + 3) lv (.ref (P.2.2.2.1 13) :: st) u o) : JJ X (vR P) nL Q pc lv (.ref (P.2.2.2.1 0) :: st) u o := j_get F iX8 0 (gR_0 P u) rfl 22 (by decide) hl rfl rfl hd kk
theorem aR_0_23 (F : FX X (vR P) cc nL own rt rm) (hl : Cond.fieldLink own index "OrchardWallModel" "does" "[I" ∈ TB) (hd : decode cc pc = .ok (.getfield index, 3)) (kk : JJ X (vR P) nL Q (pc + 3) lv (.ref (P.2.2.2.1 14) :: st) u o) : JJ X (vR P) nL Q pc lv (.ref (P.2.2.2.1 0) :: st) u o := j_get F iX8 0 (gR_0 P u) rfl 23 (by decide) hl rfl rfl hd kk
theorem aR_0_24 (F : FX X (vR P) cc nL own rt rm) (hl : Cond.fieldLink own index "OrchardWallModel" "seconds" "[I" ∈ TB) (hd : decode cc pc = .ok (.getfield index, 3)) (kk : JJ X (vR P) nL Q (pc + 3) lv (.ref (P.2.2.2.1 15) :: st) u o) : JJ X (vR P) nL Q pc lv (.ref (P.2.2.2.1 0) :: st) u o := j_get F iX8 0 (gR_0 P u) rfl 24 (by decide) hl rfl rfl hd kk
theorem aR_0_25 (F : FX X (vR P) cc nL own rt rm) (hl : Cond.fieldLink own index "OrchardWallModel" "load" "[I" ∈ TB) (hd : decode cc pc = .ok (.getfield index, 3)) (kk : JJ X (vR P) nL Q (pc + 3) lv (.ref (P.2.2.2.1 16) :: st) u o) : JJ X (vR P) nL Q pc lv (.ref (P.2.2.2.1 0) :: st) u o := j_get F iX8 0 (gR_0 P u) rfl 25 (by decide) hl rfl rfl hd kk
theorem aR_0_26 (F : FX X (vR P) cc nL own rt rm) (hl : Cond.fieldLink own index "OrchardWallModel" "flown" "[I" ∈ TB) (hd : decode cc pc = .ok (.getfield index, 3)) (kk : JJ X (vR P) nL Q (pc + 3) lv (.ref (P.2.2.2.1 17) :: st) u o) : JJ X (vR P) nL Q pc lv (.ref (P.2.2.2.1 0) :: st) u o := j_get F iX8 0 (gR_0 P u) rfl 26 (by decide) hl rfl rfl hd kk
theorem aR_0_27 (F : FX X (vR P) cc nL own rt rm) (hl : Cond.fieldLink own index "OrchardWallModel" "outAt" "[I" ∈ TB) (hd : decode cc pc = .ok (.getfield index, 3)) (kk : JJ X (vR P) nL Q (pc + 3) lv (.ref (P.2.2.2.1 18) :: st) u o) : JJ X (vR P) nL Q pc lv (.ref (P.2.2.2.1 0) :: st) u o := j_get F iX8 0 (gR_0 P u) rfl 27 (by decide) hl rfl rfl hd kk
theorem aR_0_28 (F : FX X (vR P) cc nL own rt rm) (hl : Cond.fieldLink own index "OrchardWallModel" "noise" "I" ∈ TB) (hd : decode cc pc = .ok (.getfield index, 3)) (kk : JJ X (vR P) nL Q (pc + 3) lv (.int (mm_r u 0 28) :: st) u o) : JJ X (vR P) nL Q pc lv (.ref (P.2.2.2.1 0) :: st) u o := j_get F iX8 0 (gR_0 P u) rfl 28 (by decide) hl rfl rfl hd kk
theorem bR_0_28 (F : FX X (vR P) cc nL own rt rm) {v : Int32} {f : MM → Option α} (hl : Cond.fieldLink own index "OrchardWallModel" "noise" "I" ∈ TB) (hd : decode cc pc = .ok (.putfield index, 3)) (kk : ∀ u1, JJ X (vR P) nL Q (pc + 3) lv st u1 (f u1)) : JJ X (vR P) nL Q pc lv (.int v :: .ref (P.2.2.2.1 0) :: st) u (mo_pf u 0 28 v f) := j_put F iX8 tyX8 tyX8_ok nmX8 0 (gR_0 P u) rfl 28 (by decide) hl rfl rfl (ty := .int) (by decide +kernel) rfl rfl (Nat.le_of_ble_eq_true rfl) (pR_0_28 P u v) hd (kk _)
theorem aR_0_29 (F : FX X (vR P) cc nL own rt rm) (hl : Cond.fieldLink own index "OrchardWallModel" "door" "I" ∈ TB) (hd : decode cc pc = .ok (.getfield index, 3)) (kk : JJ X (vR P) nL Q (pc + 3) lv (.int (mm_r u 0 29) :: st) u o) : JJ X (vR P) nL Q pc lv (.ref (P.2.2.2.1 0) :: st) u o := j_get F iX8 0 (gR_0 P u) rfl 29 (by decide) hl rfl rfl hd kk
theorem bR_0_29 (F : FX X (vR P) cc nL own rt rm) {v : Int32} {f : MM → Option α} (hl : Cond.fieldLink own index "OrchardWallModel" "door" "I" ∈ TB) (hd : decode cc pc = .ok (.putfield index, 3)) (kk : ∀ u1, JJ X (vR P) nL Q (pc + 3) lv st u1 (f u1)) : JJ X (vR P) nL Q pc lv (.int v :: .ref (P.2.2.2.1 0) :: st) u (mo_pf u 0 29 v f) := j_put F iX8 tyX8 tyX8_ok nmX8 0 (gR_0 P u) rfl 29 (by decide) hl rfl rfl (ty := .int) (by decide +kernel) rfl rfl (Nat.le_of_ble_eq_true rfl) (pR_0_29 P u v) hd (kk _)
theorem aR_0_30 (F : FX X (vR P) cc nL own rt rm) (hl : Cond.fieldLink own index "OrchardWallModel" "ended" "I" ∈ TB) (hd : decode cc pc = .ok (.getfield index, 3)) (kk : JJ X (vR P) nL Q (pc + 3) lv (.int (mm_r u 0 30) :: st) u o) : JJ X (vR P) nL Q pc lv (.ref (P.2.2.2.1 0) :: st) u o := j_get F iX8 0 (gR_0 P u) rfl 30 (by decide) hl rfl rfl hd kk
theorem bR_0_30 (F : FX X (vR P) cc nL own rt rm) {v : Int32} {f : MM → Option α} (hl : Cond.fieldLink own index "OrchardWallModel" "ended" "I" ∈ TB) (hd : decode cc pc = .ok (.putfield index, 3)) (kk : ∀ u1, JJ X (vR P) nL Q (pc + 3) lv st u1 (f u1)) : JJ X (vR P) nL Q pc lv (.int v :: .ref (P.2.2.2.1 0) :: st) u (mo_pf u 0 30 v f) := j_put F iX8 tyX8 tyX8_ok nmX8 0 (gR_0 P u) rfl 30 (by decide) hl rfl rfl (ty := .int) (by decide +kernel) rfl rfl (Nat.le_of_ble_eq_true rfl) (pR_0_30 P u v) hd (kk _)
theorem aR_0_31 (F : FX X (vR P) cc nL own rt rm) (hl : Cond.fieldLink own index "OrchardWallModel" "delay" "I" ∈ TB) (hd : decode cc pc = .ok (.getfield index, 3)) (kk : JJ X (vR P) nL Q (pc + 3) lv (.int (mm_r u 0 31) :: st) u o) : JJ X (vR P) nL Q pc lv (.ref (P.2.2.2.1 0) :: st) u o := j_get F iX8 0 (gR_0 P u) rfl 31 (by decide) hl rfl rfl hd kk
theorem bR_0_31 (F : FX X (vR P) cc nL own rt rm) {v : Int32} {f : MM → Option α} (hl : Cond.fieldLink own index "OrchardWallModel" "delay" "I" ∈ TB) (hd : decode cc pc = .ok (.putfield index, 3)) (kk : ∀ u1, JJ X (vR P) nL Q (pc + 3) lv st u1 (f u1)) : JJ X (vR P) nL Q pc lv (.int v :: .ref (P.2.2.2.1 0) :: st) u (mo_pf u 0 31 v f) := j_put F iX8 tyX8 tyX8_ok nmX8 0 (gR_0 P u) rfl 31 (by decide) hl rfl rfl (ty := .int) (by decide +kernel) rfl rfl (Nat.le_of_ble_eq_true rfl) (pR_0_31 P u v) hd (kk _)
theorem aR_0_32 (F : FX X (vR P) cc nL own rt rm) (hl : Cond.fieldLink own index "OrchardWallModel" "turned" "I" ∈ TB) (hd : decode cc pc = .ok (.getfield index, 3)) (kk : JJ X (vR P) nL Q (pc + 3) lv (.int (mm_r u 0 32) :: st) u o) : JJ X (vR P) nL Q pc lv (.ref (P.2.2.2.1 0) :: st) u o := j_get F iX8 0 (gR_0 P u) rfl 32 (by decide) hl rfl rfl hd kk
theorem bR_0_32 (F : FX X (vR P) cc nL own rt rm) {v : Int32} {f : MM → Option α} (hl : Cond.fieldLink own index "OrchardWallModel" "turned" "I" ∈ TB) (hd : decode cc pc = .ok (.putfield index, 3)) (kk : ∀ u1, JJ X (vR P) nL Q (pc + 3) lv st u1 (f u1)) : JJ X (vR P) nL Q pc lv (.int v :: .ref (P.2.2.2.1 0) :: st) u (mo_pf u 0 32 v f) := j_put F iX8 tyX8 tyX8_ok nmX8 0 (gR_0 P u) rfl 32 (by decide) hl rfl rfl (ty := .int) (by decide +kernel) rfl rfl (Nat.le_of_ble_eq_true rfl) (pR_0_32 P u v) hd (kk _)
theorem aR_0_33 (F : FX X (vR P) cc nL own rt rm) (hl : Cond.fieldLink own index "OrchardWallModel" "line" "[I" ∈ TB) (hd : decode cc pc = .ok (.getfield index, 3)) (kk : JJ X (vR P) nL Q (pc + 3) lv (.ref (P.2.2.2.1 19) :: st) u o) : JJ X (vR P) nL Q pc lv (.ref (P.2.2.2.1 0) :: st) u o := j_get F iX8 0 (gR_0 P u) rfl 33 (by decide) hl rfl rfl hd kk
theorem aR_0_34 (F : FX X (vR P) cc nL own rt rm) (hl : Cond.fieldLink own index "OrchardWallModel" "lines" "I" ∈ TB) (hd : decode cc pc = .ok (.getfield index, 3)) (kk : JJ X (vR P) nL Q (pc + 3) lv (.int (mm_r u 0 34) :: st) u o) : JJ X (vR P) nL Q pc lv (.ref (P.2.2.2.1 0) :: st) u o := j_get F iX8 0 (gR_0 P u) rfl 34 (by decide) hl rfl rfl hd kk
theorem bR_0_34 (F : FX X (vR P) cc nL own rt rm) {v : Int32} {f : MM → Option α} (hl : Cond.fieldLink own index "OrchardWallModel" "lines" "I" ∈ TB) (hd : decode cc pc = .ok (.putfield index, 3)) (kk : ∀ u1, JJ X (vR P) nL Q (pc + 3) lv st u1 (f u1)) : JJ X (vR P) nL Q pc lv (.int v :: .ref (P.2.2.2.1 0) :: st) u (mo_pf u 0 34 v f) := j_put F iX8 tyX8 tyX8_ok nmX8 0 (gR_0 P u) rfl 34 (by decide) hl rfl rfl (ty := .int) (by decide +kernel) rfl rfl (Nat.le_of_ble_eq_true rfl) (pR_0_34 P u v) hd (kk _)
theorem aR_0_35 (F : FX X (vR P) cc nL own rt rm) (hl : Cond.fieldLink own index "OrchardWallModel" "above" "J" ∈ TB) (hd : decode cc pc = .ok (.getfield index, 3)) (kk : JJ X (vR P) nL Q (pc + 3) lv (.long (mm_rl u 0) :: st) u o) : JJ X (vR P) nL Q pc lv (.ref (P.2.2.2.1 0) :: st) u o := j_get F iX8 0 (gR_0 P u) rfl 35 (by decide) hl rfl rfl hd kk
theorem bR_0_35 (F : FX X (vR P) cc nL own rt rm) {v : Int64} {f : MM → Option α} (hl : Cond.fieldLink own index "OrchardWallModel" "above" "J" ∈ TB) (hd : decode cc pc = .ok (.putfield index, 3)) (kk : ∀ u1, JJ X (vR P) nL Q (pc + 3) lv st u1 (f u1)) : JJ X (vR P) nL Q pc lv (.long v :: .ref (P.2.2.2.1 0) :: st) u (mo_pl u 0 v f) := j_put F iX8 tyX8 tyX8_ok nmX8 0 (gR_0 P u) rfl 35 (by decide) hl rfl rfl (ty := .long) (by decide +kernel) rfl rfl (Nat.le_of_ble_eq_true rfl) (pR_0_35 P u v) hd (kk _)
theorem aR_0_36 (F : FX X (vR P) cc nL own rt rm) (hl : Cond.fieldLink own index "OrchardWallModel" "below" "J" ∈ TB) (hd : decode cc pc = .ok (.getfield index, 3)) (kk : JJ X (vR P) nL Q (pc + 3) lv (.long (mm_rl u 1) :: st) u o) : JJ X (vR P) nL Q pc lv (.ref (P.2.2.2.1 0) :: st) u o := j_get F iX8 0 (gR_0 P u) rfl 36 (by decide) hl rfl rfl hd kk
theorem bR_0_36 (F : FX X (vR P) cc nL own rt rm) {v : Int64} {f : MM → Option α} (hl : Cond.fieldLink own index "OrchardWallModel" "below" "J" ∈ TB) (hd : decode cc pc = .ok (.putfield index, 3)) (kk : ∀ u1, JJ X (vR P) nL Q (pc + 3) lv st u1 (f u1)) : JJ X (vR P) nL Q pc lv (.long v :: .ref (P.2.2.2.1 0) :: st) u (mo_pl u 1 v f) := j_put F iX8 tyX8 tyX8_ok nmX8 0 (gR_0 P u) rfl 36 (by decide) hl rfl rfl (ty := .long) (by decide +kernel) rfl rfl (Nat.le_of_ble_eq_true rfl) (pR_0_36 P u v) hd (kk _)
theorem aR_0_37 (F : FX X (vR P) cc nL own rt rm) (hl : Cond.fieldLink own index "OrchardWallModel" "isKept" "[Z" ∈ TB) (hd : decode cc pc = .ok (.getfield index, 3)) (kk : JJ X (vR P) nL Q (pc + 3) lv (.ref (P.2.2.2.1 1) :: st) u o) : JJ X (vR P) nL Q pc lv (.ref (P.2.2.2.1 0) :: st) u o := j_get F iX8 0 (gR_0 P u) rfl 37 (by decide) hl rfl rfl hd kk
theorem aR_0_38 (F : FX X (vR P) cc nL own rt rm) (hl : Cond.fieldLink own index "OrchardWallModel" "kept" "[I" ∈ TB) (hd : decode cc pc = .ok (.getfield index, 3)) (kk : JJ X (vR P) nL Q (pc + 3) lv (.ref (P.2.2.2.1 20) :: st) u o) : JJ X (vR P) nL Q pc lv (.ref (P.2.2.2.1 0) :: st) u o := j_get F iX8 0 (gR_0 P u) rfl 38 (by decide) hl rfl rfl hd kk
theorem aR_0_39 (F : FX X (vR P) cc nL own rt rm) (hl : Cond.fieldLink own index "OrchardWallModel" "trace" "[I" ∈ TB) (hd : decode cc pc = .ok (.getfield index, 3)) (kk : JJ X (vR P) nL Q (pc + 3) lv (.ref (P.2.2.2.1 21) :: st) u o) : JJ X (vR P) nL Q pc lv (.ref (P.2.2.2.1 0) :: st) u o := j_get F iX8 0 (gR_0 P u) rfl 39 (by decide) hl rfl rfl hd kk
theorem aR_0_40 (F : FX X (vR P) cc nL own rt rm) (hl : Cond.fieldLink own index "OrchardWallModel" "traced" "I" ∈ TB) (hd : decode cc pc = .ok (.getfield index, 3)) (kk : JJ X (vR P) nL Q (pc + 3) lv (.int (mm_r u 0 40) :: st) u o) : JJ X (vR P) nL Q pc lv (.ref (P.2.2.2.1 0) :: st) u o := j_get F iX8 0 (gR_0 P u) rfl 40 (by decide) hl rfl rfl hd kk
theorem bR_0_40 (F : FX X (vR P) cc nL own rt rm) {v : Int32} {f : MM → Option α} (hl : Cond.fieldLink own index "OrchardWallModel" "traced" "I" ∈ TB) (hd : decode cc pc = .ok (.putfield index, 3)) (kk : ∀ u1, JJ X (vR P) nL Q (pc + 3) lv st u1 (f u1)) : JJ X (vR P) nL Q pc lv (.int v :: .ref (P.2.2.2.1 0) :: st) u (mo_pf u 0 40 v f) := j_put F iX8 tyX8 tyX8_ok nmX8 0 (gR_0 P u) rfl 40 (by decide) hl rfl rfl (ty := .int) (by decide +kernel) rfl rfl (Nat.le_of_ble_eq_true rfl) (pR_0_40 P u v) hd (kk _)
theorem ro_z (F : FX X (vC P) cc nL own rt rm) : roC P.2.2.1 P.2.2.2.2 X.1.2.2.2.2 X.1.2.2.2.2.heap := F.2.2.2.2.2.2.2.1
theorem ro_nw (F : FX X (vC P) cc nL own rt rm) {w : Cond} (h : w ∈ nwC) : va_Nw w X.1.2.2.2.2 := (ro_z F).1 w h
theorem ro_rv (F : FX X (vC P) cc nL own rt rm) : ∀ (H : Heap) (locs : List Loc), va_P (vC P).1 vwCl ((vC P).2.2.2.1 u) H → va_S (vC P).2.2.1 X.1.2.2.2.2.heap H locs → ∃ cell : Cell, H[P.2.2.2.2 3]? = some cell ∧ cell.vm.isStatics = false ∧ X.1.2.2.2.2.vm.findClass "java/lang/String" = some cell.cls := fun H locs hP hS => by
  obtain ⟨cell, h1, h2, h3, -⟩ := (ro_z F).2.2.2.2.2.1.1.kept hS.2.1
  exact ⟨cell, h1, h2, h3⟩
end FL
end
