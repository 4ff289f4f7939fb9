theorem tw_0 : Cond.selects "OrchardWall" ⟨"OrchardWall", "found", "(I)I"⟩ ⟨"OrchardWall", "found", "(I)I"⟩ ∈ TB := tb_of 0 (by decide +kernel) (by decide +kernel)
theorem tw_1 : Cond.selects "OrchardWall" ⟨"OrchardWall", "well", "(I)I"⟩ ⟨"OrchardWall", "well", "(I)I"⟩ ∈ TB := tb_of 1 (by decide +kernel) (by decide +kernel)
theorem tw_34 : Cond.selects "OrchardWallModel" ⟨"OrchardWallModel", "finding", "(I)I"⟩ ⟨"OrchardWallModel", "finding", "(I)I"⟩ ∈ TB := tb_of 34 (by decide +kernel) (by decide +kernel)
theorem tw_80 : Cond.initialized "OrchardWall" ∈ TB := tb_of 80 (by decide +kernel) (by decide +kernel)
theorem tw_81 : Cond.initialized "OrchardWall$Rows" ∈ TB := tb_of 81 (by decide +kernel) (by decide +kernel)
theorem tw_82 : Cond.initialized "java/util/Arrays" ∈ TB := tb_of 82 (by decide +kernel) (by decide +kernel)
theorem tw_89 : Cond.initialized "OrchardWallModel" ∈ TB := tb_of 89 (by decide +kernel) (by decide +kernel)
theorem tw_90 : Cond.initialized "java/lang/System" ∈ TB := tb_of 90 (by decide +kernel) (by decide +kernel)
theorem tw_114 : Cond.methodLink "OrchardWall$Rows" (23 : Nat) ({ cls := "java/util/Arrays", name := "fill", desc := "([II)V" } : Jvm.MethodName) ∈ TB := tb_of 114 (by decide +kernel) (by decide +kernel)
theorem tw_115 : Cond.static ({ cls := "java/util/Arrays", name := "fill", desc := "([II)V" } : Jvm.MethodName) ∈ TB := tb_of 115 (by decide +kernel) (by decide +kernel)
theorem tw_116 : Cond.code ({ cls := "java/util/Arrays", name := "fill", desc := "([II)V" } : Jvm.MethodName) prog_18_method_103_code (4 : Nat) (Option.none : Option Jvm.ClassFile.FieldType) ∈ TB := tb_of 116 (by decide +kernel) (by decide +kernel)
theorem tw_117 : Cond.fieldLink "OrchardWall$Rows" (11 : Nat) "OrchardWall$Rows" "lanes" "[I" ∈ TB := tb_of 117 (by decide +kernel) (by decide +kernel)
theorem tw_118 : Cond.fieldLink "OrchardWall$Rows" (15 : Nat) "OrchardWall$Rows" "sizes" "[I" ∈ TB := tb_of 118 (by decide +kernel) (by decide +kernel)
theorem tw_119 : Cond.fieldLink "OrchardWall$Rows" (20 : Nat) "OrchardWall$Rows" "items" "[[I" ∈ TB := tb_of 119 (by decide +kernel) (by decide +kernel)
theorem tw_365 : Cond.fieldLink "OrchardWall" (12 : Nat) "OrchardWall" "rows" "LOrchardWall$Rows;" ∈ TB := tb_of 365 (by decide +kernel) (by decide +kernel)
theorem tw_378 : Cond.fieldLink "OrchardWall" (80 : Nat) "OrchardWall" "finding" "I" ∈ TB := tb_of 378 (by decide +kernel) (by decide +kernel)
theorem tw_412 : Cond.methodLink "OrchardWall" (83 : Nat) ({ cls := "OrchardWall$Rows", name := "isRow", desc := "(I)Z" } : Jvm.MethodName) ∈ TB := tb_of 412 (by decide +kernel) (by decide +kernel)
theorem tw_413 : Cond.static ({ cls := "OrchardWall$Rows", name := "isRow", desc := "(I)Z" } : Jvm.MethodName) ∈ TB := tb_of 413 (by decide +kernel) (by decide +kernel)
theorem tw_414 : Cond.code ({ cls := "OrchardWall$Rows", name := "isRow", desc := "(I)Z" } : Jvm.MethodName) prog_8_method_2_code (1 : Nat) (Option.some Jvm.ClassFile.FieldType.boolean) ∈ TB := tb_of 414 (by decide +kernel) (by decide +kernel)
theorem tw_415 : Cond.constant "OrchardWall" (87 : Nat) (-1000001 : Int32) ∈ TB := tb_of 415 (by decide +kernel) (by decide +kernel)
theorem tw_416 : Cond.methodLink "OrchardWall" (88 : Nat) ({ cls := "OrchardWall", name := "found", desc := "(I)I" } : Jvm.MethodName) ∈ TB := tb_of 416 (by decide +kernel) (by decide +kernel)
theorem tw_418 : Cond.instanceMethod ({ cls := "OrchardWall", name := "found", desc := "(I)I" } : Jvm.MethodName) ∈ TB := tb_of 418 (by decide +kernel) (by decide +kernel)
theorem tw_419 : Cond.code ({ cls := "OrchardWall", name := "found", desc := "(I)I" } : Jvm.MethodName) prog_1_method_38_code (2 : Nat) (Option.some Jvm.ClassFile.FieldType.int) ∈ TB := tb_of 419 (by decide +kernel) (by decide +kernel)
theorem tw_420 : Cond.constant "OrchardWall" (344 : Nat) (-1000010 : Int32) ∈ TB := tb_of 420 (by decide +kernel) (by decide +kernel)
theorem tw_421 : Cond.methodLink "OrchardWall" (92 : Nat) ({ cls := "OrchardWall$Rows", name := "make", desc := "(III)V" } : Jvm.MethodName) ∈ TB := tb_of 421 (by decide +kernel) (by decide +kernel)
theorem tw_422 : Cond.instanceMethod ({ cls := "OrchardWall$Rows", name := "make", desc := "(III)V" } : Jvm.MethodName) ∈ TB := tb_of 422 (by decide +kernel) (by decide +kernel)
theorem tw_423 : Cond.selects "OrchardWall$Rows" ({ cls := "OrchardWall$Rows", name := "make", desc := "(III)V" } : Jvm.MethodName) ({ cls := "OrchardWall$Rows", name := "make", desc := "(III)V" } : Jvm.MethodName) ∈ TB := tb_of 423 (by decide +kernel) (by decide +kernel)
theorem tw_424 : Cond.code ({ cls := "OrchardWall$Rows", name := "make", desc := "(III)V" } : Jvm.MethodName) prog_8_method_4_code (4 : Nat) (Option.none : Option Jvm.ClassFile.FieldType) ∈ TB := tb_of 424 (by decide +kernel) (by decide +kernel)
theorem tw_425 : Cond.methodLink "OrchardWall" (96 : Nat) ({ cls := "OrchardWall", name := "well", desc := "(I)I" } : Jvm.MethodName) ∈ TB := tb_of 425 (by decide +kernel) (by decide +kernel)
theorem tw_427 : Cond.instanceMethod ({ cls := "OrchardWall", name := "well", desc := "(I)I" } : Jvm.MethodName) ∈ TB := tb_of 427 (by decide +kernel) (by decide +kernel)
theorem tw_428 : Cond.code ({ cls := "OrchardWall", name := "well", desc := "(I)I" } : Jvm.MethodName) prog_1_method_39_code (2 : Nat) (Option.some Jvm.ClassFile.FieldType.int) ∈ TB := tb_of 428 (by decide +kernel) (by decide +kernel)
theorem tw_434 : Cond.instanceMethod ({ cls := "OrchardWall$Rows", name := "troubleWith", desc := "(III)I" } : Jvm.MethodName) ∈ TB := tb_of 434 (by decide +kernel) (by decide +kernel)
theorem tw_435 : Cond.selects "OrchardWall$Rows" ({ cls := "OrchardWall$Rows", name := "troubleWith", desc := "(III)I" } : Jvm.MethodName) ({ cls := "OrchardWall$Rows", name := "troubleWith", desc := "(III)I" } : Jvm.MethodName) ∈ TB := tb_of 435 (by decide +kernel) (by decide +kernel)
theorem tw_436 : Cond.code ({ cls := "OrchardWall$Rows", name := "troubleWith", desc := "(III)I" } : Jvm.MethodName) prog_8_method_6_code (4 : Nat) (Option.some Jvm.ClassFile.FieldType.int) ∈ TB := tb_of 436 (by decide +kernel) (by decide +kernel)
theorem tw_437 : Cond.methodLink "OrchardWall$Rows" (29 : Nat) ({ cls := "OrchardWall$Rows", name := "isMissing", desc := "(I)Z" } : Jvm.MethodName) ∈ TB := tb_of 437 (by decide +kernel) (by decide +kernel)
theorem tw_438 : Cond.instanceMethod ({ cls := "OrchardWall$Rows", name := "isMissing", desc := "(I)Z" } : Jvm.MethodName) ∈ TB := tb_of 438 (by decide +kernel) (by decide +kernel)
theorem tw_439 : Cond.selects "OrchardWall$Rows" ({ cls := "OrchardWall$Rows", name := "isMissing", desc := "(I)Z" } : Jvm.MethodName) ({ cls := "OrchardWall$Rows", name := "isMissing", desc := "(I)Z" } : Jvm.MethodName) ∈ TB := tb_of 439 (by decide +kernel) (by decide +kernel)
theorem tw_440 : Cond.code ({ cls := "OrchardWall$Rows", name := "isMissing", desc := "(I)Z" } : Jvm.MethodName) prog_8_method_3_code (2 : Nat) (Option.some Jvm.ClassFile.FieldType.boolean) ∈ TB := tb_of 440 (by decide +kernel) (by decide +kernel)
theorem tw_449 : Cond.methodLink "OrchardWall" (106 : Nat) ({ cls := "OrchardWall$Rows", name := "troubleBetween", desc := "(IIIII)I" } : Jvm.MethodName) ∈ TB := tb_of 449 (by decide +kernel) (by decide +kernel)
theorem tw_450 : Cond.instanceMethod ({ cls := "OrchardWall$Rows", name := "troubleBetween", desc := "(IIIII)I" } : Jvm.MethodName) ∈ TB := tb_of 450 (by decide +kernel) (by decide +kernel)
theorem tw_451 : Cond.selects "OrchardWall$Rows" ({ cls := "OrchardWall$Rows", name := "troubleBetween", desc := "(IIIII)I" } : Jvm.MethodName) ({ cls := "OrchardWall$Rows", name := "troubleBetween", desc := "(IIIII)I" } : Jvm.MethodName) ∈ TB := tb_of 451 (by decide +kernel) (by decide +kernel)
theorem tw_452 : Cond.code ({ cls := "OrchardWall$Rows", name := "troubleBetween", desc := "(IIIII)I" } : Jvm.MethodName) prog_8_method_7_code (7 : Nat) (Option.some Jvm.ClassFile.FieldType.int) ∈ TB := tb_of 452 (by decide +kernel) (by decide +kernel)
theorem tw_453 : Cond.methodLink "OrchardWall$Rows" (33 : Nat) ({ cls := "OrchardWall$Rows", name := "troubleWith", desc := "(III)I" } : Jvm.MethodName) ∈ TB := tb_of 453 (by decide +kernel) (by decide +kernel)
theorem tw_454 : Cond.methodLink "OrchardWall" (110 : Nat) ({ cls := "OrchardWall$Rows", name := "move", desc := "(IIIII)V" } : Jvm.MethodName) ∈ TB := tb_of 454 (by decide +kernel) (by decide +kernel)
theorem tw_455 : Cond.instanceMethod ({ cls := "OrchardWall$Rows", name := "move", desc := "(IIIII)V" } : Jvm.MethodName) ∈ TB := tb_of 455 (by decide +kernel) (by decide +kernel)
theorem tw_456 : Cond.selects "OrchardWall$Rows" ({ cls := "OrchardWall$Rows", name := "move", desc := "(IIIII)V" } : Jvm.MethodName) ({ cls := "OrchardWall$Rows", name := "move", desc := "(IIIII)V" } : Jvm.MethodName) ∈ TB := tb_of 456 (by decide +kernel) (by decide +kernel)
theorem tw_457 : Cond.code ({ cls := "OrchardWall$Rows", name := "move", desc := "(IIIII)V" } : Jvm.MethodName) prog_8_method_8_code (6 : Nat) (Option.none : Option Jvm.ClassFile.FieldType) ∈ TB := tb_of 457 (by decide +kernel) (by decide +kernel)
theorem tw_458 : Cond.methodLink "OrchardWall$Rows" (37 : Nat) ({ cls := "java/lang/System", name := "arraycopy", desc := "(Ljava/lang/Object;ILjava/lang/Object;II)V" } : Jvm.MethodName) ∈ TB := tb_of 458 (by decide +kernel) (by decide +kernel)
theorem tw_459 : Cond.static ({ cls := "java/lang/System", name := "arraycopy", desc := "(Ljava/lang/Object;ILjava/lang/Object;II)V" } : Jvm.MethodName) ∈ TB := tb_of 459 (by decide +kernel) (by decide +kernel)
theorem tw_460 : Cond.native ({ cls := "java/lang/System", name := "arraycopy", desc := "(Ljava/lang/Object;ILjava/lang/Object;II)V" } : Jvm.MethodName) ∈ TB := tb_of 460 (by decide +kernel) (by decide +kernel)
theorem tw_1026 : Cond.fieldLink "OrchardWallModel" (79 : Nat) "OrchardWallModel" "thrown" "I" ∈ TB := tb_of 1026 (by decide +kernel) (by decide +kernel)
theorem tw_1027 : Cond.fieldLink "OrchardWallModel" (82 : Nat) "OrchardWallModel" "status" "I" ∈ TB := tb_of 1027 (by decide +kernel) (by decide +kernel)
theorem tw_1028 : Cond.fieldLink "OrchardWallModel" (7 : Nat) "OrchardWallModel" "lane" "[I" ∈ TB := tb_of 1028 (by decide +kernel) (by decide +kernel)
theorem tw_1029 : Cond.fieldLink "OrchardWallModel" (13 : Nat) "OrchardWallModel" "many" "[I" ∈ TB := tb_of 1029 (by decide +kernel) (by decide +kernel)
theorem tw_1030 : Cond.fieldLink "OrchardWallModel" (16 : Nat) "OrchardWallModel" "item" "[I" ∈ TB := tb_of 1030 (by decide +kernel) (by decide +kernel)
theorem tw_1155 : Cond.methodLink "OrchardWallModel" (92 : Nat) ({ cls := "OrchardWallModel", name := "isRow", desc := "(I)Z" } : Jvm.MethodName) ∈ TB := tb_of 1155 (by decide +kernel) (by decide +kernel)
theorem tw_1156 : Cond.static ({ cls := "OrchardWallModel", name := "isRow", desc := "(I)Z" } : Jvm.MethodName) ∈ TB := tb_of 1156 (by decide +kernel) (by decide +kernel)
theorem tw_1157 : Cond.code ({ cls := "OrchardWallModel", name := "isRow", desc := "(I)Z" } : Jvm.MethodName) prog_10_method_5_code (1 : Nat) (Option.some Jvm.ClassFile.FieldType.boolean) ∈ TB := tb_of 1157 (by decide +kernel) (by decide +kernel)
theorem tw_1158 : Cond.constantLong "OrchardWallModel" (86 : Nat) (7 : Int64) ∈ TB := tb_of 1158 (by decide +kernel) (by decide +kernel)
theorem tw_1159 : Cond.methodLink "OrchardWallModel" (88 : Nat) ({ cls := "OrchardWallModel", name := "in", desc := "(JJJ)Z" } : Jvm.MethodName) ∈ TB := tb_of 1159 (by decide +kernel) (by decide +kernel)
theorem tw_1160 : Cond.static ({ cls := "OrchardWallModel", name := "in", desc := "(JJJ)Z" } : Jvm.MethodName) ∈ TB := tb_of 1160 (by decide +kernel) (by decide +kernel)
theorem tw_1161 : Cond.code ({ cls := "OrchardWallModel", name := "in", desc := "(JJJ)Z" } : Jvm.MethodName) prog_10_method_3_code (6 : Nat) (Option.some Jvm.ClassFile.FieldType.boolean) ∈ TB := tb_of 1161 (by decide +kernel) (by decide +kernel)
theorem tw_1162 : Cond.constantLong "OrchardWallModel" (96 : Nat) (2 : Int64) ∈ TB := tb_of 1162 (by decide +kernel) (by decide +kernel)
theorem tw_1163 : Cond.constant "OrchardWallModel" (98 : Nat) (-1000001 : Int32) ∈ TB := tb_of 1163 (by decide +kernel) (by decide +kernel)
theorem tw_1164 : Cond.methodLink "OrchardWallModel" (99 : Nat) ({ cls := "OrchardWallModel", name := "finding", desc := "(I)I" } : Jvm.MethodName) ∈ TB := tb_of 1164 (by decide +kernel) (by decide +kernel)
theorem tw_1166 : Cond.instanceMethod ({ cls := "OrchardWallModel", name := "finding", desc := "(I)I" } : Jvm.MethodName) ∈ TB := tb_of 1166 (by decide +kernel) (by decide +kernel)
theorem tw_1167 : Cond.code ({ cls := "OrchardWallModel", name := "finding", desc := "(I)I" } : Jvm.MethodName) prog_10_method_4_code (2 : Nat) (Option.some Jvm.ClassFile.FieldType.int) ∈ TB := tb_of 1167 (by decide +kernel) (by decide +kernel)
theorem tw_1168 : Cond.constant "OrchardWallModel" (85 : Nat) (-1000010 : Int32) ∈ TB := tb_of 1168 (by decide +kernel) (by decide +kernel)
theorem nw_130 : Cond.methodLinkNest "OrchardWall" (18 : Nat) ({ cls := "OrchardWall$Reader", name := "<init>", desc := "()V" } : Jvm.MethodName) "OrchardWall" ∈ nwC := List.mem_of_getElem? (i := 0) rfl
theorem nw_160 : Cond.methodLinkNest "OrchardWall" (25 : Nat) ({ cls := "OrchardWall$Orchard", name := "<init>", desc := "()V" } : Jvm.MethodName) "OrchardWall" ∈ nwC := List.mem_of_getElem? (i := 1) rfl
theorem nw_245 : Cond.methodLinkNest "OrchardWall" (41 : Nat) ({ cls := "OrchardWall$Acts", name := "<init>", desc := "()V" } : Jvm.MethodName) "OrchardWall" ∈ nwC := List.mem_of_getElem? (i := 2) rfl
theorem nw_327 : Cond.methodLinkNest "OrchardWall" (57 : Nat) ({ cls := "OrchardWall$Book", name := "<init>", desc := "()V" } : Jvm.MethodName) "OrchardWall" ∈ nwC := List.mem_of_getElem? (i := 3) rfl
theorem nw_344 : Cond.methodLinkNest "OrchardWall" (64 : Nat) ({ cls := "OrchardWall$Days", name := "<init>", desc := "()V" } : Jvm.MethodName) "OrchardWall" ∈ nwC := List.mem_of_getElem? (i := 4) rfl
theorem nw_531 : Cond.methodLinkNest "OrchardWall$Orchard" (75 : Nat) ({ cls := "OrchardWall", name := "distance", desc := "(II)I" } : Jvm.MethodName) "OrchardWall" ∈ nwC := List.mem_of_getElem? (i := 5) rfl
theorem nw_744 : Cond.methodLinkNest "OrchardWall$Raid" (123 : Nat) ({ cls := "OrchardWall", name := "distance", desc := "(II)I" } : Jvm.MethodName) "OrchardWall" ∈ nwC := List.mem_of_getElem? (i := 6) rfl
theorem nw_895 : Cond.methodLinkNest "OrchardWall$Days" (40 : Nat) ({ cls := "OrchardWall", name := "commonPart", desc := "(JJ)J" } : Jvm.MethodName) "OrchardWall" ∈ nwC := List.mem_of_getElem? (i := 7) rfl
theorem kw_S_X8in_OrchardWallModel_88 : KS "OrchardWallModel" 88 yX8_in cX8_in 6 (some .boolean) 3 := ⟨tw_1159, tw_1160, tw_89, tw_1161, ⟨by decide, by decide, by decide +kernel⟩⟩
theorem kw_S_X8isRow_OrchardWallModel_92 : KS "OrchardWallModel" 92 yX8_isRow cX8_isRow 1 (some .boolean) 1 := ⟨tw_1155, tw_1156, tw_89, tw_1157, ⟨by decide, by decide, by decide +kernel⟩⟩
theorem kw_V_X8finding_OrchardWallModel_99 : KV "OrchardWallModel" 99 "OrchardWallModel" yX8_finding cX8_finding 2 (some .int) 1 := ⟨tw_1164, tw_1166, tw_34, tw_89, tw_1167, ⟨by decide, by decide, by decide +kernel⟩⟩
theorem kw_S_X6isRow_OrchardWall_83 : KS "OrchardWall" 83 yX6_isRow cX6_isRow 1 (some .boolean) 1 := ⟨tw_412, tw_413, tw_81, tw_414, ⟨by decide, by decide, by decide +kernel⟩⟩
theorem kw_S_J7fill53178_OrchardWallRows_23 : KS "OrchardWall$Rows" 23 yJ7_fill_53178 cJ7_fill_53178 4 none 2 := ⟨tw_114, tw_115, tw_82, tw_116, ⟨by decide, by decide, by decide +kernel⟩⟩
theorem kw_V_X6make_OrchardWall_92 : KV "OrchardWall" 92 "OrchardWall$Rows" yX6_make cX6_make 4 none 3 := ⟨tw_421, tw_422, tw_423, tw_81, tw_424, ⟨by decide, by decide, by decide +kernel⟩⟩
theorem kw_V_X7well_OrchardWall_96 : KV "OrchardWall" 96 "OrchardWall" yX7_well cX7_well 2 (some .int) 1 := ⟨tw_425, tw_427, tw_1, tw_80, tw_428, ⟨by decide, by decide, by decide +kernel⟩⟩
theorem kw_V_X7found_OrchardWall_88 : KV "OrchardWall" 88 "OrchardWall" yX7_found cX7_found 2 (some .int) 1 := ⟨tw_416, tw_418, tw_0, tw_80, tw_419, ⟨by decide, by decide, by decide +kernel⟩⟩
theorem kw_V_X6isMissing_OrchardWallRows_29 : KV "OrchardWall$Rows" 29 "OrchardWall$Rows" yX6_isMissing cX6_isMissing 2 (some .boolean) 1 := ⟨tw_437, tw_438, tw_439, tw_81, tw_440, ⟨by decide, by decide, by decide +kernel⟩⟩
theorem kw_V_X6troubleWith_OrchardWallRows_33 : KV "OrchardWall$Rows" 33 "OrchardWall$Rows" yX6_troubleWith cX6_troubleWith 4 (some .int) 3 := ⟨tw_453, tw_434, tw_435, tw_81, tw_436, ⟨by decide, by decide, by decide +kernel⟩⟩
theorem kw_V_X6troubleBetween_OrchardWall_106 : KV "OrchardWall" 106 "OrchardWall$Rows" yX6_troubleBetween cX6_troubleBetween 7 (some .int) 5 := ⟨tw_449, tw_450, tw_451, tw_81, tw_452, ⟨by decide, by decide, by decide +kernel⟩⟩
theorem bw_cp_OrchardWallRows_37 : Cond.methodLink "OrchardWall$Rows" 37 arraycopyName ∈ TB ∧ Cond.native arraycopyName ∈ TB ∧ Cond.static arraycopyName ∈ TB ∧ Cond.initialized "java/lang/System" ∈ TB := ⟨tw_458, tw_460, tw_459, tw_90⟩
theorem kw_V_X6move_OrchardWall_110 : KV "OrchardWall" 110 "OrchardWall$Rows" yX6_move cX6_move 6 none 5 := ⟨tw_454, tw_455, tw_456, tw_81, tw_457, ⟨by decide, by decide, by decide +kernel⟩⟩
