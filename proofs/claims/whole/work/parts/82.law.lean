/-! The law: its loop as a program, and its run. -/
theorem wd_57 : (Jvm.Cond.classLink "OneBitLoopLaw" (7 : Nat) "OneBitLoop") ∈ lw_g := lw_g_mem (List.mem_of_getElem? (i := 57) (by decide +kernel)) (by decide +kernel)
theorem wd_58 : (Jvm.Cond.instantiable "OneBitLoop" (10 : Nat)) ∈ lw_g := lw_g_mem (List.mem_of_getElem? (i := 58) (by decide +kernel)) (by decide +kernel)
theorem wd_59 : (Jvm.Cond.methodLink "OneBitLoopLaw" (9 : Nat) ({ cls := "OneBitLoop", name := "<init>", desc := "()V" } : Jvm.MethodName)) ∈ lw_g := lw_g_mem (List.mem_of_getElem? (i := 59) (by decide +kernel)) (by decide +kernel)
theorem wd_349 : (Jvm.Cond.methodLink "OneBitLoopLaw" (13 : Nat) ({ cls := "OneBitLoop", name := "reel", desc := "(III)I" } : Jvm.MethodName)) ∈ lw_g := lw_g_mem (List.mem_of_getElem? (i := 349) (by decide +kernel)) (by decide +kernel)
theorem wd_370 : (Jvm.Cond.methodLink "OneBitLoopLaw" (18 : Nat) ({ cls := "OneBitLoop", name := "lose", desc := "(I)I" } : Jvm.MethodName)) ∈ lw_g := lw_g_mem (List.mem_of_getElem? (i := 370) (by decide +kernel)) (by decide +kernel)
theorem wd_374 : (Jvm.Cond.methodLink "OneBitLoopLaw" (25 : Nat) ({ cls := "OneBitLoop", name := "put", desc := "(IIIJ)I" } : Jvm.MethodName)) ∈ lw_g := lw_g_mem (List.mem_of_getElem? (i := 374) (by decide +kernel)) (by decide +kernel)
theorem wd_398 : (Jvm.Cond.methodLink "OneBitLoopLaw" (30 : Nat) ({ cls := "OneBitLoop", name := "get", desc := "(III)J" } : Jvm.MethodName)) ∈ lw_g := lw_g_mem (List.mem_of_getElem? (i := 398) (by decide +kernel)) (by decide +kernel)
theorem wd_402 : (Jvm.Cond.methodLink "OneBitLoopLaw" (35 : Nat) ({ cls := "OneBitLoop", name := "copy", desc := "(IIIII)I" } : Jvm.MethodName)) ∈ lw_g := lw_g_mem (List.mem_of_getElem? (i := 402) (by decide +kernel)) (by decide +kernel)
theorem wd_413 : (Jvm.Cond.methodLink "OneBitLoopLaw" (40 : Nat) ({ cls := "OneBitLoop", name := "sample", desc := "(II)J" } : Jvm.MethodName)) ∈ lw_g := lw_g_mem (List.mem_of_getElem? (i := 413) (by decide +kernel)) (by decide +kernel)
theorem wd_448 : (Jvm.Cond.methodLink "OneBitLoopLaw" (45 : Nat) ({ cls := "OneBitLoop", name := "stage", desc := "(IJI)I" } : Jvm.MethodName)) ∈ lw_g := lw_g_mem (List.mem_of_getElem? (i := 448) (by decide +kernel)) (by decide +kernel)
theorem wd_461 : (Jvm.Cond.methodLink "OneBitLoopLaw" (50 : Nat) ({ cls := "OneBitLoop", name := "levels", desc := "(IJJ)I" } : Jvm.MethodName)) ∈ lw_g := lw_g_mem (List.mem_of_getElem? (i := 461) (by decide +kernel)) (by decide +kernel)
theorem wd_473 : (Jvm.Cond.methodLink "OneBitLoopLaw" (55 : Nat) ({ cls := "OneBitLoop", name := "level", desc := "(IJ)I" } : Jvm.MethodName)) ∈ lw_g := lw_g_mem (List.mem_of_getElem? (i := 473) (by decide +kernel)) (by decide +kernel)
theorem wd_485 : (Jvm.Cond.methodLink "OneBitLoopLaw" (60 : Nat) ({ cls := "OneBitLoop", name := "lot", desc := "(IJ)I" } : Jvm.MethodName)) ∈ lw_g := lw_g_mem (List.mem_of_getElem? (i := 485) (by decide +kernel)) (by decide +kernel)
theorem wd_490 : (Jvm.Cond.methodLink "OneBitLoopLaw" (64 : Nat) ({ cls := "OneBitLoop", name := "step", desc := "(J)I" } : Jvm.MethodName)) ∈ lw_g := lw_g_mem (List.mem_of_getElem? (i := 490) (by decide +kernel)) (by decide +kernel)
theorem wd_557 : (Jvm.Cond.methodLink "OneBitLoopLaw" (69 : Nat) ({ cls := "OneBitLoop", name := "run", desc := "(III)I" } : Jvm.MethodName)) ∈ lw_g := lw_g_mem (List.mem_of_getElem? (i := 557) (by decide +kernel)) (by decide +kernel)
theorem wd_561 : (Jvm.Cond.methodLink "OneBitLoopLaw" (73 : Nat) ({ cls := "OneBitLoop", name := "undo", desc := "(I)I" } : Jvm.MethodName)) ∈ lw_g := lw_g_mem (List.mem_of_getElem? (i := 561) (by decide +kernel)) (by decide +kernel)
theorem wd_570 : (Jvm.Cond.methodLink "OneBitLoopLaw" (77 : Nat) ({ cls := "OneBitLoop", name := "clear", desc := "()I" } : Jvm.MethodName)) ∈ lw_g := lw_g_mem (List.mem_of_getElem? (i := 570) (by decide +kernel)) (by decide +kernel)
theorem wd_574 : (Jvm.Cond.methodLink "OneBitLoopLaw" (82 : Nat) ({ cls := "OneBitLoop", name := "stageAt", desc := "(II)J" } : Jvm.MethodName)) ∈ lw_g := lw_g_mem (List.mem_of_getElem? (i := 574) (by decide +kernel)) (by decide +kernel)
theorem wd_583 : (Jvm.Cond.methodLink "OneBitLoopLaw" (86 : Nat) ({ cls := "OneBitLoop", name := "levelAt", desc := "(I)J" } : Jvm.MethodName)) ∈ lw_g := lw_g_mem (List.mem_of_getElem? (i := 583) (by decide +kernel)) (by decide +kernel)
theorem wd_587 : (Jvm.Cond.methodLink "OneBitLoopLaw" (91 : Nat) ({ cls := "OneBitLoop", name := "record", desc := "(II)J" } : Jvm.MethodName)) ∈ lw_g := lw_g_mem (List.mem_of_getElem? (i := 587) (by decide +kernel)) (by decide +kernel)
theorem wd_599 : (Jvm.Cond.methodLink "OneBitLoopLaw" (95 : Nat) ({ cls := "OneBitLoop", name := "forge", desc := "(IIJ)I" } : Jvm.MethodName)) ∈ lw_g := lw_g_mem (List.mem_of_getElem? (i := 599) (by decide +kernel)) (by decide +kernel)
theorem wd_603 : (Jvm.Cond.methodLink "OneBitLoopLaw" (100 : Nat) ({ cls := "OneBitLoop", name := "check", desc := "()I" } : Jvm.MethodName)) ∈ lw_g := lw_g_mem (List.mem_of_getElem? (i := 603) (by decide +kernel)) (by decide +kernel)
theorem wd_615 : (Jvm.Cond.methodLink "OneBitLoopLaw" (104 : Nat) ({ cls := "OneBitLoop", name := "read", desc := "(I)J" } : Jvm.MethodName)) ∈ lw_g := lw_g_mem (List.mem_of_getElem? (i := 615) (by decide +kernel)) (by decide +kernel)
theorem wd_620 : (Jvm.Cond.methodLink "OneBitLoopLaw" (108 : Nat) ({ cls := "OneBitLoop", name := "weight", desc := "(II)I" } : Jvm.MethodName)) ∈ lw_g := lw_g_mem (List.mem_of_getElem? (i := 620) (by decide +kernel)) (by decide +kernel)
theorem wd_625 : (Jvm.Cond.methodLink "OneBitLoopLaw" (113 : Nat) ({ cls := "OneBitLoop", name := "sums", desc := "(II)J" } : Jvm.MethodName)) ∈ lw_g := lw_g_mem (List.mem_of_getElem? (i := 625) (by decide +kernel)) (by decide +kernel)
theorem wd_633 : (Jvm.Cond.methodLink "OneBitLoopLaw" (117 : Nat) ({ cls := "OneBitLoop", name := "trace", desc := "(I)I" } : Jvm.MethodName)) ∈ lw_g := lw_g_mem (List.mem_of_getElem? (i := 633) (by decide +kernel)) (by decide +kernel)
theorem wd_637 : (Jvm.Cond.methodLink "OneBitLoopLaw" (121 : Nat) ({ cls := "OneBitLoop", name := "hold", desc := "(JI)I" } : Jvm.MethodName)) ∈ lw_g := lw_g_mem (List.mem_of_getElem? (i := 637) (by decide +kernel)) (by decide +kernel)
theorem wd_676 : (Jvm.Cond.methodLink "OneBitLoopLaw" (126 : Nat) ({ cls := "OneBitLoop", name := "held", desc := "(I)J" } : Jvm.MethodName)) ∈ lw_g := lw_g_mem (List.mem_of_getElem? (i := 676) (by decide +kernel)) (by decide +kernel)
theorem wd_680 : (Jvm.Cond.methodLink "OneBitLoopLaw" (130 : Nat) ({ cls := "OneBitLoop", name := "reach", desc := "(JJJ)I" } : Jvm.MethodName)) ∈ lw_g := lw_g_mem (List.mem_of_getElem? (i := 680) (by decide +kernel)) (by decide +kernel)
theorem wd_713 : (Jvm.Cond.methodLink "OneBitLoopLaw" (135 : Nat) ({ cls := "OneBitLoop", name := "leaving", desc := "(I)J" } : Jvm.MethodName)) ∈ lw_g := lw_g_mem (List.mem_of_getElem? (i := 713) (by decide +kernel)) (by decide +kernel)
theorem wd_717 : (Jvm.Cond.methodLink "OneBitLoopLaw" (139 : Nat) ({ cls := "OneBitLoop", name := "worst", desc := "(IJJ)J" } : Jvm.MethodName)) ∈ lw_g := lw_g_mem (List.mem_of_getElem? (i := 717) (by decide +kernel)) (by decide +kernel)
theorem wd_741 : (Jvm.Cond.methodLink "OneBitLoopLaw" (144 : Nat) ({ cls := "OneBitLoop", name := "worstAt", desc := "(I)J" } : Jvm.MethodName)) ∈ lw_g := lw_g_mem (List.mem_of_getElem? (i := 741) (by decide +kernel)) (by decide +kernel)
theorem wd_749 : (Jvm.Cond.methodLink "OneBitLoopLaw" (148 : Nat) ({ cls := "OneBitLoop", name := "count", desc := "(I)I" } : Jvm.MethodName)) ∈ lw_g := lw_g_mem (List.mem_of_getElem? (i := 749) (by decide +kernel)) (by decide +kernel)
theorem wd_753 : (Jvm.Cond.methodLink "OneBitLoopLaw" (152 : Nat) ({ cls := "OneBitLoop", name := "digest", desc := "()J" } : Jvm.MethodName)) ∈ lw_g := lw_g_mem (List.mem_of_getElem? (i := 753) (by decide +kernel)) (by decide +kernel)
theorem wd_759 : (Jvm.Cond.classLink "OneBitLoopLaw" (10 : Nat) "OneBitLoopModel") ∈ lw_g := lw_g_mem (List.mem_of_getElem? (i := 759) (by decide +kernel)) (by decide +kernel)
theorem wd_760 : (Jvm.Cond.instantiable "OneBitLoopModel" (40 : Nat)) ∈ lw_g := lw_g_mem (List.mem_of_getElem? (i := 760) (by decide +kernel)) (by decide +kernel)
theorem wd_761 : (Jvm.Cond.methodLink "OneBitLoopLaw" (12 : Nat) ({ cls := "OneBitLoopModel", name := "<init>", desc := "()V" } : Jvm.MethodName)) ∈ lw_g := lw_g_mem (List.mem_of_getElem? (i := 761) (by decide +kernel)) (by decide +kernel)
theorem wd_888 : (Jvm.Cond.methodLink "OneBitLoopLaw" (17 : Nat) ({ cls := "OneBitLoopModel", name := "reel", desc := "(III)I" } : Jvm.MethodName)) ∈ lw_g := lw_g_mem (List.mem_of_getElem? (i := 888) (by decide +kernel)) (by decide +kernel)
theorem wd_903 : (Jvm.Cond.methodLink "OneBitLoopLaw" (22 : Nat) ({ cls := "OneBitLoopModel", name := "lose", desc := "(I)I" } : Jvm.MethodName)) ∈ lw_g := lw_g_mem (List.mem_of_getElem? (i := 903) (by decide +kernel)) (by decide +kernel)
theorem wd_907 : (Jvm.Cond.methodLink "OneBitLoopLaw" (29 : Nat) ({ cls := "OneBitLoopModel", name := "put", desc := "(IIIJ)I" } : Jvm.MethodName)) ∈ lw_g := lw_g_mem (List.mem_of_getElem? (i := 907) (by decide +kernel)) (by decide +kernel)
theorem wd_924 : (Jvm.Cond.methodLink "OneBitLoopLaw" (34 : Nat) ({ cls := "OneBitLoopModel", name := "get", desc := "(III)J" } : Jvm.MethodName)) ∈ lw_g := lw_g_mem (List.mem_of_getElem? (i := 924) (by decide +kernel)) (by decide +kernel)
theorem wd_928 : (Jvm.Cond.methodLink "OneBitLoopLaw" (39 : Nat) ({ cls := "OneBitLoopModel", name := "copy", desc := "(IIIII)I" } : Jvm.MethodName)) ∈ lw_g := lw_g_mem (List.mem_of_getElem? (i := 928) (by decide +kernel)) (by decide +kernel)
theorem wd_932 : (Jvm.Cond.methodLink "OneBitLoopLaw" (44 : Nat) ({ cls := "OneBitLoopModel", name := "sample", desc := "(II)J" } : Jvm.MethodName)) ∈ lw_g := lw_g_mem (List.mem_of_getElem? (i := 932) (by decide +kernel)) (by decide +kernel)
theorem wd_949 : (Jvm.Cond.methodLink "OneBitLoopLaw" (49 : Nat) ({ cls := "OneBitLoopModel", name := "stage", desc := "(IJI)I" } : Jvm.MethodName)) ∈ lw_g := lw_g_mem (List.mem_of_getElem? (i := 949) (by decide +kernel)) (by decide +kernel)
theorem wd_957 : (Jvm.Cond.methodLink "OneBitLoopLaw" (54 : Nat) ({ cls := "OneBitLoopModel", name := "levels", desc := "(IJJ)I" } : Jvm.MethodName)) ∈ lw_g := lw_g_mem (List.mem_of_getElem? (i := 957) (by decide +kernel)) (by decide +kernel)
theorem wd_967 : (Jvm.Cond.methodLink "OneBitLoopLaw" (59 : Nat) ({ cls := "OneBitLoopModel", name := "level", desc := "(IJ)I" } : Jvm.MethodName)) ∈ lw_g := lw_g_mem (List.mem_of_getElem? (i := 967) (by decide +kernel)) (by decide +kernel)
theorem wd_971 : (Jvm.Cond.methodLink "OneBitLoopLaw" (63 : Nat) ({ cls := "OneBitLoopModel", name := "lot", desc := "(IJ)I" } : Jvm.MethodName)) ∈ lw_g := lw_g_mem (List.mem_of_getElem? (i := 971) (by decide +kernel)) (by decide +kernel)
theorem wd_975 : (Jvm.Cond.methodLink "OneBitLoopLaw" (68 : Nat) ({ cls := "OneBitLoopModel", name := "step", desc := "(J)I" } : Jvm.MethodName)) ∈ lw_g := lw_g_mem (List.mem_of_getElem? (i := 975) (by decide +kernel)) (by decide +kernel)
theorem wd_1023 : (Jvm.Cond.methodLink "OneBitLoopLaw" (72 : Nat) ({ cls := "OneBitLoopModel", name := "run", desc := "(III)I" } : Jvm.MethodName)) ∈ lw_g := lw_g_mem (List.mem_of_getElem? (i := 1023) (by decide +kernel)) (by decide +kernel)
theorem wd_1028 : (Jvm.Cond.methodLink "OneBitLoopLaw" (76 : Nat) ({ cls := "OneBitLoopModel", name := "undo", desc := "(I)I" } : Jvm.MethodName)) ∈ lw_g := lw_g_mem (List.mem_of_getElem? (i := 1028) (by decide +kernel)) (by decide +kernel)
theorem wd_1036 : (Jvm.Cond.methodLink "OneBitLoopLaw" (81 : Nat) ({ cls := "OneBitLoopModel", name := "clear", desc := "()I" } : Jvm.MethodName)) ∈ lw_g := lw_g_mem (List.mem_of_getElem? (i := 1036) (by decide +kernel)) (by decide +kernel)
theorem wd_1040 : (Jvm.Cond.methodLink "OneBitLoopLaw" (85 : Nat) ({ cls := "OneBitLoopModel", name := "stageAt", desc := "(II)J" } : Jvm.MethodName)) ∈ lw_g := lw_g_mem (List.mem_of_getElem? (i := 1040) (by decide +kernel)) (by decide +kernel)
theorem wd_1046 : (Jvm.Cond.methodLink "OneBitLoopLaw" (90 : Nat) ({ cls := "OneBitLoopModel", name := "levelAt", desc := "(I)J" } : Jvm.MethodName)) ∈ lw_g := lw_g_mem (List.mem_of_getElem? (i := 1046) (by decide +kernel)) (by decide +kernel)
theorem wd_1050 : (Jvm.Cond.methodLink "OneBitLoopLaw" (94 : Nat) ({ cls := "OneBitLoopModel", name := "record", desc := "(II)J" } : Jvm.MethodName)) ∈ lw_g := lw_g_mem (List.mem_of_getElem? (i := 1050) (by decide +kernel)) (by decide +kernel)
theorem wd_1058 : (Jvm.Cond.methodLink "OneBitLoopLaw" (99 : Nat) ({ cls := "OneBitLoopModel", name := "forge", desc := "(IIJ)I" } : Jvm.MethodName)) ∈ lw_g := lw_g_mem (List.mem_of_getElem? (i := 1058) (by decide +kernel)) (by decide +kernel)
theorem wd_1062 : (Jvm.Cond.methodLink "OneBitLoopLaw" (103 : Nat) ({ cls := "OneBitLoopModel", name := "check", desc := "()I" } : Jvm.MethodName)) ∈ lw_g := lw_g_mem (List.mem_of_getElem? (i := 1062) (by decide +kernel)) (by decide +kernel)
theorem wd_1066 : (Jvm.Cond.methodLink "OneBitLoopLaw" (107 : Nat) ({ cls := "OneBitLoopModel", name := "read", desc := "(I)J" } : Jvm.MethodName)) ∈ lw_g := lw_g_mem (List.mem_of_getElem? (i := 1066) (by decide +kernel)) (by decide +kernel)
theorem wd_1070 : (Jvm.Cond.methodLink "OneBitLoopLaw" (112 : Nat) ({ cls := "OneBitLoopModel", name := "weight", desc := "(II)I" } : Jvm.MethodName)) ∈ lw_g := lw_g_mem (List.mem_of_getElem? (i := 1070) (by decide +kernel)) (by decide +kernel)
theorem wd_1076 : (Jvm.Cond.methodLink "OneBitLoopLaw" (116 : Nat) ({ cls := "OneBitLoopModel", name := "sums", desc := "(II)J" } : Jvm.MethodName)) ∈ lw_g := lw_g_mem (List.mem_of_getElem? (i := 1076) (by decide +kernel)) (by decide +kernel)
theorem wd_1081 : (Jvm.Cond.methodLink "OneBitLoopLaw" (120 : Nat) ({ cls := "OneBitLoopModel", name := "trace", desc := "(I)I" } : Jvm.MethodName)) ∈ lw_g := lw_g_mem (List.mem_of_getElem? (i := 1081) (by decide +kernel)) (by decide +kernel)
theorem wd_1085 : (Jvm.Cond.methodLink "OneBitLoopLaw" (125 : Nat) ({ cls := "OneBitLoopModel", name := "hold", desc := "(JI)I" } : Jvm.MethodName)) ∈ lw_g := lw_g_mem (List.mem_of_getElem? (i := 1085) (by decide +kernel)) (by decide +kernel)
theorem wd_1098 : (Jvm.Cond.methodLink "OneBitLoopLaw" (129 : Nat) ({ cls := "OneBitLoopModel", name := "held", desc := "(I)J" } : Jvm.MethodName)) ∈ lw_g := lw_g_mem (List.mem_of_getElem? (i := 1098) (by decide +kernel)) (by decide +kernel)
theorem wd_1102 : (Jvm.Cond.methodLink "OneBitLoopLaw" (134 : Nat) ({ cls := "OneBitLoopModel", name := "reach", desc := "(JJJ)I" } : Jvm.MethodName)) ∈ lw_g := lw_g_mem (List.mem_of_getElem? (i := 1102) (by decide +kernel)) (by decide +kernel)
theorem wd_1114 : (Jvm.Cond.methodLink "OneBitLoopLaw" (138 : Nat) ({ cls := "OneBitLoopModel", name := "leaving", desc := "(I)J" } : Jvm.MethodName)) ∈ lw_g := lw_g_mem (List.mem_of_getElem? (i := 1114) (by decide +kernel)) (by decide +kernel)
theorem wd_1118 : (Jvm.Cond.methodLink "OneBitLoopLaw" (143 : Nat) ({ cls := "OneBitLoopModel", name := "worst", desc := "(IJJ)J" } : Jvm.MethodName)) ∈ lw_g := lw_g_mem (List.mem_of_getElem? (i := 1118) (by decide +kernel)) (by decide +kernel)
theorem wd_1127 : (Jvm.Cond.methodLink "OneBitLoopLaw" (147 : Nat) ({ cls := "OneBitLoopModel", name := "worstAt", desc := "(I)J" } : Jvm.MethodName)) ∈ lw_g := lw_g_mem (List.mem_of_getElem? (i := 1127) (by decide +kernel)) (by decide +kernel)
theorem wd_1131 : (Jvm.Cond.methodLink "OneBitLoopLaw" (151 : Nat) ({ cls := "OneBitLoopModel", name := "count", desc := "(I)I" } : Jvm.MethodName)) ∈ lw_g := lw_g_mem (List.mem_of_getElem? (i := 1131) (by decide +kernel)) (by decide +kernel)
theorem wd_1135 : (Jvm.Cond.methodLink "OneBitLoopLaw" (156 : Nat) ({ cls := "OneBitLoopModel", name := "digest", desc := "()J" } : Jvm.MethodName)) ∈ lw_g := lw_g_mem (List.mem_of_getElem? (i := 1135) (by decide +kernel)) (by decide +kernel)
theorem wd_1142 : (Jvm.Cond.constantLong "OneBitLoopLaw" (23 : Nat) (4294967295 : Int64)) ∈ lw_g := lw_g_mem (List.mem_of_getElem? (i := 1142) (by decide +kernel)) (by decide +kernel)
theorem fits_Lw_law_Md_check : Fits room_1 rm_Md_check 3 106 21379 := by unfold Fits; decide
theorem fits_Lw_law_Md_clear : Fits room_1 rm_Md_clear 2 106 21379 := by unfold Fits; decide
theorem fits_Lw_law_Md_copy : Fits room_1 rm_Md_copy 7 106 21379 := by unfold Fits; decide
theorem fits_Lw_law_Md_count : Fits room_1 rm_Md_count 2 106 21379 := by unfold Fits; decide
theorem fits_Lw_law_Md_digest : Fits room_1 rm_Md_digest 5 106 21379 := by unfold Fits; decide
theorem fits_Lw_law_Md_forge : Fits room_1 rm_Md_forge 5 106 21379 := by unfold Fits; decide
theorem fits_Lw_law_Md_get : Fits room_1 rm_Md_get 6 106 21379 := by unfold Fits; decide
theorem fits_Lw_law_Md_held : Fits room_1 rm_Md_held 2 106 21379 := by unfold Fits; decide
theorem fits_Lw_law_Md_hold : Fits room_1 rm_Md_hold 7 106 21379 := by unfold Fits; decide
theorem fits_Lw_law_Md_leaving : Fits room_1 rm_Md_leaving 2 106 21379 := by unfold Fits; decide
theorem fits_Lw_law_Md_level : Fits room_1 rm_Md_level 4 106 21379 := by unfold Fits; decide
theorem fits_Lw_law_Md_levelAt : Fits room_1 rm_Md_levelAt 2 106 21379 := by unfold Fits; decide
theorem fits_Lw_law_Md_levels : Fits room_1 rm_Md_levels 7 106 21379 := by unfold Fits; decide
theorem fits_Lw_law_Md_lose : Fits room_1 rm_Md_lose 2 106 21379 := by unfold Fits; decide
theorem fits_Lw_law_Md_lot : Fits room_1 rm_Md_lot 4 106 21379 := by unfold Fits; decide
theorem fits_Lw_law_Md_put : Fits room_1 rm_Md_put 7 106 21379 := by unfold Fits; decide
theorem fits_Lw_law_Md_reach : Fits room_1 rm_Md_reach 15 106 21379 := by unfold Fits; decide
theorem fits_Lw_law_Md_read : Fits room_1 rm_Md_read 5 106 21379 := by unfold Fits; decide
theorem fits_Lw_law_Md_record : Fits room_1 rm_Md_record 3 106 21379 := by unfold Fits; decide
theorem fits_Lw_law_Md_reel : Fits room_1 rm_Md_reel 5 106 21379 := by unfold Fits; decide
theorem fits_Lw_law_Md_run : Fits room_1 rm_Md_run 7 106 21379 := by unfold Fits; decide
theorem fits_Lw_law_Md_sample : Fits room_1 rm_Md_sample 5 106 21379 := by unfold Fits; decide
theorem fits_Lw_law_Md_stage : Fits room_1 rm_Md_stage 7 106 21379 := by unfold Fits; decide
theorem fits_Lw_law_Md_stageAt : Fits room_1 rm_Md_stageAt 3 106 21379 := by unfold Fits; decide
theorem fits_Lw_law_Md_step : Fits room_1 rm_Md_step 3 106 21379 := by unfold Fits; decide
theorem fits_Lw_law_Md_sums : Fits room_1 rm_Md_sums 5 106 21379 := by unfold Fits; decide
theorem fits_Lw_law_Md_trace : Fits room_1 rm_Md_trace 2 106 21379 := by unfold Fits; decide
theorem fits_Lw_law_Md_undo : Fits room_1 rm_Md_undo 4 106 21379 := by unfold Fits; decide
theorem fits_Lw_law_Md_weight : Fits room_1 rm_Md_weight 4 106 21379 := by unfold Fits; decide
theorem fits_Lw_law_Md_worst : Fits room_1 rm_Md_worst 14 106 21379 := by unfold Fits; decide
theorem fits_Lw_law_Md_worstAt : Fits room_1 rm_Md_worstAt 2 106 21379 := by unfold Fits; decide
theorem fits_Lw_law_Ob_check : Fits room_1 rm_Ob_check 2 106 21379 := by unfold Fits; decide
theorem fits_Lw_law_Ob_clear : Fits room_1 rm_Ob_clear 2 106 21379 := by unfold Fits; decide
theorem fits_Lw_law_Ob_copy : Fits room_1 rm_Ob_copy 8 106 21379 := by unfold Fits; decide
theorem fits_Lw_law_Ob_count : Fits room_1 rm_Ob_count 2 106 21379 := by unfold Fits; decide
theorem fits_Lw_law_Ob_digest : Fits room_1 rm_Ob_digest 5 106 21379 := by unfold Fits; decide
theorem fits_Lw_law_Ob_forge : Fits room_1 rm_Ob_forge 5 106 21379 := by unfold Fits; decide
theorem fits_Lw_law_Ob_get : Fits room_1 rm_Ob_get 4 106 21379 := by unfold Fits; decide
theorem fits_Lw_law_Ob_held : Fits room_1 rm_Ob_held 2 106 21379 := by unfold Fits; decide
theorem fits_Lw_law_Ob_hold : Fits room_1 rm_Ob_hold 4 106 21379 := by unfold Fits; decide
theorem fits_Lw_law_Ob_leaving : Fits room_1 rm_Ob_leaving 2 106 21379 := by unfold Fits; decide
theorem fits_Lw_law_Ob_level : Fits room_1 rm_Ob_level 4 106 21379 := by unfold Fits; decide
theorem fits_Lw_law_Ob_levelAt : Fits room_1 rm_Ob_levelAt 2 106 21379 := by unfold Fits; decide
theorem fits_Lw_law_Ob_levels : Fits room_1 rm_Ob_levels 6 106 21379 := by unfold Fits; decide
theorem fits_Lw_law_Ob_lose : Fits room_1 rm_Ob_lose 2 106 21379 := by unfold Fits; decide
theorem fits_Lw_law_Ob_lot : Fits room_1 rm_Ob_lot 4 106 21379 := by unfold Fits; decide
theorem fits_Lw_law_Ob_put : Fits room_1 rm_Ob_put 7 106 21379 := by unfold Fits; decide
theorem fits_Lw_law_Ob_reach : Fits room_1 rm_Ob_reach 7 106 21379 := by unfold Fits; decide
theorem fits_Lw_law_Ob_read : Fits room_1 rm_Ob_read 5 106 21379 := by unfold Fits; decide
theorem fits_Lw_law_Ob_record : Fits room_1 rm_Ob_record 3 106 21379 := by unfold Fits; decide
theorem fits_Lw_law_Ob_reel : Fits room_1 rm_Ob_reel 4 106 21379 := by unfold Fits; decide
theorem fits_Lw_law_Ob_run : Fits room_1 rm_Ob_run 8 106 21379 := by unfold Fits; decide
theorem fits_Lw_law_Ob_sample : Fits room_1 rm_Ob_sample 3 106 21379 := by unfold Fits; decide
theorem fits_Lw_law_Ob_stage : Fits room_1 rm_Ob_stage 5 106 21379 := by unfold Fits; decide
theorem fits_Lw_law_Ob_stageAt : Fits room_1 rm_Ob_stageAt 3 106 21379 := by unfold Fits; decide
theorem fits_Lw_law_Ob_step : Fits room_1 rm_Ob_step 3 106 21379 := by unfold Fits; decide
theorem fits_Lw_law_Ob_sums : Fits room_1 rm_Ob_sums 3 106 21379 := by unfold Fits; decide
theorem fits_Lw_law_Ob_trace : Fits room_1 rm_Ob_trace 2 106 21379 := by unfold Fits; decide
theorem fits_Lw_law_Ob_undo : Fits room_1 rm_Ob_undo 3 106 21379 := by unfold Fits; decide
theorem fits_Lw_law_Ob_weight : Fits room_1 rm_Ob_weight 4 106 21379 := by unfold Fits; decide
theorem fits_Lw_law_Ob_worst : Fits room_1 rm_Ob_worst 7 106 21379 := by unfold Fits; decide
theorem fits_Lw_law_Ob_worstAt : Fits room_1 rm_Ob_worstAt 2 106 21379 := by unfold Fits; decide
def b_Lw_law_18 (L : Nat) (xs : Nat → Int32) (k18 : Nat → Nat → Int32 → M Int32) (a1 : Nat) (a2 : Nat) (i3 : Int32) : M Int32 := if ((Int32.ofNat L) - (7 : Int32)) < i3 then (rt (1 : Int32)) else (bd (sld L xs i3) (fun v1 => swt (v1 &&& (31 : Int32)).toInt 0 [bd (sld L xs (i3 + (1 : Int32))) (fun v2 => bd (sld L xs (i3 + (2 : Int32))) (fun v3 => bd (sld L xs (i3 + (3 : Int32))) (fun v4 => bd (m_Ob_reel a1 v2 v3 v4) (fun v5 => bd (sld L xs (i3 + (1 : Int32))) (fun v6 => bd (sld L xs (i3 + (2 : Int32))) (fun v7 => bd (sld L xs (i3 + (3 : Int32))) (fun v8 => bd (m_Md_reel a2 v6 v7 v8) (fun v9 => if v5 = v9 then (k18 a1 a2 (i3 + 7)) else fl)))))))), bd (sld L xs (i3 + (1 : Int32))) (fun v10 => bd (m_Ob_lose a1 v10) (fun v11 => bd (sld L xs (i3 + (1 : Int32))) (fun v12 => bd (m_Md_lose a2 v12) (fun v13 => if v11 = v13 then (k18 a1 a2 (i3 + 7)) else fl)))), bd (sld L xs (i3 + (1 : Int32))) (fun v14 => bd (sld L xs (i3 + (2 : Int32))) (fun v15 => bd (sld L xs (i3 + (3 : Int32))) (fun v16 => bd (sld L xs (i3 + (4 : Int32))) (fun v17 => bd (sld L xs (i3 + (5 : Int32))) (fun v18 => bd (m_Ob_put a1 v14 v15 v16 (((v17.toInt64) <<< ((32 : Int32).toInt64 &&& 63)) ||| ((v18.toInt64) &&& (4294967295 : Int64)))) (fun v19 => bd (sld L xs (i3 + (1 : Int32))) (fun v20 => bd (sld L xs (i3 + (2 : Int32))) (fun v21 => bd (sld L xs (i3 + (3 : Int32))) (fun v22 => bd (sld L xs (i3 + (4 : Int32))) (fun v23 => bd (sld L xs (i3 + (5 : Int32))) (fun v24 => bd (m_Md_put a2 v20 v21 v22 (((v23.toInt64) <<< ((32 : Int32).toInt64 &&& 63)) ||| ((v24.toInt64) &&& (4294967295 : Int64)))) (fun v25 => if v19 = v25 then (k18 a1 a2 (i3 + 7)) else fl)))))))))))), bd (sld L xs (i3 + (1 : Int32))) (fun v26 => bd (sld L xs (i3 + (2 : Int32))) (fun v27 => bd (sld L xs (i3 + (3 : Int32))) (fun v28 => bd (m_Ob_get a1 v26 v27 v28) (fun v29 => bd (sld L xs (i3 + (1 : Int32))) (fun v30 => bd (sld L xs (i3 + (2 : Int32))) (fun v31 => bd (sld L xs (i3 + (3 : Int32))) (fun v32 => bd (m_Md_get a2 v30 v31 v32) (fun v33 => if v29 = v33 then (k18 a1 a2 (i3 + 7)) else fl)))))))), bd (sld L xs (i3 + (1 : Int32))) (fun v34 => bd (sld L xs (i3 + (2 : Int32))) (fun v35 => bd (sld L xs (i3 + (3 : Int32))) (fun v36 => bd (sld L xs (i3 + (4 : Int32))) (fun v37 => bd (sld L xs (i3 + (5 : Int32))) (fun v38 => bd (m_Ob_copy a1 v34 v35 v36 v37 v38) (fun v39 => bd (sld L xs (i3 + (1 : Int32))) (fun v40 => bd (sld L xs (i3 + (2 : Int32))) (fun v41 => bd (sld L xs (i3 + (3 : Int32))) (fun v42 => bd (sld L xs (i3 + (4 : Int32))) (fun v43 => bd (sld L xs (i3 + (5 : Int32))) (fun v44 => bd (m_Md_copy a2 v40 v41 v42 v43 v44) (fun v45 => if v39 = v45 then (k18 a1 a2 (i3 + 7)) else fl)))))))))))), bd (sld L xs (i3 + (1 : Int32))) (fun v46 => bd (sld L xs (i3 + (2 : Int32))) (fun v47 => bd (m_Ob_sample a1 v46 v47) (fun v48 => bd (sld L xs (i3 + (1 : Int32))) (fun v49 => bd (sld L xs (i3 + (2 : Int32))) (fun v50 => bd (m_Md_sample a2 v49 v50) (fun v51 => if v48 = v51 then (k18 a1 a2 (i3 + 7)) else fl)))))), bd (sld L xs (i3 + (1 : Int32))) (fun v52 => bd (sld L xs (i3 + (2 : Int32))) (fun v53 => bd (sld L xs (i3 + (3 : Int32))) (fun v54 => bd (sld L xs (i3 + (4 : Int32))) (fun v55 => bd (m_Ob_stage a1 v52 (((v53.toInt64) <<< ((32 : Int32).toInt64 &&& 63)) ||| ((v54.toInt64) &&& (4294967295 : Int64))) v55) (fun v56 => bd (sld L xs (i3 + (1 : Int32))) (fun v57 => bd (sld L xs (i3 + (2 : Int32))) (fun v58 => bd (sld L xs (i3 + (3 : Int32))) (fun v59 => bd (sld L xs (i3 + (4 : Int32))) (fun v60 => bd (m_Md_stage a2 v57 (((v58.toInt64) <<< ((32 : Int32).toInt64 &&& 63)) ||| ((v59.toInt64) &&& (4294967295 : Int64))) v60) (fun v61 => if v56 = v61 then (k18 a1 a2 (i3 + 7)) else fl)))))))))), bd (sld L xs (i3 + (1 : Int32))) (fun v62 => bd (sld L xs (i3 + (2 : Int32))) (fun v63 => bd (sld L xs (i3 + (3 : Int32))) (fun v64 => bd (sld L xs (i3 + (4 : Int32))) (fun v65 => bd (sld L xs (i3 + (5 : Int32))) (fun v66 => bd (m_Ob_levels a1 v62 (((v63.toInt64) <<< ((32 : Int32).toInt64 &&& 63)) ||| ((v64.toInt64) &&& (4294967295 : Int64))) (((v65.toInt64) <<< ((32 : Int32).toInt64 &&& 63)) ||| ((v66.toInt64) &&& (4294967295 : Int64)))) (fun v67 => bd (sld L xs (i3 + (1 : Int32))) (fun v68 => bd (sld L xs (i3 + (2 : Int32))) (fun v69 => bd (sld L xs (i3 + (3 : Int32))) (fun v70 => bd (sld L xs (i3 + (4 : Int32))) (fun v71 => bd (sld L xs (i3 + (5 : Int32))) (fun v72 => bd (m_Md_levels a2 v68 (((v69.toInt64) <<< ((32 : Int32).toInt64 &&& 63)) ||| ((v70.toInt64) &&& (4294967295 : Int64))) (((v71.toInt64) <<< ((32 : Int32).toInt64 &&& 63)) ||| ((v72.toInt64) &&& (4294967295 : Int64)))) (fun v73 => if v67 = v73 then (k18 a1 a2 (i3 + 7)) else fl)))))))))))), bd (sld L xs (i3 + (1 : Int32))) (fun v74 => bd (sld L xs (i3 + (2 : Int32))) (fun v75 => bd (sld L xs (i3 + (3 : Int32))) (fun v76 => bd (m_Ob_level a1 v74 (((v75.toInt64) <<< ((32 : Int32).toInt64 &&& 63)) ||| ((v76.toInt64) &&& (4294967295 : Int64)))) (fun v77 => bd (sld L xs (i3 + (1 : Int32))) (fun v78 => bd (sld L xs (i3 + (2 : Int32))) (fun v79 => bd (sld L xs (i3 + (3 : Int32))) (fun v80 => bd (m_Md_level a2 v78 (((v79.toInt64) <<< ((32 : Int32).toInt64 &&& 63)) ||| ((v80.toInt64) &&& (4294967295 : Int64)))) (fun v81 => if v77 = v81 then (k18 a1 a2 (i3 + 7)) else fl)))))))), bd (sld L xs (i3 + (1 : Int32))) (fun v82 => bd (sld L xs (i3 + (2 : Int32))) (fun v83 => bd (sld L xs (i3 + (3 : Int32))) (fun v84 => bd (m_Ob_lot a1 v82 (((v83.toInt64) <<< ((32 : Int32).toInt64 &&& 63)) ||| ((v84.toInt64) &&& (4294967295 : Int64)))) (fun v85 => bd (sld L xs (i3 + (1 : Int32))) (fun v86 => bd (sld L xs (i3 + (2 : Int32))) (fun v87 => bd (sld L xs (i3 + (3 : Int32))) (fun v88 => bd (m_Md_lot a2 v86 (((v87.toInt64) <<< ((32 : Int32).toInt64 &&& 63)) ||| ((v88.toInt64) &&& (4294967295 : Int64)))) (fun v89 => if v85 = v89 then (k18 a1 a2 (i3 + 7)) else fl)))))))), bd (sld L xs (i3 + (1 : Int32))) (fun v90 => bd (sld L xs (i3 + (2 : Int32))) (fun v91 => bd (m_Ob_step a1 (((v90.toInt64) <<< ((32 : Int32).toInt64 &&& 63)) ||| ((v91.toInt64) &&& (4294967295 : Int64)))) (fun v92 => bd (sld L xs (i3 + (1 : Int32))) (fun v93 => bd (sld L xs (i3 + (2 : Int32))) (fun v94 => bd (m_Md_step a2 (((v93.toInt64) <<< ((32 : Int32).toInt64 &&& 63)) ||| ((v94.toInt64) &&& (4294967295 : Int64)))) (fun v95 => if v92 = v95 then (k18 a1 a2 (i3 + 7)) else fl)))))), bd (sld L xs (i3 + (1 : Int32))) (fun v96 => bd (sld L xs (i3 + (2 : Int32))) (fun v97 => bd (sld L xs (i3 + (3 : Int32))) (fun v98 => bd (m_Ob_run a1 v96 v97 v98) (fun v99 => bd (sld L xs (i3 + (1 : Int32))) (fun v100 => bd (sld L xs (i3 + (2 : Int32))) (fun v101 => bd (sld L xs (i3 + (3 : Int32))) (fun v102 => bd (m_Md_run a2 v100 v101 v102) (fun v103 => if v99 = v103 then (k18 a1 a2 (i3 + 7)) else fl)))))))), bd (sld L xs (i3 + (1 : Int32))) (fun v104 => bd (m_Ob_undo a1 v104) (fun v105 => bd (sld L xs (i3 + (1 : Int32))) (fun v106 => bd (m_Md_undo a2 v106) (fun v107 => if v105 = v107 then (k18 a1 a2 (i3 + 7)) else fl)))), bd (m_Ob_clear a1) (fun v108 => bd (m_Md_clear a2) (fun v109 => if v108 = v109 then (k18 a1 a2 (i3 + 7)) else fl)), bd (sld L xs (i3 + (1 : Int32))) (fun v110 => bd (sld L xs (i3 + (2 : Int32))) (fun v111 => bd (m_Ob_stageAt a1 v110 v111) (fun v112 => bd (sld L xs (i3 + (1 : Int32))) (fun v113 => bd (sld L xs (i3 + (2 : Int32))) (fun v114 => bd (m_Md_stageAt a2 v113 v114) (fun v115 => if v112 = v115 then (k18 a1 a2 (i3 + 7)) else fl)))))), bd (sld L xs (i3 + (1 : Int32))) (fun v116 => bd (m_Ob_levelAt a1 v116) (fun v117 => bd (sld L xs (i3 + (1 : Int32))) (fun v118 => bd (m_Md_levelAt a2 v118) (fun v119 => if v117 = v119 then (k18 a1 a2 (i3 + 7)) else fl)))), bd (sld L xs (i3 + (1 : Int32))) (fun v120 => bd (sld L xs (i3 + (2 : Int32))) (fun v121 => bd (m_Ob_record a1 v120 v121) (fun v122 => bd (sld L xs (i3 + (1 : Int32))) (fun v123 => bd (sld L xs (i3 + (2 : Int32))) (fun v124 => bd (m_Md_record a2 v123 v124) (fun v125 => if v122 = v125 then (k18 a1 a2 (i3 + 7)) else fl)))))), bd (sld L xs (i3 + (1 : Int32))) (fun v126 => bd (sld L xs (i3 + (2 : Int32))) (fun v127 => bd (sld L xs (i3 + (3 : Int32))) (fun v128 => bd (sld L xs (i3 + (4 : Int32))) (fun v129 => bd (m_Ob_forge a1 v126 v127 (((v128.toInt64) <<< ((32 : Int32).toInt64 &&& 63)) ||| ((v129.toInt64) &&& (4294967295 : Int64)))) (fun v130 => bd (sld L xs (i3 + (1 : Int32))) (fun v131 => bd (sld L xs (i3 + (2 : Int32))) (fun v132 => bd (sld L xs (i3 + (3 : Int32))) (fun v133 => bd (sld L xs (i3 + (4 : Int32))) (fun v134 => bd (m_Md_forge a2 v131 v132 (((v133.toInt64) <<< ((32 : Int32).toInt64 &&& 63)) ||| ((v134.toInt64) &&& (4294967295 : Int64)))) (fun v135 => if v130 = v135 then (k18 a1 a2 (i3 + 7)) else fl)))))))))), bd (m_Ob_check a1) (fun v136 => bd (m_Md_check a2) (fun v137 => if v136 = v137 then (k18 a1 a2 (i3 + 7)) else fl)), bd (sld L xs (i3 + (1 : Int32))) (fun v138 => bd (m_Ob_read a1 v138) (fun v139 => bd (sld L xs (i3 + (1 : Int32))) (fun v140 => bd (m_Md_read a2 v140) (fun v141 => if v139 = v141 then (k18 a1 a2 (i3 + 7)) else fl)))), bd (sld L xs (i3 + (1 : Int32))) (fun v142 => bd (sld L xs (i3 + (2 : Int32))) (fun v143 => bd (m_Ob_weight a1 v142 v143) (fun v144 => bd (sld L xs (i3 + (1 : Int32))) (fun v145 => bd (sld L xs (i3 + (2 : Int32))) (fun v146 => bd (m_Md_weight a2 v145 v146) (fun v147 => if v144 = v147 then (k18 a1 a2 (i3 + 7)) else fl)))))), bd (sld L xs (i3 + (1 : Int32))) (fun v148 => bd (sld L xs (i3 + (2 : Int32))) (fun v149 => bd (m_Ob_sums a1 v148 v149) (fun v150 => bd (sld L xs (i3 + (1 : Int32))) (fun v151 => bd (sld L xs (i3 + (2 : Int32))) (fun v152 => bd (m_Md_sums a2 v151 v152) (fun v153 => if v150 = v153 then (k18 a1 a2 (i3 + 7)) else fl)))))), bd (sld L xs (i3 + (1 : Int32))) (fun v154 => bd (m_Ob_trace a1 v154) (fun v155 => bd (sld L xs (i3 + (1 : Int32))) (fun v156 => bd (m_Md_trace a2 v156) (fun v157 => if v155 = v157 then (k18 a1 a2 (i3 + 7)) else fl)))), bd (sld L xs (i3 + (1 : Int32))) (fun v158 => bd (sld L xs (i3 + (2 : Int32))) (fun v159 => bd (sld L xs (i3 + (3 : Int32))) (fun v160 => bd (m_Ob_hold a1 (((v158.toInt64) <<< ((32 : Int32).toInt64 &&& 63)) ||| ((v159.toInt64) &&& (4294967295 : Int64))) v160) (fun v161 => bd (sld L xs (i3 + (1 : Int32))) (fun v162 => bd (sld L xs (i3 + (2 : Int32))) (fun v163 => bd (sld L xs (i3 + (3 : Int32))) (fun v164 => bd (m_Md_hold a2 (((v162.toInt64) <<< ((32 : Int32).toInt64 &&& 63)) ||| ((v163.toInt64) &&& (4294967295 : Int64))) v164) (fun v165 => if v161 = v165 then (k18 a1 a2 (i3 + 7)) else fl)))))))), bd (sld L xs (i3 + (1 : Int32))) (fun v166 => bd (m_Ob_held a1 v166) (fun v167 => bd (sld L xs (i3 + (1 : Int32))) (fun v168 => bd (m_Md_held a2 v168) (fun v169 => if v167 = v169 then (k18 a1 a2 (i3 + 7)) else fl)))), bd (sld L xs (i3 + (1 : Int32))) (fun v170 => bd (sld L xs (i3 + (2 : Int32))) (fun v171 => bd (sld L xs (i3 + (3 : Int32))) (fun v172 => bd (sld L xs (i3 + (4 : Int32))) (fun v173 => bd (sld L xs (i3 + (5 : Int32))) (fun v174 => bd (sld L xs (i3 + (6 : Int32))) (fun v175 => bd (m_Ob_reach a1 (((v170.toInt64) <<< ((32 : Int32).toInt64 &&& 63)) ||| ((v171.toInt64) &&& (4294967295 : Int64))) (((v172.toInt64) <<< ((32 : Int32).toInt64 &&& 63)) ||| ((v173.toInt64) &&& (4294967295 : Int64))) (((v174.toInt64) <<< ((32 : Int32).toInt64 &&& 63)) ||| ((v175.toInt64) &&& (4294967295 : Int64)))) (fun v176 => bd (sld L xs (i3 + (1 : Int32))) (fun v177 => bd (sld L xs (i3 + (2 : Int32))) (fun v178 => bd (sld L xs (i3 + (3 : Int32))) (fun v179 => bd (sld L xs (i3 + (4 : Int32))) (fun v180 => bd (sld L xs (i3 + (5 : Int32))) (fun v181 => bd (sld L xs (i3 + (6 : Int32))) (fun v182 => bd (m_Md_reach a2 (((v177.toInt64) <<< ((32 : Int32).toInt64 &&& 63)) ||| ((v178.toInt64) &&& (4294967295 : Int64))) (((v179.toInt64) <<< ((32 : Int32).toInt64 &&& 63)) ||| ((v180.toInt64) &&& (4294967295 : Int64))) (((v181.toInt64) <<< ((32 : Int32).toInt64 &&& 63)) ||| ((v182.toInt64) &&& (4294967295 : Int64)))) (fun v183 => if v176 = v183 then (k18 a1 a2 (i3 + 7)) else fl)))))))))))))), bd (sld L xs (i3 + (1 : Int32))) (fun v184 => bd (m_Ob_leaving a1 v184) (fun v185 => bd (sld L xs (i3 + (1 : Int32))) (fun v186 => bd (m_Md_leaving a2 v186) (fun v187 => if v185 = v187 then (k18 a1 a2 (i3 + 7)) else fl)))), bd (sld L xs (i3 + (1 : Int32))) (fun v188 => bd (sld L xs (i3 + (2 : Int32))) (fun v189 => bd (sld L xs (i3 + (3 : Int32))) (fun v190 => bd (sld L xs (i3 + (4 : Int32))) (fun v191 => bd (sld L xs (i3 + (5 : Int32))) (fun v192 => bd (m_Ob_worst a1 v188 (((v189.toInt64) <<< ((32 : Int32).toInt64 &&& 63)) ||| ((v190.toInt64) &&& (4294967295 : Int64))) (((v191.toInt64) <<< ((32 : Int32).toInt64 &&& 63)) ||| ((v192.toInt64) &&& (4294967295 : Int64)))) (fun v193 => bd (sld L xs (i3 + (1 : Int32))) (fun v194 => bd (sld L xs (i3 + (2 : Int32))) (fun v195 => bd (sld L xs (i3 + (3 : Int32))) (fun v196 => bd (sld L xs (i3 + (4 : Int32))) (fun v197 => bd (sld L xs (i3 + (5 : Int32))) (fun v198 => bd (m_Md_worst a2 v194 (((v195.toInt64) <<< ((32 : Int32).toInt64 &&& 63)) ||| ((v196.toInt64) &&& (4294967295 : Int64))) (((v197.toInt64) <<< ((32 : Int32).toInt64 &&& 63)) ||| ((v198.toInt64) &&& (4294967295 : Int64)))) (fun v199 => if v193 = v199 then (k18 a1 a2 (i3 + 7)) else fl)))))))))))), bd (sld L xs (i3 + (1 : Int32))) (fun v200 => bd (m_Ob_worstAt a1 v200) (fun v201 => bd (sld L xs (i3 + (1 : Int32))) (fun v202 => bd (m_Md_worstAt a2 v202) (fun v203 => if v201 = v203 then (k18 a1 a2 (i3 + 7)) else fl)))), bd (sld L xs (i3 + (1 : Int32))) (fun v204 => bd (m_Ob_count a1 v204) (fun v205 => bd (sld L xs (i3 + (1 : Int32))) (fun v206 => bd (m_Md_count a2 v206) (fun v207 => if v205 = v207 then (k18 a1 a2 (i3 + 7)) else fl)))), bd (m_Ob_digest a1) (fun v208 => bd (m_Md_digest a2) (fun v209 => if v208 = v209 then (k18 a1 a2 (i3 + 7)) else fl))] (k18 a1 a2 (i3 + 7))))
def l_Lw_law_18 (L : Nat) (xs : Nat → Int32) : Nat → Nat → Nat → Int32 → M Int32
  | 0 => fun _ _ _ => fl
  | n + 1 => fun a1 a2 i3 => b_Lw_law_18 L xs (l_Lw_law_18 L xs n) a1 a2 i3
set_option maxRecDepth 20000 in
theorem wb_Lw_law_18 {X : CX Int32} {L : Nat} {xs : Nat → Int32} (hX : Cx X RL cL_law 4 room_1) (hx : Lx X L xs) (hret : ∀ (pc : Nat) (lo : List (Nat × Value)), decode cL_law pc = .ok (.ireturn, 1) → WM X pc lo [.int 1] 106 21379 (rt (1 : Int32))) (hz : Zx X false) {k18 : Nat → Nat → Int32 → M Int32} (h18 : ∀ (a1 : Nat) (a2 : Nat) (i3 : Int32), WM X 18 [(0, .ref 0), (1, .ref a1), (2, .ref a2), (3, .int i3)] [] 106 21379 (k18 a1 a2 i3)) (a1 : Nat) (a2 : Nat) (i3 : Int32) : WM X 18 [(0, .ref 0), (1, .ref a1), (2, .ref a2), (3, .int i3)] [] 106 21379 (b_Lw_law_18 L xs k18 a1 a2 i3) := by
  unfold b_Lw_law_18
  refine wm_iload_n 3 hX dL_law_18 rfl rfl ?_
  refine wm_aload_n 0 hX dL_law_19 rfl rfl ?_
  refine wm_slen hX hx dL_law_20 ?_
  refine wm_bipush (7 : Int32) hX dL_law_21 (by decide) ?_
  refine wm_isub hX dL_law_23 ?_
  refine wm_icmp_gt 1605 hX dL_law_24 (by decide) ?_ ?_
  · refine wm_iconst (1 : Int32) hX dL_law_1605 (by decide) ?_
    exact hret _ _ dL_law_1606
  · refine wm_aload_n 0 hX dL_law_27 rfl rfl ?_
    refine wm_iload_n 3 hX dL_law_28 rfl rfl ?_
    refine wm_sld hX hx dL_law_29 (fun v1 => ?_)
    refine wm_bipush (31 : Int32) hX dL_law_30 (by decide) ?_
    refine wm_iand hX dL_law_32 ?_
    refine wm_tsw [172, 215, 238, 321, 365, 428, 462, 535, 638, 701, 764, 817, 860, 883, 896, 930, 954, 988, 1061, 1074, 1098, 1131, 1165, 1188, 1251, 1275, 1410, 1434, 1538, 1562, 1585] 1599 hX dL_law_33 (by decide) (by decide) (by decide) ⟨?_, ?_, ?_, ?_, ?_, ?_, ?_, ?_, ?_, ?_, ?_, ?_, ?_, ?_, ?_, ?_, ?_, ?_, ?_, ?_, ?_, ?_, ?_, ?_, ?_, ?_, ?_, ?_, ?_, ?_, ?_, trivial⟩ ?_
    · refine wm_aload_n 1 hX dL_law_172 rfl rfl ?_
      refine wm_aload_n 0 hX dL_law_173 rfl rfl ?_
      refine wm_iload_n 3 hX dL_law_174 rfl rfl ?_
      refine wm_iconst (1 : Int32) hX dL_law_175 (by decide) ?_
      refine wm_iadd hX dL_law_176 ?_
      refine wm_sld hX hx dL_law_177 (fun v2 => ?_)
      refine wm_aload_n 0 hX dL_law_178 rfl rfl ?_
      refine wm_iload_n 3 hX dL_law_179 rfl rfl ?_
      refine wm_iconst (2 : Int32) hX dL_law_180 (by decide) ?_
      refine wm_iadd hX dL_law_181 ?_
      refine wm_sld hX hx dL_law_182 (fun v3 => ?_)
      refine wm_aload_n 0 hX dL_law_183 rfl rfl ?_
      refine wm_iload_n 3 hX dL_law_184 rfl rfl ?_
      refine wm_iconst (3 : Int32) hX dL_law_185 (by decide) ?_
      refine wm_iadd hX dL_law_186 ?_
      refine wm_sld hX hx dL_law_187 (fun v4 => ?_)
      refine wm_cVi (st := []) hX hz (i_Ob_reel a1 v2 v3 v4) Ckd.of rfl cal_Ob_reel wd_349 rfl (fits_Lw_law_Ob_reel) (Nat.le_of_ble_eq_true rfl) dL_law_188 (fun v5 => ?_)
      refine wm_aload_n 2 hX dL_law_191 rfl rfl ?_
      refine wm_aload_n 0 hX dL_law_192 rfl rfl ?_
      refine wm_iload_n 3 hX dL_law_193 rfl rfl ?_
      refine wm_iconst (1 : Int32) hX dL_law_194 (by decide) ?_
      refine wm_iadd hX dL_law_195 ?_
      refine wm_sld hX hx dL_law_196 (fun v6 => ?_)
      refine wm_aload_n 0 hX dL_law_197 rfl rfl ?_
      refine wm_iload_n 3 hX dL_law_198 rfl rfl ?_
      refine wm_iconst (2 : Int32) hX dL_law_199 (by decide) ?_
      refine wm_iadd hX dL_law_200 ?_
      refine wm_sld hX hx dL_law_201 (fun v7 => ?_)
      refine wm_aload_n 0 hX dL_law_202 rfl rfl ?_
      refine wm_iload_n 3 hX dL_law_203 rfl rfl ?_
      refine wm_iconst (3 : Int32) hX dL_law_204 (by decide) ?_
      refine wm_iadd hX dL_law_205 ?_
      refine wm_sld hX hx dL_law_206 (fun v8 => ?_)
      refine wm_cVi (st := [.int v5]) hX hz (i_Md_reel a2 v6 v7 v8) Ckd.of rfl cal_Md_reel wd_888 rfl (fits_Lw_law_Md_reel) (Nat.le_of_ble_eq_true rfl) dL_law_207 (fun v9 => ?_)
      refine wm_icmp_eq 1599 hX dL_law_210 (by decide) ?_ ?_
      · refine wm_iinc (i3 + 7) 3 [(3, .int (i3 + 7)), (0, .ref 0), (1, .ref a1), (2, .ref a2)] hX dL_law_1599 rfl rfl (by decide) rfl ?_
        refine wm_goto (tgt := 18) hX dL_law_1602 (by decide) ?_
        refine wm_sub [1, 2, 3, 0] [(0, .ref 0), (1, .ref a1), (2, .ref a2), (3, .int (i3 + 7))] rfl ?_
        exact h18 a1 a2 (i3 + 7)
      · refine wm_iconst (0 : Int32) hX dL_law_213 (by decide) ?_
        exact wm_fl
    · refine wm_aload_n 1 hX dL_law_215 rfl rfl ?_
      refine wm_aload_n 0 hX dL_law_216 rfl rfl ?_
      refine wm_iload_n 3 hX dL_law_217 rfl rfl ?_
      refine wm_iconst (1 : Int32) hX dL_law_218 (by decide) ?_
      refine wm_iadd hX dL_law_219 ?_
      refine wm_sld hX hx dL_law_220 (fun v10 => ?_)
      refine wm_cVi (st := []) hX hz (i_Ob_lose a1 v10) Ckd.of rfl cal_Ob_lose wd_370 rfl (fits_Lw_law_Ob_lose) (Nat.le_of_ble_eq_true rfl) dL_law_221 (fun v11 => ?_)
      refine wm_aload_n 2 hX dL_law_224 rfl rfl ?_
      refine wm_aload_n 0 hX dL_law_225 rfl rfl ?_
      refine wm_iload_n 3 hX dL_law_226 rfl rfl ?_
      refine wm_iconst (1 : Int32) hX dL_law_227 (by decide) ?_
      refine wm_iadd hX dL_law_228 ?_
      refine wm_sld hX hx dL_law_229 (fun v12 => ?_)
      refine wm_cVi (st := [.int v11]) hX hz (i_Md_lose a2 v12) Ckd.of rfl cal_Md_lose wd_903 rfl (fits_Lw_law_Md_lose) (Nat.le_of_ble_eq_true rfl) dL_law_230 (fun v13 => ?_)
      refine wm_icmp_eq 1599 hX dL_law_233 (by decide) ?_ ?_
      · refine wm_iinc (i3 + 7) 3 [(3, .int (i3 + 7)), (0, .ref 0), (1, .ref a1), (2, .ref a2)] hX dL_law_1599 rfl rfl (by decide) rfl ?_
        refine wm_goto (tgt := 18) hX dL_law_1602 (by decide) ?_
        refine wm_sub [1, 2, 3, 0] [(0, .ref 0), (1, .ref a1), (2, .ref a2), (3, .int (i3 + 7))] rfl ?_
        exact h18 a1 a2 (i3 + 7)
      · refine wm_iconst (0 : Int32) hX dL_law_236 (by decide) ?_
        exact wm_fl
    · refine wm_aload_n 1 hX dL_law_238 rfl rfl ?_
      refine wm_aload_n 0 hX dL_law_239 rfl rfl ?_
      refine wm_iload_n 3 hX dL_law_240 rfl rfl ?_
      refine wm_iconst (1 : Int32) hX dL_law_241 (by decide) ?_
      refine wm_iadd hX dL_law_242 ?_
      refine wm_sld hX hx dL_law_243 (fun v14 => ?_)
      refine wm_aload_n 0 hX dL_law_244 rfl rfl ?_
      refine wm_iload_n 3 hX dL_law_245 rfl rfl ?_
      refine wm_iconst (2 : Int32) hX dL_law_246 (by decide) ?_
      refine wm_iadd hX dL_law_247 ?_
      refine wm_sld hX hx dL_law_248 (fun v15 => ?_)
      refine wm_aload_n 0 hX dL_law_249 rfl rfl ?_
      refine wm_iload_n 3 hX dL_law_250 rfl rfl ?_
      refine wm_iconst (3 : Int32) hX dL_law_251 (by decide) ?_
      refine wm_iadd hX dL_law_252 ?_
      refine wm_sld hX hx dL_law_253 (fun v16 => ?_)
      refine wm_aload_n 0 hX dL_law_254 rfl rfl ?_
      refine wm_iload_n 3 hX dL_law_255 rfl rfl ?_
      refine wm_iconst (4 : Int32) hX dL_law_256 (by decide) ?_
      refine wm_iadd hX dL_law_257 ?_
      refine wm_sld hX hx dL_law_258 (fun v17 => ?_)
      refine wm_i2l hX dL_law_259 ?_
      refine wm_bipush (32 : Int32) hX dL_law_260 (by decide) ?_
      refine wm_lshl hX dL_law_262 ?_
      refine wm_aload_n 0 hX dL_law_263 rfl rfl ?_
      refine wm_iload_n 3 hX dL_law_264 rfl rfl ?_
      refine wm_iconst (5 : Int32) hX dL_law_265 (by decide) ?_
      refine wm_iadd hX dL_law_266 ?_
      refine wm_sld hX hx dL_law_267 (fun v18 => ?_)
      refine wm_i2l hX dL_law_268 ?_
      refine wm_ldc2 hX dL_law_269 wd_1142 ?_
      refine wm_land hX dL_law_272 ?_
      refine wm_lor hX dL_law_273 ?_
      refine wm_cVi (st := []) hX hz (i_Ob_put a1 v14 v15 v16 (((v17.toInt64) <<< ((32 : Int32).toInt64 &&& 63)) ||| ((v18.toInt64) &&& (4294967295 : Int64)))) Ckd.of rfl cal_Ob_put wd_374 rfl (fits_Lw_law_Ob_put) (Nat.le_of_ble_eq_true rfl) dL_law_274 (fun v19 => ?_)
      refine wm_aload_n 2 hX dL_law_277 rfl rfl ?_
      refine wm_aload_n 0 hX dL_law_278 rfl rfl ?_
      refine wm_iload_n 3 hX dL_law_279 rfl rfl ?_
      refine wm_iconst (1 : Int32) hX dL_law_280 (by decide) ?_
      refine wm_iadd hX dL_law_281 ?_
      refine wm_sld hX hx dL_law_282 (fun v20 => ?_)
      refine wm_aload_n 0 hX dL_law_283 rfl rfl ?_
      refine wm_iload_n 3 hX dL_law_284 rfl rfl ?_
      refine wm_iconst (2 : Int32) hX dL_law_285 (by decide) ?_
      refine wm_iadd hX dL_law_286 ?_
      refine wm_sld hX hx dL_law_287 (fun v21 => ?_)
      refine wm_aload_n 0 hX dL_law_288 rfl rfl ?_
      refine wm_iload_n 3 hX dL_law_289 rfl rfl ?_
      refine wm_iconst (3 : Int32) hX dL_law_290 (by decide) ?_
      refine wm_iadd hX dL_law_291 ?_
      refine wm_sld hX hx dL_law_292 (fun v22 => ?_)
      refine wm_aload_n 0 hX dL_law_293 rfl rfl ?_
      refine wm_iload_n 3 hX dL_law_294 rfl rfl ?_
      refine wm_iconst (4 : Int32) hX dL_law_295 (by decide) ?_
      refine wm_iadd hX dL_law_296 ?_
      refine wm_sld hX hx dL_law_297 (fun v23 => ?_)
      refine wm_i2l hX dL_law_298 ?_
      refine wm_bipush (32 : Int32) hX dL_law_299 (by decide) ?_
      refine wm_lshl hX dL_law_301 ?_
      refine wm_aload_n 0 hX dL_law_302 rfl rfl ?_
      refine wm_iload_n 3 hX dL_law_303 rfl rfl ?_
      refine wm_iconst (5 : Int32) hX dL_law_304 (by decide) ?_
      refine wm_iadd hX dL_law_305 ?_
      refine wm_sld hX hx dL_law_306 (fun v24 => ?_)
      refine wm_i2l hX dL_law_307 ?_
      refine wm_ldc2 hX dL_law_308 wd_1142 ?_
      refine wm_land hX dL_law_311 ?_
      refine wm_lor hX dL_law_312 ?_
      refine wm_cVi (st := [.int v19]) hX hz (i_Md_put a2 v20 v21 v22 (((v23.toInt64) <<< ((32 : Int32).toInt64 &&& 63)) ||| ((v24.toInt64) &&& (4294967295 : Int64)))) Ckd.of rfl cal_Md_put wd_907 rfl (fits_Lw_law_Md_put) (Nat.le_of_ble_eq_true rfl) dL_law_313 (fun v25 => ?_)
      refine wm_icmp_eq 1599 hX dL_law_316 (by decide) ?_ ?_
      · refine wm_iinc (i3 + 7) 3 [(3, .int (i3 + 7)), (0, .ref 0), (1, .ref a1), (2, .ref a2)] hX dL_law_1599 rfl rfl (by decide) rfl ?_
        refine wm_goto (tgt := 18) hX dL_law_1602 (by decide) ?_
        refine wm_sub [1, 2, 3, 0] [(0, .ref 0), (1, .ref a1), (2, .ref a2), (3, .int (i3 + 7))] rfl ?_
        exact h18 a1 a2 (i3 + 7)
      · refine wm_iconst (0 : Int32) hX dL_law_319 (by decide) ?_
        exact wm_fl
    · refine wm_aload_n 1 hX dL_law_321 rfl rfl ?_
      refine wm_aload_n 0 hX dL_law_322 rfl rfl ?_
      refine wm_iload_n 3 hX dL_law_323 rfl rfl ?_
      refine wm_iconst (1 : Int32) hX dL_law_324 (by decide) ?_
      refine wm_iadd hX dL_law_325 ?_
      refine wm_sld hX hx dL_law_326 (fun v26 => ?_)
      refine wm_aload_n 0 hX dL_law_327 rfl rfl ?_
      refine wm_iload_n 3 hX dL_law_328 rfl rfl ?_
      refine wm_iconst (2 : Int32) hX dL_law_329 (by decide) ?_
      refine wm_iadd hX dL_law_330 ?_
      refine wm_sld hX hx dL_law_331 (fun v27 => ?_)
      refine wm_aload_n 0 hX dL_law_332 rfl rfl ?_
      refine wm_iload_n 3 hX dL_law_333 rfl rfl ?_
      refine wm_iconst (3 : Int32) hX dL_law_334 (by decide) ?_
      refine wm_iadd hX dL_law_335 ?_
      refine wm_sld hX hx dL_law_336 (fun v28 => ?_)
      refine wm_cVl (st := []) hX hz (i_Ob_get a1 v26 v27 v28) Ckd.of rfl cal_Ob_get wd_398 rfl (fits_Lw_law_Ob_get) (Nat.le_of_ble_eq_true rfl) dL_law_337 (fun v29 => ?_)
      refine wm_aload_n 2 hX dL_law_340 rfl rfl ?_
      refine wm_aload_n 0 hX dL_law_341 rfl rfl ?_
      refine wm_iload_n 3 hX dL_law_342 rfl rfl ?_
      refine wm_iconst (1 : Int32) hX dL_law_343 (by decide) ?_
      refine wm_iadd hX dL_law_344 ?_
      refine wm_sld hX hx dL_law_345 (fun v30 => ?_)
      refine wm_aload_n 0 hX dL_law_346 rfl rfl ?_
      refine wm_iload_n 3 hX dL_law_347 rfl rfl ?_
      refine wm_iconst (2 : Int32) hX dL_law_348 (by decide) ?_
      refine wm_iadd hX dL_law_349 ?_
      refine wm_sld hX hx dL_law_350 (fun v31 => ?_)
      refine wm_aload_n 0 hX dL_law_351 rfl rfl ?_
      refine wm_iload_n 3 hX dL_law_352 rfl rfl ?_
      refine wm_iconst (3 : Int32) hX dL_law_353 (by decide) ?_
      refine wm_iadd hX dL_law_354 ?_
      refine wm_sld hX hx dL_law_355 (fun v32 => ?_)
      refine wm_cVl (st := [.long v29]) hX hz (i_Md_get a2 v30 v31 v32) Ckd.of rfl cal_Md_get wd_924 rfl (fits_Lw_law_Md_get) (Nat.le_of_ble_eq_true rfl) dL_law_356 (fun v33 => ?_)
      refine wm_lif_eq 1599 hX dL_law_359 dL_law_360 (by decide) ?_ ?_
      · refine wm_iinc (i3 + 7) 3 [(3, .int (i3 + 7)), (0, .ref 0), (1, .ref a1), (2, .ref a2)] hX dL_law_1599 rfl rfl (by decide) rfl ?_
        refine wm_goto (tgt := 18) hX dL_law_1602 (by decide) ?_
        refine wm_sub [1, 2, 3, 0] [(0, .ref 0), (1, .ref a1), (2, .ref a2), (3, .int (i3 + 7))] rfl ?_
        exact h18 a1 a2 (i3 + 7)
      · refine wm_iconst (0 : Int32) hX dL_law_363 (by decide) ?_
        exact wm_fl
    · refine wm_aload_n 1 hX dL_law_365 rfl rfl ?_
      refine wm_aload_n 0 hX dL_law_366 rfl rfl ?_
      refine wm_iload_n 3 hX dL_law_367 rfl rfl ?_
      refine wm_iconst (1 : Int32) hX dL_law_368 (by decide) ?_
      refine wm_iadd hX dL_law_369 ?_
      refine wm_sld hX hx dL_law_370 (fun v34 => ?_)
      refine wm_aload_n 0 hX dL_law_371 rfl rfl ?_
      refine wm_iload_n 3 hX dL_law_372 rfl rfl ?_
      refine wm_iconst (2 : Int32) hX dL_law_373 (by decide) ?_
      refine wm_iadd hX dL_law_374 ?_
      refine wm_sld hX hx dL_law_375 (fun v35 => ?_)
      refine wm_aload_n 0 hX dL_law_376 rfl rfl ?_
      refine wm_iload_n 3 hX dL_law_377 rfl rfl ?_
      refine wm_iconst (3 : Int32) hX dL_law_378 (by decide) ?_
      refine wm_iadd hX dL_law_379 ?_
      refine wm_sld hX hx dL_law_380 (fun v36 => ?_)
      refine wm_aload_n 0 hX dL_law_381 rfl rfl ?_
      refine wm_iload_n 3 hX dL_law_382 rfl rfl ?_
      refine wm_iconst (4 : Int32) hX dL_law_383 (by decide) ?_
      refine wm_iadd hX dL_law_384 ?_
      refine wm_sld hX hx dL_law_385 (fun v37 => ?_)
      refine wm_aload_n 0 hX dL_law_386 rfl rfl ?_
      refine wm_iload_n 3 hX dL_law_387 rfl rfl ?_
      refine wm_iconst (5 : Int32) hX dL_law_388 (by decide) ?_
      refine wm_iadd hX dL_law_389 ?_
      refine wm_sld hX hx dL_law_390 (fun v38 => ?_)
      refine wm_cVi (st := []) hX hz (i_Ob_copy a1 v34 v35 v36 v37 v38) Ckd.of rfl cal_Ob_copy wd_402 rfl (fits_Lw_law_Ob_copy) (Nat.le_of_ble_eq_true rfl) dL_law_391 (fun v39 => ?_)
      refine wm_aload_n 2 hX dL_law_394 rfl rfl ?_
      refine wm_aload_n 0 hX dL_law_395 rfl rfl ?_
      refine wm_iload_n 3 hX dL_law_396 rfl rfl ?_
      refine wm_iconst (1 : Int32) hX dL_law_397 (by decide) ?_
      refine wm_iadd hX dL_law_398 ?_
      refine wm_sld hX hx dL_law_399 (fun v40 => ?_)
      refine wm_aload_n 0 hX dL_law_400 rfl rfl ?_
      refine wm_iload_n 3 hX dL_law_401 rfl rfl ?_
      refine wm_iconst (2 : Int32) hX dL_law_402 (by decide) ?_
      refine wm_iadd hX dL_law_403 ?_
      refine wm_sld hX hx dL_law_404 (fun v41 => ?_)
      refine wm_aload_n 0 hX dL_law_405 rfl rfl ?_
      refine wm_iload_n 3 hX dL_law_406 rfl rfl ?_
      refine wm_iconst (3 : Int32) hX dL_law_407 (by decide) ?_
      refine wm_iadd hX dL_law_408 ?_
      refine wm_sld hX hx dL_law_409 (fun v42 => ?_)
      refine wm_aload_n 0 hX dL_law_410 rfl rfl ?_
      refine wm_iload_n 3 hX dL_law_411 rfl rfl ?_
      refine wm_iconst (4 : Int32) hX dL_law_412 (by decide) ?_
      refine wm_iadd hX dL_law_413 ?_
      refine wm_sld hX hx dL_law_414 (fun v43 => ?_)
      refine wm_aload_n 0 hX dL_law_415 rfl rfl ?_
      refine wm_iload_n 3 hX dL_law_416 rfl rfl ?_
      refine wm_iconst (5 : Int32) hX dL_law_417 (by decide) ?_
      refine wm_iadd hX dL_law_418 ?_
      refine wm_sld hX hx dL_law_419 (fun v44 => ?_)
      refine wm_cVi (st := [.int v39]) hX hz (i_Md_copy a2 v40 v41 v42 v43 v44) Ckd.of rfl cal_Md_copy wd_928 rfl (fits_Lw_law_Md_copy) (Nat.le_of_ble_eq_true rfl) dL_law_420 (fun v45 => ?_)
      refine wm_icmp_eq 1599 hX dL_law_423 (by decide) ?_ ?_
      · refine wm_iinc (i3 + 7) 3 [(3, .int (i3 + 7)), (0, .ref 0), (1, .ref a1), (2, .ref a2)] hX dL_law_1599 rfl rfl (by decide) rfl ?_
        refine wm_goto (tgt := 18) hX dL_law_1602 (by decide) ?_
        refine wm_sub [1, 2, 3, 0] [(0, .ref 0), (1, .ref a1), (2, .ref a2), (3, .int (i3 + 7))] rfl ?_
        exact h18 a1 a2 (i3 + 7)
      · refine wm_iconst (0 : Int32) hX dL_law_426 (by decide) ?_
        exact wm_fl
    · refine wm_aload_n 1 hX dL_law_428 rfl rfl ?_
      refine wm_aload_n 0 hX dL_law_429 rfl rfl ?_
      refine wm_iload_n 3 hX dL_law_430 rfl rfl ?_
      refine wm_iconst (1 : Int32) hX dL_law_431 (by decide) ?_
      refine wm_iadd hX dL_law_432 ?_
      refine wm_sld hX hx dL_law_433 (fun v46 => ?_)
      refine wm_aload_n 0 hX dL_law_434 rfl rfl ?_
      refine wm_iload_n 3 hX dL_law_435 rfl rfl ?_
      refine wm_iconst (2 : Int32) hX dL_law_436 (by decide) ?_
      refine wm_iadd hX dL_law_437 ?_
      refine wm_sld hX hx dL_law_438 (fun v47 => ?_)
      refine wm_cVl (st := []) hX hz (i_Ob_sample a1 v46 v47) Ckd.of rfl cal_Ob_sample wd_413 rfl (fits_Lw_law_Ob_sample) (Nat.le_of_ble_eq_true rfl) dL_law_439 (fun v48 => ?_)
      refine wm_aload_n 2 hX dL_law_442 rfl rfl ?_
      refine wm_aload_n 0 hX dL_law_443 rfl rfl ?_
      refine wm_iload_n 3 hX dL_law_444 rfl rfl ?_
      refine wm_iconst (1 : Int32) hX dL_law_445 (by decide) ?_
      refine wm_iadd hX dL_law_446 ?_
      refine wm_sld hX hx dL_law_447 (fun v49 => ?_)
      refine wm_aload_n 0 hX dL_law_448 rfl rfl ?_
      refine wm_iload_n 3 hX dL_law_449 rfl rfl ?_
      refine wm_iconst (2 : Int32) hX dL_law_450 (by decide) ?_
      refine wm_iadd hX dL_law_451 ?_
      refine wm_sld hX hx dL_law_452 (fun v50 => ?_)
      refine wm_cVl (st := [.long v48]) hX hz (i_Md_sample a2 v49 v50) Ckd.of rfl cal_Md_sample wd_932 rfl (fits_Lw_law_Md_sample) (Nat.le_of_ble_eq_true rfl) dL_law_453 (fun v51 => ?_)
      refine wm_lif_eq 1599 hX dL_law_456 dL_law_457 (by decide) ?_ ?_
      · refine wm_iinc (i3 + 7) 3 [(3, .int (i3 + 7)), (0, .ref 0), (1, .ref a1), (2, .ref a2)] hX dL_law_1599 rfl rfl (by decide) rfl ?_
        refine wm_goto (tgt := 18) hX dL_law_1602 (by decide) ?_
        refine wm_sub [1, 2, 3, 0] [(0, .ref 0), (1, .ref a1), (2, .ref a2), (3, .int (i3 + 7))] rfl ?_
        exact h18 a1 a2 (i3 + 7)
      · refine wm_iconst (0 : Int32) hX dL_law_460 (by decide) ?_
        exact wm_fl
    · refine wm_aload_n 1 hX dL_law_462 rfl rfl ?_
      refine wm_aload_n 0 hX dL_law_463 rfl rfl ?_
      refine wm_iload_n 3 hX dL_law_464 rfl rfl ?_
      refine wm_iconst (1 : Int32) hX dL_law_465 (by decide) ?_
      refine wm_iadd hX dL_law_466 ?_
      refine wm_sld hX hx dL_law_467 (fun v52 => ?_)
      refine wm_aload_n 0 hX dL_law_468 rfl rfl ?_
      refine wm_iload_n 3 hX dL_law_469 rfl rfl ?_
      refine wm_iconst (2 : Int32) hX dL_law_470 (by decide) ?_
      refine wm_iadd hX dL_law_471 ?_
      refine wm_sld hX hx dL_law_472 (fun v53 => ?_)
      refine wm_i2l hX dL_law_473 ?_
      refine wm_bipush (32 : Int32) hX dL_law_474 (by decide) ?_
      refine wm_lshl hX dL_law_476 ?_
      refine wm_aload_n 0 hX dL_law_477 rfl rfl ?_
      refine wm_iload_n 3 hX dL_law_478 rfl rfl ?_
      refine wm_iconst (3 : Int32) hX dL_law_479 (by decide) ?_
      refine wm_iadd hX dL_law_480 ?_
      refine wm_sld hX hx dL_law_481 (fun v54 => ?_)
      refine wm_i2l hX dL_law_482 ?_
      refine wm_ldc2 hX dL_law_483 wd_1142 ?_
      refine wm_land hX dL_law_486 ?_
      refine wm_lor hX dL_law_487 ?_
      refine wm_aload_n 0 hX dL_law_488 rfl rfl ?_
      refine wm_iload_n 3 hX dL_law_489 rfl rfl ?_
      refine wm_iconst (4 : Int32) hX dL_law_490 (by decide) ?_
      refine wm_iadd hX dL_law_491 ?_
      refine wm_sld hX hx dL_law_492 (fun v55 => ?_)
      refine wm_cVi (st := []) hX hz (i_Ob_stage a1 v52 (((v53.toInt64) <<< ((32 : Int32).toInt64 &&& 63)) ||| ((v54.toInt64) &&& (4294967295 : Int64))) v55) Ckd.of rfl cal_Ob_stage wd_448 rfl (fits_Lw_law_Ob_stage) (Nat.le_of_ble_eq_true rfl) dL_law_493 (fun v56 => ?_)
      refine wm_aload_n 2 hX dL_law_496 rfl rfl ?_
      refine wm_aload_n 0 hX dL_law_497 rfl rfl ?_
      refine wm_iload_n 3 hX dL_law_498 rfl rfl ?_
      refine wm_iconst (1 : Int32) hX dL_law_499 (by decide) ?_
      refine wm_iadd hX dL_law_500 ?_
      refine wm_sld hX hx dL_law_501 (fun v57 => ?_)
      refine wm_aload_n 0 hX dL_law_502 rfl rfl ?_
      refine wm_iload_n 3 hX dL_law_503 rfl rfl ?_
      refine wm_iconst (2 : Int32) hX dL_law_504 (by decide) ?_
      refine wm_iadd hX dL_law_505 ?_
      refine wm_sld hX hx dL_law_506 (fun v58 => ?_)
      refine wm_i2l hX dL_law_507 ?_
      refine wm_bipush (32 : Int32) hX dL_law_508 (by decide) ?_
      refine wm_lshl hX dL_law_510 ?_
      refine wm_aload_n 0 hX dL_law_511 rfl rfl ?_
      refine wm_iload_n 3 hX dL_law_512 rfl rfl ?_
      refine wm_iconst (3 : Int32) hX dL_law_513 (by decide) ?_
      refine wm_iadd hX dL_law_514 ?_
      refine wm_sld hX hx dL_law_515 (fun v59 => ?_)
      refine wm_i2l hX dL_law_516 ?_
      refine wm_ldc2 hX dL_law_517 wd_1142 ?_
      refine wm_land hX dL_law_520 ?_
      refine wm_lor hX dL_law_521 ?_
      refine wm_aload_n 0 hX dL_law_522 rfl rfl ?_
      refine wm_iload_n 3 hX dL_law_523 rfl rfl ?_
      refine wm_iconst (4 : Int32) hX dL_law_524 (by decide) ?_
      refine wm_iadd hX dL_law_525 ?_
      refine wm_sld hX hx dL_law_526 (fun v60 => ?_)
      refine wm_cVi (st := [.int v56]) hX hz (i_Md_stage a2 v57 (((v58.toInt64) <<< ((32 : Int32).toInt64 &&& 63)) ||| ((v59.toInt64) &&& (4294967295 : Int64))) v60) Ckd.of rfl cal_Md_stage wd_949 rfl (fits_Lw_law_Md_stage) (Nat.le_of_ble_eq_true rfl) dL_law_527 (fun v61 => ?_)
      refine wm_icmp_eq 1599 hX dL_law_530 (by decide) ?_ ?_
      · refine wm_iinc (i3 + 7) 3 [(3, .int (i3 + 7)), (0, .ref 0), (1, .ref a1), (2, .ref a2)] hX dL_law_1599 rfl rfl (by decide) rfl ?_
        refine wm_goto (tgt := 18) hX dL_law_1602 (by decide) ?_
        refine wm_sub [1, 2, 3, 0] [(0, .ref 0), (1, .ref a1), (2, .ref a2), (3, .int (i3 + 7))] rfl ?_
        exact h18 a1 a2 (i3 + 7)
      · refine wm_iconst (0 : Int32) hX dL_law_533 (by decide) ?_
        exact wm_fl
    · refine wm_aload_n 1 hX dL_law_535 rfl rfl ?_
      refine wm_aload_n 0 hX dL_law_536 rfl rfl ?_
      refine wm_iload_n 3 hX dL_law_537 rfl rfl ?_
      refine wm_iconst (1 : Int32) hX dL_law_538 (by decide) ?_
      refine wm_iadd hX dL_law_539 ?_
      refine wm_sld hX hx dL_law_540 (fun v62 => ?_)
      refine wm_aload_n 0 hX dL_law_541 rfl rfl ?_
      refine wm_iload_n 3 hX dL_law_542 rfl rfl ?_
      refine wm_iconst (2 : Int32) hX dL_law_543 (by decide) ?_
      refine wm_iadd hX dL_law_544 ?_
      refine wm_sld hX hx dL_law_545 (fun v63 => ?_)
      refine wm_i2l hX dL_law_546 ?_
      refine wm_bipush (32 : Int32) hX dL_law_547 (by decide) ?_
      refine wm_lshl hX dL_law_549 ?_
      refine wm_aload_n 0 hX dL_law_550 rfl rfl ?_
      refine wm_iload_n 3 hX dL_law_551 rfl rfl ?_
      refine wm_iconst (3 : Int32) hX dL_law_552 (by decide) ?_
      refine wm_iadd hX dL_law_553 ?_
      refine wm_sld hX hx dL_law_554 (fun v64 => ?_)
      refine wm_i2l hX dL_law_555 ?_
      refine wm_ldc2 hX dL_law_556 wd_1142 ?_
      refine wm_land hX dL_law_559 ?_
      refine wm_lor hX dL_law_560 ?_
      refine wm_aload_n 0 hX dL_law_561 rfl rfl ?_
      refine wm_iload_n 3 hX dL_law_562 rfl rfl ?_
      refine wm_iconst (4 : Int32) hX dL_law_563 (by decide) ?_
      refine wm_iadd hX dL_law_564 ?_
      refine wm_sld hX hx dL_law_565 (fun v65 => ?_)
      refine wm_i2l hX dL_law_566 ?_
      refine wm_bipush (32 : Int32) hX dL_law_567 (by decide) ?_
      refine wm_lshl hX dL_law_569 ?_
      refine wm_aload_n 0 hX dL_law_570 rfl rfl ?_
      refine wm_iload_n 3 hX dL_law_571 rfl rfl ?_
      refine wm_iconst (5 : Int32) hX dL_law_572 (by decide) ?_
      refine wm_iadd hX dL_law_573 ?_
      refine wm_sld hX hx dL_law_574 (fun v66 => ?_)
      refine wm_i2l hX dL_law_575 ?_
      refine wm_ldc2 hX dL_law_576 wd_1142 ?_
      refine wm_land hX dL_law_579 ?_
      refine wm_lor hX dL_law_580 ?_
      refine wm_cVi (st := []) hX hz (i_Ob_levels a1 v62 (((v63.toInt64) <<< ((32 : Int32).toInt64 &&& 63)) ||| ((v64.toInt64) &&& (4294967295 : Int64))) (((v65.toInt64) <<< ((32 : Int32).toInt64 &&& 63)) ||| ((v66.toInt64) &&& (4294967295 : Int64)))) Ckd.of rfl cal_Ob_levels wd_461 rfl (fits_Lw_law_Ob_levels) (Nat.le_of_ble_eq_true rfl) dL_law_581 (fun v67 => ?_)
      refine wm_aload_n 2 hX dL_law_584 rfl rfl ?_
      refine wm_aload_n 0 hX dL_law_585 rfl rfl ?_
      refine wm_iload_n 3 hX dL_law_586 rfl rfl ?_
      refine wm_iconst (1 : Int32) hX dL_law_587 (by decide) ?_
      refine wm_iadd hX dL_law_588 ?_
      refine wm_sld hX hx dL_law_589 (fun v68 => ?_)
      refine wm_aload_n 0 hX dL_law_590 rfl rfl ?_
      refine wm_iload_n 3 hX dL_law_591 rfl rfl ?_
      refine wm_iconst (2 : Int32) hX dL_law_592 (by decide) ?_
      refine wm_iadd hX dL_law_593 ?_
      refine wm_sld hX hx dL_law_594 (fun v69 => ?_)
      refine wm_i2l hX dL_law_595 ?_
      refine wm_bipush (32 : Int32) hX dL_law_596 (by decide) ?_
      refine wm_lshl hX dL_law_598 ?_
      refine wm_aload_n 0 hX dL_law_599 rfl rfl ?_
      refine wm_iload_n 3 hX dL_law_600 rfl rfl ?_
      refine wm_iconst (3 : Int32) hX dL_law_601 (by decide) ?_
      refine wm_iadd hX dL_law_602 ?_
      refine wm_sld hX hx dL_law_603 (fun v70 => ?_)
      refine wm_i2l hX dL_law_604 ?_
      refine wm_ldc2 hX dL_law_605 wd_1142 ?_
      refine wm_land hX dL_law_608 ?_
      refine wm_lor hX dL_law_609 ?_
      refine wm_aload_n 0 hX dL_law_610 rfl rfl ?_
      refine wm_iload_n 3 hX dL_law_611 rfl rfl ?_
      refine wm_iconst (4 : Int32) hX dL_law_612 (by decide) ?_
      refine wm_iadd hX dL_law_613 ?_
      refine wm_sld hX hx dL_law_614 (fun v71 => ?_)
      refine wm_i2l hX dL_law_615 ?_
      refine wm_bipush (32 : Int32) hX dL_law_616 (by decide) ?_
      refine wm_lshl hX dL_law_618 ?_
      refine wm_aload_n 0 hX dL_law_619 rfl rfl ?_
      refine wm_iload_n 3 hX dL_law_620 rfl rfl ?_
      refine wm_iconst (5 : Int32) hX dL_law_621 (by decide) ?_
      refine wm_iadd hX dL_law_622 ?_
      refine wm_sld hX hx dL_law_623 (fun v72 => ?_)
      refine wm_i2l hX dL_law_624 ?_
      refine wm_ldc2 hX dL_law_625 wd_1142 ?_
      refine wm_land hX dL_law_628 ?_
      refine wm_lor hX dL_law_629 ?_
      refine wm_cVi (st := [.int v67]) hX hz (i_Md_levels a2 v68 (((v69.toInt64) <<< ((32 : Int32).toInt64 &&& 63)) ||| ((v70.toInt64) &&& (4294967295 : Int64))) (((v71.toInt64) <<< ((32 : Int32).toInt64 &&& 63)) ||| ((v72.toInt64) &&& (4294967295 : Int64)))) Ckd.of rfl cal_Md_levels wd_957 rfl (fits_Lw_law_Md_levels) (Nat.le_of_ble_eq_true rfl) dL_law_630 (fun v73 => ?_)
      refine wm_icmp_eq 1599 hX dL_law_633 (by decide) ?_ ?_
      · refine wm_iinc (i3 + 7) 3 [(3, .int (i3 + 7)), (0, .ref 0), (1, .ref a1), (2, .ref a2)] hX dL_law_1599 rfl rfl (by decide) rfl ?_
        refine wm_goto (tgt := 18) hX dL_law_1602 (by decide) ?_
        refine wm_sub [1, 2, 3, 0] [(0, .ref 0), (1, .ref a1), (2, .ref a2), (3, .int (i3 + 7))] rfl ?_
        exact h18 a1 a2 (i3 + 7)
      · refine wm_iconst (0 : Int32) hX dL_law_636 (by decide) ?_
        exact wm_fl
    · refine wm_aload_n 1 hX dL_law_638 rfl rfl ?_
      refine wm_aload_n 0 hX dL_law_639 rfl rfl ?_
      refine wm_iload_n 3 hX dL_law_640 rfl rfl ?_
      refine wm_iconst (1 : Int32) hX dL_law_641 (by decide) ?_
      refine wm_iadd hX dL_law_642 ?_
      refine wm_sld hX hx dL_law_643 (fun v74 => ?_)
      refine wm_aload_n 0 hX dL_law_644 rfl rfl ?_
      refine wm_iload_n 3 hX dL_law_645 rfl rfl ?_
      refine wm_iconst (2 : Int32) hX dL_law_646 (by decide) ?_
      refine wm_iadd hX dL_law_647 ?_
      refine wm_sld hX hx dL_law_648 (fun v75 => ?_)
      refine wm_i2l hX dL_law_649 ?_
      refine wm_bipush (32 : Int32) hX dL_law_650 (by decide) ?_
      refine wm_lshl hX dL_law_652 ?_
      refine wm_aload_n 0 hX dL_law_653 rfl rfl ?_
      refine wm_iload_n 3 hX dL_law_654 rfl rfl ?_
      refine wm_iconst (3 : Int32) hX dL_law_655 (by decide) ?_
      refine wm_iadd hX dL_law_656 ?_
      refine wm_sld hX hx dL_law_657 (fun v76 => ?_)
      refine wm_i2l hX dL_law_658 ?_
      refine wm_ldc2 hX dL_law_659 wd_1142 ?_
      refine wm_land hX dL_law_662 ?_
      refine wm_lor hX dL_law_663 ?_
      refine wm_cVi (st := []) hX hz (i_Ob_level a1 v74 (((v75.toInt64) <<< ((32 : Int32).toInt64 &&& 63)) ||| ((v76.toInt64) &&& (4294967295 : Int64)))) Ckd.of rfl cal_Ob_level wd_473 rfl (fits_Lw_law_Ob_level) (Nat.le_of_ble_eq_true rfl) dL_law_664 (fun v77 => ?_)
      refine wm_aload_n 2 hX dL_law_667 rfl rfl ?_
      refine wm_aload_n 0 hX dL_law_668 rfl rfl ?_
      refine wm_iload_n 3 hX dL_law_669 rfl rfl ?_
      refine wm_iconst (1 : Int32) hX dL_law_670 (by decide) ?_
      refine wm_iadd hX dL_law_671 ?_
      refine wm_sld hX hx dL_law_672 (fun v78 => ?_)
      refine wm_aload_n 0 hX dL_law_673 rfl rfl ?_
      refine wm_iload_n 3 hX dL_law_674 rfl rfl ?_
      refine wm_iconst (2 : Int32) hX dL_law_675 (by decide) ?_
      refine wm_iadd hX dL_law_676 ?_
      refine wm_sld hX hx dL_law_677 (fun v79 => ?_)
      refine wm_i2l hX dL_law_678 ?_
      refine wm_bipush (32 : Int32) hX dL_law_679 (by decide) ?_
      refine wm_lshl hX dL_law_681 ?_
      refine wm_aload_n 0 hX dL_law_682 rfl rfl ?_
      refine wm_iload_n 3 hX dL_law_683 rfl rfl ?_
      refine wm_iconst (3 : Int32) hX dL_law_684 (by decide) ?_
      refine wm_iadd hX dL_law_685 ?_
      refine wm_sld hX hx dL_law_686 (fun v80 => ?_)
      refine wm_i2l hX dL_law_687 ?_
      refine wm_ldc2 hX dL_law_688 wd_1142 ?_
      refine wm_land hX dL_law_691 ?_
      refine wm_lor hX dL_law_692 ?_
      refine wm_cVi (st := [.int v77]) hX hz (i_Md_level a2 v78 (((v79.toInt64) <<< ((32 : Int32).toInt64 &&& 63)) ||| ((v80.toInt64) &&& (4294967295 : Int64)))) Ckd.of rfl cal_Md_level wd_967 rfl (fits_Lw_law_Md_level) (Nat.le_of_ble_eq_true rfl) dL_law_693 (fun v81 => ?_)
      refine wm_icmp_eq 1599 hX dL_law_696 (by decide) ?_ ?_
      · refine wm_iinc (i3 + 7) 3 [(3, .int (i3 + 7)), (0, .ref 0), (1, .ref a1), (2, .ref a2)] hX dL_law_1599 rfl rfl (by decide) rfl ?_
        refine wm_goto (tgt := 18) hX dL_law_1602 (by decide) ?_
        refine wm_sub [1, 2, 3, 0] [(0, .ref 0), (1, .ref a1), (2, .ref a2), (3, .int (i3 + 7))] rfl ?_
        exact h18 a1 a2 (i3 + 7)
      · refine wm_iconst (0 : Int32) hX dL_law_699 (by decide) ?_
        exact wm_fl
    · refine wm_aload_n 1 hX dL_law_701 rfl rfl ?_
      refine wm_aload_n 0 hX dL_law_702 rfl rfl ?_
      refine wm_iload_n 3 hX dL_law_703 rfl rfl ?_
      refine wm_iconst (1 : Int32) hX dL_law_704 (by decide) ?_
      refine wm_iadd hX dL_law_705 ?_
      refine wm_sld hX hx dL_law_706 (fun v82 => ?_)
      refine wm_aload_n 0 hX dL_law_707 rfl rfl ?_
      refine wm_iload_n 3 hX dL_law_708 rfl rfl ?_
      refine wm_iconst (2 : Int32) hX dL_law_709 (by decide) ?_
      refine wm_iadd hX dL_law_710 ?_
      refine wm_sld hX hx dL_law_711 (fun v83 => ?_)
      refine wm_i2l hX dL_law_712 ?_
      refine wm_bipush (32 : Int32) hX dL_law_713 (by decide) ?_
      refine wm_lshl hX dL_law_715 ?_
      refine wm_aload_n 0 hX dL_law_716 rfl rfl ?_
      refine wm_iload_n 3 hX dL_law_717 rfl rfl ?_
      refine wm_iconst (3 : Int32) hX dL_law_718 (by decide) ?_
      refine wm_iadd hX dL_law_719 ?_
      refine wm_sld hX hx dL_law_720 (fun v84 => ?_)
      refine wm_i2l hX dL_law_721 ?_
      refine wm_ldc2 hX dL_law_722 wd_1142 ?_
      refine wm_land hX dL_law_725 ?_
      refine wm_lor hX dL_law_726 ?_
      refine wm_cVi (st := []) hX hz (i_Ob_lot a1 v82 (((v83.toInt64) <<< ((32 : Int32).toInt64 &&& 63)) ||| ((v84.toInt64) &&& (4294967295 : Int64)))) Ckd.of rfl cal_Ob_lot wd_485 rfl (fits_Lw_law_Ob_lot) (Nat.le_of_ble_eq_true rfl) dL_law_727 (fun v85 => ?_)
      refine wm_aload_n 2 hX dL_law_730 rfl rfl ?_
      refine wm_aload_n 0 hX dL_law_731 rfl rfl ?_
      refine wm_iload_n 3 hX dL_law_732 rfl rfl ?_
      refine wm_iconst (1 : Int32) hX dL_law_733 (by decide) ?_
      refine wm_iadd hX dL_law_734 ?_
      refine wm_sld hX hx dL_law_735 (fun v86 => ?_)
      refine wm_aload_n 0 hX dL_law_736 rfl rfl ?_
      refine wm_iload_n 3 hX dL_law_737 rfl rfl ?_
      refine wm_iconst (2 : Int32) hX dL_law_738 (by decide) ?_
      refine wm_iadd hX dL_law_739 ?_
      refine wm_sld hX hx dL_law_740 (fun v87 => ?_)
      refine wm_i2l hX dL_law_741 ?_
      refine wm_bipush (32 : Int32) hX dL_law_742 (by decide) ?_
      refine wm_lshl hX dL_law_744 ?_
      refine wm_aload_n 0 hX dL_law_745 rfl rfl ?_
      refine wm_iload_n 3 hX dL_law_746 rfl rfl ?_
      refine wm_iconst (3 : Int32) hX dL_law_747 (by decide) ?_
      refine wm_iadd hX dL_law_748 ?_
      refine wm_sld hX hx dL_law_749 (fun v88 => ?_)
      refine wm_i2l hX dL_law_750 ?_
      refine wm_ldc2 hX dL_law_751 wd_1142 ?_
      refine wm_land hX dL_law_754 ?_
      refine wm_lor hX dL_law_755 ?_
      refine wm_cVi (st := [.int v85]) hX hz (i_Md_lot a2 v86 (((v87.toInt64) <<< ((32 : Int32).toInt64 &&& 63)) ||| ((v88.toInt64) &&& (4294967295 : Int64)))) Ckd.of rfl cal_Md_lot wd_971 rfl (fits_Lw_law_Md_lot) (Nat.le_of_ble_eq_true rfl) dL_law_756 (fun v89 => ?_)
      refine wm_icmp_eq 1599 hX dL_law_759 (by decide) ?_ ?_
      · refine wm_iinc (i3 + 7) 3 [(3, .int (i3 + 7)), (0, .ref 0), (1, .ref a1), (2, .ref a2)] hX dL_law_1599 rfl rfl (by decide) rfl ?_
        refine wm_goto (tgt := 18) hX dL_law_1602 (by decide) ?_
        refine wm_sub [1, 2, 3, 0] [(0, .ref 0), (1, .ref a1), (2, .ref a2), (3, .int (i3 + 7))] rfl ?_
        exact h18 a1 a2 (i3 + 7)
      · refine wm_iconst (0 : Int32) hX dL_law_762 (by decide) ?_
        exact wm_fl
    · refine wm_aload_n 1 hX dL_law_764 rfl rfl ?_
      refine wm_aload_n 0 hX dL_law_765 rfl rfl ?_
      refine wm_iload_n 3 hX dL_law_766 rfl rfl ?_
      refine wm_iconst (1 : Int32) hX dL_law_767 (by decide) ?_
      refine wm_iadd hX dL_law_768 ?_
      refine wm_sld hX hx dL_law_769 (fun v90 => ?_)
      refine wm_i2l hX dL_law_770 ?_
      refine wm_bipush (32 : Int32) hX dL_law_771 (by decide) ?_
      refine wm_lshl hX dL_law_773 ?_
      refine wm_aload_n 0 hX dL_law_774 rfl rfl ?_
      refine wm_iload_n 3 hX dL_law_775 rfl rfl ?_
      refine wm_iconst (2 : Int32) hX dL_law_776 (by decide) ?_
      refine wm_iadd hX dL_law_777 ?_
      refine wm_sld hX hx dL_law_778 (fun v91 => ?_)
      refine wm_i2l hX dL_law_779 ?_
      refine wm_ldc2 hX dL_law_780 wd_1142 ?_
      refine wm_land hX dL_law_783 ?_
      refine wm_lor hX dL_law_784 ?_
      refine wm_cVi (st := []) hX hz (i_Ob_step a1 (((v90.toInt64) <<< ((32 : Int32).toInt64 &&& 63)) ||| ((v91.toInt64) &&& (4294967295 : Int64)))) Ckd.of rfl cal_Ob_step wd_490 rfl (fits_Lw_law_Ob_step) (Nat.le_of_ble_eq_true rfl) dL_law_785 (fun v92 => ?_)
      refine wm_aload_n 2 hX dL_law_788 rfl rfl ?_
      refine wm_aload_n 0 hX dL_law_789 rfl rfl ?_
      refine wm_iload_n 3 hX dL_law_790 rfl rfl ?_
      refine wm_iconst (1 : Int32) hX dL_law_791 (by decide) ?_
      refine wm_iadd hX dL_law_792 ?_
      refine wm_sld hX hx dL_law_793 (fun v93 => ?_)
      refine wm_i2l hX dL_law_794 ?_
      refine wm_bipush (32 : Int32) hX dL_law_795 (by decide) ?_
      refine wm_lshl hX dL_law_797 ?_
      refine wm_aload_n 0 hX dL_law_798 rfl rfl ?_
      refine wm_iload_n 3 hX dL_law_799 rfl rfl ?_
      refine wm_iconst (2 : Int32) hX dL_law_800 (by decide) ?_
      refine wm_iadd hX dL_law_801 ?_
      refine wm_sld hX hx dL_law_802 (fun v94 => ?_)
      refine wm_i2l hX dL_law_803 ?_
      refine wm_ldc2 hX dL_law_804 wd_1142 ?_
      refine wm_land hX dL_law_807 ?_
      refine wm_lor hX dL_law_808 ?_
      refine wm_cVi (st := [.int v92]) hX hz (i_Md_step a2 (((v93.toInt64) <<< ((32 : Int32).toInt64 &&& 63)) ||| ((v94.toInt64) &&& (4294967295 : Int64)))) Ckd.of rfl cal_Md_step wd_975 rfl (fits_Lw_law_Md_step) (Nat.le_of_ble_eq_true rfl) dL_law_809 (fun v95 => ?_)
      refine wm_icmp_eq 1599 hX dL_law_812 (by decide) ?_ ?_
      · refine wm_iinc (i3 + 7) 3 [(3, .int (i3 + 7)), (0, .ref 0), (1, .ref a1), (2, .ref a2)] hX dL_law_1599 rfl rfl (by decide) rfl ?_
        refine wm_goto (tgt := 18) hX dL_law_1602 (by decide) ?_
        refine wm_sub [1, 2, 3, 0] [(0, .ref 0), (1, .ref a1), (2, .ref a2), (3, .int (i3 + 7))] rfl ?_
        exact h18 a1 a2 (i3 + 7)
      · refine wm_iconst (0 : Int32) hX dL_law_815 (by decide) ?_
        exact wm_fl
    · refine wm_aload_n 1 hX dL_law_817 rfl rfl ?_
      refine wm_aload_n 0 hX dL_law_818 rfl rfl ?_
      refine wm_iload_n 3 hX dL_law_819 rfl rfl ?_
      refine wm_iconst (1 : Int32) hX dL_law_820 (by decide) ?_
      refine wm_iadd hX dL_law_821 ?_
      refine wm_sld hX hx dL_law_822 (fun v96 => ?_)
      refine wm_aload_n 0 hX dL_law_823 rfl rfl ?_
      refine wm_iload_n 3 hX dL_law_824 rfl rfl ?_
      refine wm_iconst (2 : Int32) hX dL_law_825 (by decide) ?_
      refine wm_iadd hX dL_law_826 ?_
      refine wm_sld hX hx dL_law_827 (fun v97 => ?_)
      refine wm_aload_n 0 hX dL_law_828 rfl rfl ?_
      refine wm_iload_n 3 hX dL_law_829 rfl rfl ?_
      refine wm_iconst (3 : Int32) hX dL_law_830 (by decide) ?_
      refine wm_iadd hX dL_law_831 ?_
      refine wm_sld hX hx dL_law_832 (fun v98 => ?_)
      refine wm_cVi (st := []) hX hz (i_Ob_run a1 v96 v97 v98) Ckd.of rfl cal_Ob_run wd_557 rfl (fits_Lw_law_Ob_run) (Nat.le_of_ble_eq_true rfl) dL_law_833 (fun v99 => ?_)
      refine wm_aload_n 2 hX dL_law_836 rfl rfl ?_
      refine wm_aload_n 0 hX dL_law_837 rfl rfl ?_
      refine wm_iload_n 3 hX dL_law_838 rfl rfl ?_
      refine wm_iconst (1 : Int32) hX dL_law_839 (by decide) ?_
      refine wm_iadd hX dL_law_840 ?_
      refine wm_sld hX hx dL_law_841 (fun v100 => ?_)
      refine wm_aload_n 0 hX dL_law_842 rfl rfl ?_
      refine wm_iload_n 3 hX dL_law_843 rfl rfl ?_
      refine wm_iconst (2 : Int32) hX dL_law_844 (by decide) ?_
      refine wm_iadd hX dL_law_845 ?_
      refine wm_sld hX hx dL_law_846 (fun v101 => ?_)
      refine wm_aload_n 0 hX dL_law_847 rfl rfl ?_
      refine wm_iload_n 3 hX dL_law_848 rfl rfl ?_
      refine wm_iconst (3 : Int32) hX dL_law_849 (by decide) ?_
      refine wm_iadd hX dL_law_850 ?_
      refine wm_sld hX hx dL_law_851 (fun v102 => ?_)
      refine wm_cVi (st := [.int v99]) hX hz (i_Md_run a2 v100 v101 v102) Ckd.of rfl cal_Md_run wd_1023 rfl (fits_Lw_law_Md_run) (Nat.le_of_ble_eq_true rfl) dL_law_852 (fun v103 => ?_)
      refine wm_icmp_eq 1599 hX dL_law_855 (by decide) ?_ ?_
      · refine wm_iinc (i3 + 7) 3 [(3, .int (i3 + 7)), (0, .ref 0), (1, .ref a1), (2, .ref a2)] hX dL_law_1599 rfl rfl (by decide) rfl ?_
        refine wm_goto (tgt := 18) hX dL_law_1602 (by decide) ?_
        refine wm_sub [1, 2, 3, 0] [(0, .ref 0), (1, .ref a1), (2, .ref a2), (3, .int (i3 + 7))] rfl ?_
        exact h18 a1 a2 (i3 + 7)
      · refine wm_iconst (0 : Int32) hX dL_law_858 (by decide) ?_
        exact wm_fl
    · refine wm_aload_n 1 hX dL_law_860 rfl rfl ?_
      refine wm_aload_n 0 hX dL_law_861 rfl rfl ?_
      refine wm_iload_n 3 hX dL_law_862 rfl rfl ?_
      refine wm_iconst (1 : Int32) hX dL_law_863 (by decide) ?_
      refine wm_iadd hX dL_law_864 ?_
      refine wm_sld hX hx dL_law_865 (fun v104 => ?_)
      refine wm_cVi (st := []) hX hz (i_Ob_undo a1 v104) Ckd.of rfl cal_Ob_undo wd_561 rfl (fits_Lw_law_Ob_undo) (Nat.le_of_ble_eq_true rfl) dL_law_866 (fun v105 => ?_)
      refine wm_aload_n 2 hX dL_law_869 rfl rfl ?_
      refine wm_aload_n 0 hX dL_law_870 rfl rfl ?_
      refine wm_iload_n 3 hX dL_law_871 rfl rfl ?_
      refine wm_iconst (1 : Int32) hX dL_law_872 (by decide) ?_
      refine wm_iadd hX dL_law_873 ?_
      refine wm_sld hX hx dL_law_874 (fun v106 => ?_)
      refine wm_cVi (st := [.int v105]) hX hz (i_Md_undo a2 v106) Ckd.of rfl cal_Md_undo wd_1028 rfl (fits_Lw_law_Md_undo) (Nat.le_of_ble_eq_true rfl) dL_law_875 (fun v107 => ?_)
      refine wm_icmp_eq 1599 hX dL_law_878 (by decide) ?_ ?_
      · refine wm_iinc (i3 + 7) 3 [(3, .int (i3 + 7)), (0, .ref 0), (1, .ref a1), (2, .ref a2)] hX dL_law_1599 rfl rfl (by decide) rfl ?_
        refine wm_goto (tgt := 18) hX dL_law_1602 (by decide) ?_
        refine wm_sub [1, 2, 3, 0] [(0, .ref 0), (1, .ref a1), (2, .ref a2), (3, .int (i3 + 7))] rfl ?_
        exact h18 a1 a2 (i3 + 7)
      · refine wm_iconst (0 : Int32) hX dL_law_881 (by decide) ?_
        exact wm_fl
    · refine wm_aload_n 1 hX dL_law_883 rfl rfl ?_
      refine wm_cVi (st := []) hX hz (i_Ob_clear a1) Ckd.of rfl cal_Ob_clear wd_570 rfl (fits_Lw_law_Ob_clear) (Nat.le_of_ble_eq_true rfl) dL_law_884 (fun v108 => ?_)
      refine wm_aload_n 2 hX dL_law_887 rfl rfl ?_
      refine wm_cVi (st := [.int v108]) hX hz (i_Md_clear a2) Ckd.of rfl cal_Md_clear wd_1036 rfl (fits_Lw_law_Md_clear) (Nat.le_of_ble_eq_true rfl) dL_law_888 (fun v109 => ?_)
      refine wm_icmp_eq 1599 hX dL_law_891 (by decide) ?_ ?_
      · refine wm_iinc (i3 + 7) 3 [(3, .int (i3 + 7)), (0, .ref 0), (1, .ref a1), (2, .ref a2)] hX dL_law_1599 rfl rfl (by decide) rfl ?_
        refine wm_goto (tgt := 18) hX dL_law_1602 (by decide) ?_
        refine wm_sub [1, 2, 3, 0] [(0, .ref 0), (1, .ref a1), (2, .ref a2), (3, .int (i3 + 7))] rfl ?_
        exact h18 a1 a2 (i3 + 7)
      · refine wm_iconst (0 : Int32) hX dL_law_894 (by decide) ?_
        exact wm_fl
    · refine wm_aload_n 1 hX dL_law_896 rfl rfl ?_
      refine wm_aload_n 0 hX dL_law_897 rfl rfl ?_
      refine wm_iload_n 3 hX dL_law_898 rfl rfl ?_
      refine wm_iconst (1 : Int32) hX dL_law_899 (by decide) ?_
      refine wm_iadd hX dL_law_900 ?_
      refine wm_sld hX hx dL_law_901 (fun v110 => ?_)
      refine wm_aload_n 0 hX dL_law_902 rfl rfl ?_
      refine wm_iload_n 3 hX dL_law_903 rfl rfl ?_
      refine wm_iconst (2 : Int32) hX dL_law_904 (by decide) ?_
      refine wm_iadd hX dL_law_905 ?_
      refine wm_sld hX hx dL_law_906 (fun v111 => ?_)
      refine wm_cVl (st := []) hX hz (i_Ob_stageAt a1 v110 v111) Ckd.of rfl cal_Ob_stageAt wd_574 rfl (fits_Lw_law_Ob_stageAt) (Nat.le_of_ble_eq_true rfl) dL_law_907 (fun v112 => ?_)
      refine wm_aload_n 2 hX dL_law_910 rfl rfl ?_
      refine wm_aload_n 0 hX dL_law_911 rfl rfl ?_
      refine wm_iload_n 3 hX dL_law_912 rfl rfl ?_
      refine wm_iconst (1 : Int32) hX dL_law_913 (by decide) ?_
      refine wm_iadd hX dL_law_914 ?_
      refine wm_sld hX hx dL_law_915 (fun v113 => ?_)
      refine wm_aload_n 0 hX dL_law_916 rfl rfl ?_
      refine wm_iload_n 3 hX dL_law_917 rfl rfl ?_
      refine wm_iconst (2 : Int32) hX dL_law_918 (by decide) ?_
      refine wm_iadd hX dL_law_919 ?_
      refine wm_sld hX hx dL_law_920 (fun v114 => ?_)
      refine wm_cVl (st := [.long v112]) hX hz (i_Md_stageAt a2 v113 v114) Ckd.of rfl cal_Md_stageAt wd_1040 rfl (fits_Lw_law_Md_stageAt) (Nat.le_of_ble_eq_true rfl) dL_law_921 (fun v115 => ?_)
      refine wm_lif_eq 1599 hX dL_law_924 dL_law_925 (by decide) ?_ ?_
      · refine wm_iinc (i3 + 7) 3 [(3, .int (i3 + 7)), (0, .ref 0), (1, .ref a1), (2, .ref a2)] hX dL_law_1599 rfl rfl (by decide) rfl ?_
        refine wm_goto (tgt := 18) hX dL_law_1602 (by decide) ?_
        refine wm_sub [1, 2, 3, 0] [(0, .ref 0), (1, .ref a1), (2, .ref a2), (3, .int (i3 + 7))] rfl ?_
        exact h18 a1 a2 (i3 + 7)
      · refine wm_iconst (0 : Int32) hX dL_law_928 (by decide) ?_
        exact wm_fl
    · refine wm_aload_n 1 hX dL_law_930 rfl rfl ?_
      refine wm_aload_n 0 hX dL_law_931 rfl rfl ?_
      refine wm_iload_n 3 hX dL_law_932 rfl rfl ?_
      refine wm_iconst (1 : Int32) hX dL_law_933 (by decide) ?_
      refine wm_iadd hX dL_law_934 ?_
      refine wm_sld hX hx dL_law_935 (fun v116 => ?_)
      refine wm_cVl (st := []) hX hz (i_Ob_levelAt a1 v116) Ckd.of rfl cal_Ob_levelAt wd_583 rfl (fits_Lw_law_Ob_levelAt) (Nat.le_of_ble_eq_true rfl) dL_law_936 (fun v117 => ?_)
      refine wm_aload_n 2 hX dL_law_939 rfl rfl ?_
      refine wm_aload_n 0 hX dL_law_940 rfl rfl ?_
      refine wm_iload_n 3 hX dL_law_941 rfl rfl ?_
      refine wm_iconst (1 : Int32) hX dL_law_942 (by decide) ?_
      refine wm_iadd hX dL_law_943 ?_
      refine wm_sld hX hx dL_law_944 (fun v118 => ?_)
      refine wm_cVl (st := [.long v117]) hX hz (i_Md_levelAt a2 v118) Ckd.of rfl cal_Md_levelAt wd_1046 rfl (fits_Lw_law_Md_levelAt) (Nat.le_of_ble_eq_true rfl) dL_law_945 (fun v119 => ?_)
      refine wm_lif_eq 1599 hX dL_law_948 dL_law_949 (by decide) ?_ ?_
      · refine wm_iinc (i3 + 7) 3 [(3, .int (i3 + 7)), (0, .ref 0), (1, .ref a1), (2, .ref a2)] hX dL_law_1599 rfl rfl (by decide) rfl ?_
        refine wm_goto (tgt := 18) hX dL_law_1602 (by decide) ?_
        refine wm_sub [1, 2, 3, 0] [(0, .ref 0), (1, .ref a1), (2, .ref a2), (3, .int (i3 + 7))] rfl ?_
        exact h18 a1 a2 (i3 + 7)
      · refine wm_iconst (0 : Int32) hX dL_law_952 (by decide) ?_
        exact wm_fl
    · refine wm_aload_n 1 hX dL_law_954 rfl rfl ?_
      refine wm_aload_n 0 hX dL_law_955 rfl rfl ?_
      refine wm_iload_n 3 hX dL_law_956 rfl rfl ?_
      refine wm_iconst (1 : Int32) hX dL_law_957 (by decide) ?_
      refine wm_iadd hX dL_law_958 ?_
      refine wm_sld hX hx dL_law_959 (fun v120 => ?_)
      refine wm_aload_n 0 hX dL_law_960 rfl rfl ?_
      refine wm_iload_n 3 hX dL_law_961 rfl rfl ?_
      refine wm_iconst (2 : Int32) hX dL_law_962 (by decide) ?_
      refine wm_iadd hX dL_law_963 ?_
      refine wm_sld hX hx dL_law_964 (fun v121 => ?_)
      refine wm_cVl (st := []) hX hz (i_Ob_record a1 v120 v121) Ckd.of rfl cal_Ob_record wd_587 rfl (fits_Lw_law_Ob_record) (Nat.le_of_ble_eq_true rfl) dL_law_965 (fun v122 => ?_)
      refine wm_aload_n 2 hX dL_law_968 rfl rfl ?_
      refine wm_aload_n 0 hX dL_law_969 rfl rfl ?_
      refine wm_iload_n 3 hX dL_law_970 rfl rfl ?_
      refine wm_iconst (1 : Int32) hX dL_law_971 (by decide) ?_
      refine wm_iadd hX dL_law_972 ?_
      refine wm_sld hX hx dL_law_973 (fun v123 => ?_)
      refine wm_aload_n 0 hX dL_law_974 rfl rfl ?_
      refine wm_iload_n 3 hX dL_law_975 rfl rfl ?_
      refine wm_iconst (2 : Int32) hX dL_law_976 (by decide) ?_
      refine wm_iadd hX dL_law_977 ?_
      refine wm_sld hX hx dL_law_978 (fun v124 => ?_)
      refine wm_cVl (st := [.long v122]) hX hz (i_Md_record a2 v123 v124) Ckd.of rfl cal_Md_record wd_1050 rfl (fits_Lw_law_Md_record) (Nat.le_of_ble_eq_true rfl) dL_law_979 (fun v125 => ?_)
      refine wm_lif_eq 1599 hX dL_law_982 dL_law_983 (by decide) ?_ ?_
      · refine wm_iinc (i3 + 7) 3 [(3, .int (i3 + 7)), (0, .ref 0), (1, .ref a1), (2, .ref a2)] hX dL_law_1599 rfl rfl (by decide) rfl ?_
        refine wm_goto (tgt := 18) hX dL_law_1602 (by decide) ?_
        refine wm_sub [1, 2, 3, 0] [(0, .ref 0), (1, .ref a1), (2, .ref a2), (3, .int (i3 + 7))] rfl ?_
        exact h18 a1 a2 (i3 + 7)
      · refine wm_iconst (0 : Int32) hX dL_law_986 (by decide) ?_
        exact wm_fl
    · refine wm_aload_n 1 hX dL_law_988 rfl rfl ?_
      refine wm_aload_n 0 hX dL_law_989 rfl rfl ?_
      refine wm_iload_n 3 hX dL_law_990 rfl rfl ?_
      refine wm_iconst (1 : Int32) hX dL_law_991 (by decide) ?_
      refine wm_iadd hX dL_law_992 ?_
      refine wm_sld hX hx dL_law_993 (fun v126 => ?_)
      refine wm_aload_n 0 hX dL_law_994 rfl rfl ?_
      refine wm_iload_n 3 hX dL_law_995 rfl rfl ?_
      refine wm_iconst (2 : Int32) hX dL_law_996 (by decide) ?_
      refine wm_iadd hX dL_law_997 ?_
      refine wm_sld hX hx dL_law_998 (fun v127 => ?_)
      refine wm_aload_n 0 hX dL_law_999 rfl rfl ?_
      refine wm_iload_n 3 hX dL_law_1000 rfl rfl ?_
      refine wm_iconst (3 : Int32) hX dL_law_1001 (by decide) ?_
      refine wm_iadd hX dL_law_1002 ?_
      refine wm_sld hX hx dL_law_1003 (fun v128 => ?_)
      refine wm_i2l hX dL_law_1004 ?_
      refine wm_bipush (32 : Int32) hX dL_law_1005 (by decide) ?_
      refine wm_lshl hX dL_law_1007 ?_
      refine wm_aload_n 0 hX dL_law_1008 rfl rfl ?_
      refine wm_iload_n 3 hX dL_law_1009 rfl rfl ?_
      refine wm_iconst (4 : Int32) hX dL_law_1010 (by decide) ?_
      refine wm_iadd hX dL_law_1011 ?_
      refine wm_sld hX hx dL_law_1012 (fun v129 => ?_)
      refine wm_i2l hX dL_law_1013 ?_
      refine wm_ldc2 hX dL_law_1014 wd_1142 ?_
      refine wm_land hX dL_law_1017 ?_
      refine wm_lor hX dL_law_1018 ?_
      refine wm_cVi (st := []) hX hz (i_Ob_forge a1 v126 v127 (((v128.toInt64) <<< ((32 : Int32).toInt64 &&& 63)) ||| ((v129.toInt64) &&& (4294967295 : Int64)))) Ckd.of rfl cal_Ob_forge wd_599 rfl (fits_Lw_law_Ob_forge) (Nat.le_of_ble_eq_true rfl) dL_law_1019 (fun v130 => ?_)
      refine wm_aload_n 2 hX dL_law_1022 rfl rfl ?_
      refine wm_aload_n 0 hX dL_law_1023 rfl rfl ?_
      refine wm_iload_n 3 hX dL_law_1024 rfl rfl ?_
      refine wm_iconst (1 : Int32) hX dL_law_1025 (by decide) ?_
      refine wm_iadd hX dL_law_1026 ?_
      refine wm_sld hX hx dL_law_1027 (fun v131 => ?_)
      refine wm_aload_n 0 hX dL_law_1028 rfl rfl ?_
      refine wm_iload_n 3 hX dL_law_1029 rfl rfl ?_
      refine wm_iconst (2 : Int32) hX dL_law_1030 (by decide) ?_
      refine wm_iadd hX dL_law_1031 ?_
      refine wm_sld hX hx dL_law_1032 (fun v132 => ?_)
      refine wm_aload_n 0 hX dL_law_1033 rfl rfl ?_
      refine wm_iload_n 3 hX dL_law_1034 rfl rfl ?_
      refine wm_iconst (3 : Int32) hX dL_law_1035 (by decide) ?_
      refine wm_iadd hX dL_law_1036 ?_
      refine wm_sld hX hx dL_law_1037 (fun v133 => ?_)
      refine wm_i2l hX dL_law_1038 ?_
      refine wm_bipush (32 : Int32) hX dL_law_1039 (by decide) ?_
      refine wm_lshl hX dL_law_1041 ?_
      refine wm_aload_n 0 hX dL_law_1042 rfl rfl ?_
      refine wm_iload_n 3 hX dL_law_1043 rfl rfl ?_
      refine wm_iconst (4 : Int32) hX dL_law_1044 (by decide) ?_
      refine wm_iadd hX dL_law_1045 ?_
      refine wm_sld hX hx dL_law_1046 (fun v134 => ?_)
      refine wm_i2l hX dL_law_1047 ?_
      refine wm_ldc2 hX dL_law_1048 wd_1142 ?_
      refine wm_land hX dL_law_1051 ?_
      refine wm_lor hX dL_law_1052 ?_
      refine wm_cVi (st := [.int v130]) hX hz (i_Md_forge a2 v131 v132 (((v133.toInt64) <<< ((32 : Int32).toInt64 &&& 63)) ||| ((v134.toInt64) &&& (4294967295 : Int64)))) Ckd.of rfl cal_Md_forge wd_1058 rfl (fits_Lw_law_Md_forge) (Nat.le_of_ble_eq_true rfl) dL_law_1053 (fun v135 => ?_)
      refine wm_icmp_eq 1599 hX dL_law_1056 (by decide) ?_ ?_
      · refine wm_iinc (i3 + 7) 3 [(3, .int (i3 + 7)), (0, .ref 0), (1, .ref a1), (2, .ref a2)] hX dL_law_1599 rfl rfl (by decide) rfl ?_
        refine wm_goto (tgt := 18) hX dL_law_1602 (by decide) ?_
        refine wm_sub [1, 2, 3, 0] [(0, .ref 0), (1, .ref a1), (2, .ref a2), (3, .int (i3 + 7))] rfl ?_
        exact h18 a1 a2 (i3 + 7)
      · refine wm_iconst (0 : Int32) hX dL_law_1059 (by decide) ?_
        exact wm_fl
    · refine wm_aload_n 1 hX dL_law_1061 rfl rfl ?_
      refine wm_cVi (st := []) hX hz (i_Ob_check a1) Ckd.of rfl cal_Ob_check wd_603 rfl (fits_Lw_law_Ob_check) (Nat.le_of_ble_eq_true rfl) dL_law_1062 (fun v136 => ?_)
      refine wm_aload_n 2 hX dL_law_1065 rfl rfl ?_
      refine wm_cVi (st := [.int v136]) hX hz (i_Md_check a2) Ckd.of rfl cal_Md_check wd_1062 rfl (fits_Lw_law_Md_check) (Nat.le_of_ble_eq_true rfl) dL_law_1066 (fun v137 => ?_)
      refine wm_icmp_eq 1599 hX dL_law_1069 (by decide) ?_ ?_
      · refine wm_iinc (i3 + 7) 3 [(3, .int (i3 + 7)), (0, .ref 0), (1, .ref a1), (2, .ref a2)] hX dL_law_1599 rfl rfl (by decide) rfl ?_
        refine wm_goto (tgt := 18) hX dL_law_1602 (by decide) ?_
        refine wm_sub [1, 2, 3, 0] [(0, .ref 0), (1, .ref a1), (2, .ref a2), (3, .int (i3 + 7))] rfl ?_
        exact h18 a1 a2 (i3 + 7)
      · refine wm_iconst (0 : Int32) hX dL_law_1072 (by decide) ?_
        exact wm_fl
    · refine wm_aload_n 1 hX dL_law_1074 rfl rfl ?_
      refine wm_aload_n 0 hX dL_law_1075 rfl rfl ?_
      refine wm_iload_n 3 hX dL_law_1076 rfl rfl ?_
      refine wm_iconst (1 : Int32) hX dL_law_1077 (by decide) ?_
      refine wm_iadd hX dL_law_1078 ?_
      refine wm_sld hX hx dL_law_1079 (fun v138 => ?_)
      refine wm_cVl (st := []) hX hz (i_Ob_read a1 v138) Ckd.of rfl cal_Ob_read wd_615 rfl (fits_Lw_law_Ob_read) (Nat.le_of_ble_eq_true rfl) dL_law_1080 (fun v139 => ?_)
      refine wm_aload_n 2 hX dL_law_1083 rfl rfl ?_
      refine wm_aload_n 0 hX dL_law_1084 rfl rfl ?_
      refine wm_iload_n 3 hX dL_law_1085 rfl rfl ?_
      refine wm_iconst (1 : Int32) hX dL_law_1086 (by decide) ?_
      refine wm_iadd hX dL_law_1087 ?_
      refine wm_sld hX hx dL_law_1088 (fun v140 => ?_)
      refine wm_cVl (st := [.long v139]) hX hz (i_Md_read a2 v140) Ckd.of rfl cal_Md_read wd_1066 rfl (fits_Lw_law_Md_read) (Nat.le_of_ble_eq_true rfl) dL_law_1089 (fun v141 => ?_)
      refine wm_lif_eq 1599 hX dL_law_1092 dL_law_1093 (by decide) ?_ ?_
      · refine wm_iinc (i3 + 7) 3 [(3, .int (i3 + 7)), (0, .ref 0), (1, .ref a1), (2, .ref a2)] hX dL_law_1599 rfl rfl (by decide) rfl ?_
        refine wm_goto (tgt := 18) hX dL_law_1602 (by decide) ?_
        refine wm_sub [1, 2, 3, 0] [(0, .ref 0), (1, .ref a1), (2, .ref a2), (3, .int (i3 + 7))] rfl ?_
        exact h18 a1 a2 (i3 + 7)
      · refine wm_iconst (0 : Int32) hX dL_law_1096 (by decide) ?_
        exact wm_fl
    · refine wm_aload_n 1 hX dL_law_1098 rfl rfl ?_
      refine wm_aload_n 0 hX dL_law_1099 rfl rfl ?_
      refine wm_iload_n 3 hX dL_law_1100 rfl rfl ?_
      refine wm_iconst (1 : Int32) hX dL_law_1101 (by decide) ?_
      refine wm_iadd hX dL_law_1102 ?_
      refine wm_sld hX hx dL_law_1103 (fun v142 => ?_)
      refine wm_aload_n 0 hX dL_law_1104 rfl rfl ?_
      refine wm_iload_n 3 hX dL_law_1105 rfl rfl ?_
      refine wm_iconst (2 : Int32) hX dL_law_1106 (by decide) ?_
      refine wm_iadd hX dL_law_1107 ?_
      refine wm_sld hX hx dL_law_1108 (fun v143 => ?_)
      refine wm_cVi (st := []) hX hz (i_Ob_weight a1 v142 v143) Ckd.of rfl cal_Ob_weight wd_620 rfl (fits_Lw_law_Ob_weight) (Nat.le_of_ble_eq_true rfl) dL_law_1109 (fun v144 => ?_)
      refine wm_aload_n 2 hX dL_law_1112 rfl rfl ?_
      refine wm_aload_n 0 hX dL_law_1113 rfl rfl ?_
      refine wm_iload_n 3 hX dL_law_1114 rfl rfl ?_
      refine wm_iconst (1 : Int32) hX dL_law_1115 (by decide) ?_
      refine wm_iadd hX dL_law_1116 ?_
      refine wm_sld hX hx dL_law_1117 (fun v145 => ?_)
      refine wm_aload_n 0 hX dL_law_1118 rfl rfl ?_
      refine wm_iload_n 3 hX dL_law_1119 rfl rfl ?_
      refine wm_iconst (2 : Int32) hX dL_law_1120 (by decide) ?_
      refine wm_iadd hX dL_law_1121 ?_
      refine wm_sld hX hx dL_law_1122 (fun v146 => ?_)
      refine wm_cVi (st := [.int v144]) hX hz (i_Md_weight a2 v145 v146) Ckd.of rfl cal_Md_weight wd_1070 rfl (fits_Lw_law_Md_weight) (Nat.le_of_ble_eq_true rfl) dL_law_1123 (fun v147 => ?_)
      refine wm_icmp_eq 1599 hX dL_law_1126 (by decide) ?_ ?_
      · refine wm_iinc (i3 + 7) 3 [(3, .int (i3 + 7)), (0, .ref 0), (1, .ref a1), (2, .ref a2)] hX dL_law_1599 rfl rfl (by decide) rfl ?_
        refine wm_goto (tgt := 18) hX dL_law_1602 (by decide) ?_
        refine wm_sub [1, 2, 3, 0] [(0, .ref 0), (1, .ref a1), (2, .ref a2), (3, .int (i3 + 7))] rfl ?_
        exact h18 a1 a2 (i3 + 7)
      · refine wm_iconst (0 : Int32) hX dL_law_1129 (by decide) ?_
        exact wm_fl
    · refine wm_aload_n 1 hX dL_law_1131 rfl rfl ?_
      refine wm_aload_n 0 hX dL_law_1132 rfl rfl ?_
      refine wm_iload_n 3 hX dL_law_1133 rfl rfl ?_
      refine wm_iconst (1 : Int32) hX dL_law_1134 (by decide) ?_
      refine wm_iadd hX dL_law_1135 ?_
      refine wm_sld hX hx dL_law_1136 (fun v148 => ?_)
      refine wm_aload_n 0 hX dL_law_1137 rfl rfl ?_
      refine wm_iload_n 3 hX dL_law_1138 rfl rfl ?_
      refine wm_iconst (2 : Int32) hX dL_law_1139 (by decide) ?_
      refine wm_iadd hX dL_law_1140 ?_
      refine wm_sld hX hx dL_law_1141 (fun v149 => ?_)
      refine wm_cVl (st := []) hX hz (i_Ob_sums a1 v148 v149) Ckd.of rfl cal_Ob_sums wd_625 rfl (fits_Lw_law_Ob_sums) (Nat.le_of_ble_eq_true rfl) dL_law_1142 (fun v150 => ?_)
      refine wm_aload_n 2 hX dL_law_1145 rfl rfl ?_
      refine wm_aload_n 0 hX dL_law_1146 rfl rfl ?_
      refine wm_iload_n 3 hX dL_law_1147 rfl rfl ?_
      refine wm_iconst (1 : Int32) hX dL_law_1148 (by decide) ?_
      refine wm_iadd hX dL_law_1149 ?_
      refine wm_sld hX hx dL_law_1150 (fun v151 => ?_)
      refine wm_aload_n 0 hX dL_law_1151 rfl rfl ?_
      refine wm_iload_n 3 hX dL_law_1152 rfl rfl ?_
      refine wm_iconst (2 : Int32) hX dL_law_1153 (by decide) ?_
      refine wm_iadd hX dL_law_1154 ?_
      refine wm_sld hX hx dL_law_1155 (fun v152 => ?_)
      refine wm_cVl (st := [.long v150]) hX hz (i_Md_sums a2 v151 v152) Ckd.of rfl cal_Md_sums wd_1076 rfl (fits_Lw_law_Md_sums) (Nat.le_of_ble_eq_true rfl) dL_law_1156 (fun v153 => ?_)
      refine wm_lif_eq 1599 hX dL_law_1159 dL_law_1160 (by decide) ?_ ?_
      · refine wm_iinc (i3 + 7) 3 [(3, .int (i3 + 7)), (0, .ref 0), (1, .ref a1), (2, .ref a2)] hX dL_law_1599 rfl rfl (by decide) rfl ?_
        refine wm_goto (tgt := 18) hX dL_law_1602 (by decide) ?_
        refine wm_sub [1, 2, 3, 0] [(0, .ref 0), (1, .ref a1), (2, .ref a2), (3, .int (i3 + 7))] rfl ?_
        exact h18 a1 a2 (i3 + 7)
      · refine wm_iconst (0 : Int32) hX dL_law_1163 (by decide) ?_
        exact wm_fl
    · refine wm_aload_n 1 hX dL_law_1165 rfl rfl ?_
      refine wm_aload_n 0 hX dL_law_1166 rfl rfl ?_
      refine wm_iload_n 3 hX dL_law_1167 rfl rfl ?_
      refine wm_iconst (1 : Int32) hX dL_law_1168 (by decide) ?_
      refine wm_iadd hX dL_law_1169 ?_
      refine wm_sld hX hx dL_law_1170 (fun v154 => ?_)
      refine wm_cVi (st := []) hX hz (i_Ob_trace a1 v154) Ckd.of rfl cal_Ob_trace wd_633 rfl (fits_Lw_law_Ob_trace) (Nat.le_of_ble_eq_true rfl) dL_law_1171 (fun v155 => ?_)
      refine wm_aload_n 2 hX dL_law_1174 rfl rfl ?_
      refine wm_aload_n 0 hX dL_law_1175 rfl rfl ?_
      refine wm_iload_n 3 hX dL_law_1176 rfl rfl ?_
      refine wm_iconst (1 : Int32) hX dL_law_1177 (by decide) ?_
      refine wm_iadd hX dL_law_1178 ?_
      refine wm_sld hX hx dL_law_1179 (fun v156 => ?_)
      refine wm_cVi (st := [.int v155]) hX hz (i_Md_trace a2 v156) Ckd.of rfl cal_Md_trace wd_1081 rfl (fits_Lw_law_Md_trace) (Nat.le_of_ble_eq_true rfl) dL_law_1180 (fun v157 => ?_)
      refine wm_icmp_eq 1599 hX dL_law_1183 (by decide) ?_ ?_
      · refine wm_iinc (i3 + 7) 3 [(3, .int (i3 + 7)), (0, .ref 0), (1, .ref a1), (2, .ref a2)] hX dL_law_1599 rfl rfl (by decide) rfl ?_
        refine wm_goto (tgt := 18) hX dL_law_1602 (by decide) ?_
        refine wm_sub [1, 2, 3, 0] [(0, .ref 0), (1, .ref a1), (2, .ref a2), (3, .int (i3 + 7))] rfl ?_
        exact h18 a1 a2 (i3 + 7)
      · refine wm_iconst (0 : Int32) hX dL_law_1186 (by decide) ?_
        exact wm_fl
    · refine wm_aload_n 1 hX dL_law_1188 rfl rfl ?_
      refine wm_aload_n 0 hX dL_law_1189 rfl rfl ?_
      refine wm_iload_n 3 hX dL_law_1190 rfl rfl ?_
      refine wm_iconst (1 : Int32) hX dL_law_1191 (by decide) ?_
      refine wm_iadd hX dL_law_1192 ?_
      refine wm_sld hX hx dL_law_1193 (fun v158 => ?_)
      refine wm_i2l hX dL_law_1194 ?_
      refine wm_bipush (32 : Int32) hX dL_law_1195 (by decide) ?_
      refine wm_lshl hX dL_law_1197 ?_
      refine wm_aload_n 0 hX dL_law_1198 rfl rfl ?_
      refine wm_iload_n 3 hX dL_law_1199 rfl rfl ?_
      refine wm_iconst (2 : Int32) hX dL_law_1200 (by decide) ?_
      refine wm_iadd hX dL_law_1201 ?_
      refine wm_sld hX hx dL_law_1202 (fun v159 => ?_)
      refine wm_i2l hX dL_law_1203 ?_
      refine wm_ldc2 hX dL_law_1204 wd_1142 ?_
      refine wm_land hX dL_law_1207 ?_
      refine wm_lor hX dL_law_1208 ?_
      refine wm_aload_n 0 hX dL_law_1209 rfl rfl ?_
      refine wm_iload_n 3 hX dL_law_1210 rfl rfl ?_
      refine wm_iconst (3 : Int32) hX dL_law_1211 (by decide) ?_
      refine wm_iadd hX dL_law_1212 ?_
      refine wm_sld hX hx dL_law_1213 (fun v160 => ?_)
      refine wm_cVi (st := []) hX hz (i_Ob_hold a1 (((v158.toInt64) <<< ((32 : Int32).toInt64 &&& 63)) ||| ((v159.toInt64) &&& (4294967295 : Int64))) v160) Ckd.of rfl cal_Ob_hold wd_637 rfl (fits_Lw_law_Ob_hold) (Nat.le_of_ble_eq_true rfl) dL_law_1214 (fun v161 => ?_)
      refine wm_aload_n 2 hX dL_law_1217 rfl rfl ?_
      refine wm_aload_n 0 hX dL_law_1218 rfl rfl ?_
      refine wm_iload_n 3 hX dL_law_1219 rfl rfl ?_
      refine wm_iconst (1 : Int32) hX dL_law_1220 (by decide) ?_
      refine wm_iadd hX dL_law_1221 ?_
      refine wm_sld hX hx dL_law_1222 (fun v162 => ?_)
      refine wm_i2l hX dL_law_1223 ?_
      refine wm_bipush (32 : Int32) hX dL_law_1224 (by decide) ?_
      refine wm_lshl hX dL_law_1226 ?_
      refine wm_aload_n 0 hX dL_law_1227 rfl rfl ?_
      refine wm_iload_n 3 hX dL_law_1228 rfl rfl ?_
      refine wm_iconst (2 : Int32) hX dL_law_1229 (by decide) ?_
      refine wm_iadd hX dL_law_1230 ?_
      refine wm_sld hX hx dL_law_1231 (fun v163 => ?_)
      refine wm_i2l hX dL_law_1232 ?_
      refine wm_ldc2 hX dL_law_1233 wd_1142 ?_
      refine wm_land hX dL_law_1236 ?_
      refine wm_lor hX dL_law_1237 ?_
      refine wm_aload_n 0 hX dL_law_1238 rfl rfl ?_
      refine wm_iload_n 3 hX dL_law_1239 rfl rfl ?_
      refine wm_iconst (3 : Int32) hX dL_law_1240 (by decide) ?_
      refine wm_iadd hX dL_law_1241 ?_
      refine wm_sld hX hx dL_law_1242 (fun v164 => ?_)
      refine wm_cVi (st := [.int v161]) hX hz (i_Md_hold a2 (((v162.toInt64) <<< ((32 : Int32).toInt64 &&& 63)) ||| ((v163.toInt64) &&& (4294967295 : Int64))) v164) Ckd.of rfl cal_Md_hold wd_1085 rfl (fits_Lw_law_Md_hold) (Nat.le_of_ble_eq_true rfl) dL_law_1243 (fun v165 => ?_)
      refine wm_icmp_eq 1599 hX dL_law_1246 (by decide) ?_ ?_
      · refine wm_iinc (i3 + 7) 3 [(3, .int (i3 + 7)), (0, .ref 0), (1, .ref a1), (2, .ref a2)] hX dL_law_1599 rfl rfl (by decide) rfl ?_
        refine wm_goto (tgt := 18) hX dL_law_1602 (by decide) ?_
        refine wm_sub [1, 2, 3, 0] [(0, .ref 0), (1, .ref a1), (2, .ref a2), (3, .int (i3 + 7))] rfl ?_
        exact h18 a1 a2 (i3 + 7)
      · refine wm_iconst (0 : Int32) hX dL_law_1249 (by decide) ?_
        exact wm_fl
    · refine wm_aload_n 1 hX dL_law_1251 rfl rfl ?_
      refine wm_aload_n 0 hX dL_law_1252 rfl rfl ?_
      refine wm_iload_n 3 hX dL_law_1253 rfl rfl ?_
      refine wm_iconst (1 : Int32) hX dL_law_1254 (by decide) ?_
      refine wm_iadd hX dL_law_1255 ?_
      refine wm_sld hX hx dL_law_1256 (fun v166 => ?_)
      refine wm_cVl (st := []) hX hz (i_Ob_held a1 v166) Ckd.of rfl cal_Ob_held wd_676 rfl (fits_Lw_law_Ob_held) (Nat.le_of_ble_eq_true rfl) dL_law_1257 (fun v167 => ?_)
      refine wm_aload_n 2 hX dL_law_1260 rfl rfl ?_
      refine wm_aload_n 0 hX dL_law_1261 rfl rfl ?_
      refine wm_iload_n 3 hX dL_law_1262 rfl rfl ?_
      refine wm_iconst (1 : Int32) hX dL_law_1263 (by decide) ?_
      refine wm_iadd hX dL_law_1264 ?_
      refine wm_sld hX hx dL_law_1265 (fun v168 => ?_)
      refine wm_cVl (st := [.long v167]) hX hz (i_Md_held a2 v168) Ckd.of rfl cal_Md_held wd_1098 rfl (fits_Lw_law_Md_held) (Nat.le_of_ble_eq_true rfl) dL_law_1266 (fun v169 => ?_)
      refine wm_lif_eq 1599 hX dL_law_1269 dL_law_1270 (by decide) ?_ ?_
      · refine wm_iinc (i3 + 7) 3 [(3, .int (i3 + 7)), (0, .ref 0), (1, .ref a1), (2, .ref a2)] hX dL_law_1599 rfl rfl (by decide) rfl ?_
        refine wm_goto (tgt := 18) hX dL_law_1602 (by decide) ?_
        refine wm_sub [1, 2, 3, 0] [(0, .ref 0), (1, .ref a1), (2, .ref a2), (3, .int (i3 + 7))] rfl ?_
        exact h18 a1 a2 (i3 + 7)
      · refine wm_iconst (0 : Int32) hX dL_law_1273 (by decide) ?_
        exact wm_fl
    · refine wm_aload_n 1 hX dL_law_1275 rfl rfl ?_
      refine wm_aload_n 0 hX dL_law_1276 rfl rfl ?_
      refine wm_iload_n 3 hX dL_law_1277 rfl rfl ?_
      refine wm_iconst (1 : Int32) hX dL_law_1278 (by decide) ?_
      refine wm_iadd hX dL_law_1279 ?_
      refine wm_sld hX hx dL_law_1280 (fun v170 => ?_)
      refine wm_i2l hX dL_law_1281 ?_
      refine wm_bipush (32 : Int32) hX dL_law_1282 (by decide) ?_
      refine wm_lshl hX dL_law_1284 ?_
      refine wm_aload_n 0 hX dL_law_1285 rfl rfl ?_
      refine wm_iload_n 3 hX dL_law_1286 rfl rfl ?_
      refine wm_iconst (2 : Int32) hX dL_law_1287 (by decide) ?_
      refine wm_iadd hX dL_law_1288 ?_
      refine wm_sld hX hx dL_law_1289 (fun v171 => ?_)
      refine wm_i2l hX dL_law_1290 ?_
      refine wm_ldc2 hX dL_law_1291 wd_1142 ?_
      refine wm_land hX dL_law_1294 ?_
      refine wm_lor hX dL_law_1295 ?_
      refine wm_aload_n 0 hX dL_law_1296 rfl rfl ?_
      refine wm_iload_n 3 hX dL_law_1297 rfl rfl ?_
      refine wm_iconst (3 : Int32) hX dL_law_1298 (by decide) ?_
      refine wm_iadd hX dL_law_1299 ?_
      refine wm_sld hX hx dL_law_1300 (fun v172 => ?_)
      refine wm_i2l hX dL_law_1301 ?_
      refine wm_bipush (32 : Int32) hX dL_law_1302 (by decide) ?_
      refine wm_lshl hX dL_law_1304 ?_
      refine wm_aload_n 0 hX dL_law_1305 rfl rfl ?_
      refine wm_iload_n 3 hX dL_law_1306 rfl rfl ?_
      refine wm_iconst (4 : Int32) hX dL_law_1307 (by decide) ?_
      refine wm_iadd hX dL_law_1308 ?_
      refine wm_sld hX hx dL_law_1309 (fun v173 => ?_)
      refine wm_i2l hX dL_law_1310 ?_
      refine wm_ldc2 hX dL_law_1311 wd_1142 ?_
      refine wm_land hX dL_law_1314 ?_
      refine wm_lor hX dL_law_1315 ?_
      refine wm_aload_n 0 hX dL_law_1316 rfl rfl ?_
      refine wm_iload_n 3 hX dL_law_1317 rfl rfl ?_
      refine wm_iconst (5 : Int32) hX dL_law_1318 (by decide) ?_
      refine wm_iadd hX dL_law_1319 ?_
      refine wm_sld hX hx dL_law_1320 (fun v174 => ?_)
      refine wm_i2l hX dL_law_1321 ?_
      refine wm_bipush (32 : Int32) hX dL_law_1322 (by decide) ?_
      refine wm_lshl hX dL_law_1324 ?_
      refine wm_aload_n 0 hX dL_law_1325 rfl rfl ?_
      refine wm_iload_n 3 hX dL_law_1326 rfl rfl ?_
      refine wm_bipush (6 : Int32) hX dL_law_1327 (by decide) ?_
      refine wm_iadd hX dL_law_1329 ?_
      refine wm_sld hX hx dL_law_1330 (fun v175 => ?_)
      refine wm_i2l hX dL_law_1331 ?_
      refine wm_ldc2 hX dL_law_1332 wd_1142 ?_
      refine wm_land hX dL_law_1335 ?_
      refine wm_lor hX dL_law_1336 ?_
      refine wm_cVi (st := []) hX hz (i_Ob_reach a1 (((v170.toInt64) <<< ((32 : Int32).toInt64 &&& 63)) ||| ((v171.toInt64) &&& (4294967295 : Int64))) (((v172.toInt64) <<< ((32 : Int32).toInt64 &&& 63)) ||| ((v173.toInt64) &&& (4294967295 : Int64))) (((v174.toInt64) <<< ((32 : Int32).toInt64 &&& 63)) ||| ((v175.toInt64) &&& (4294967295 : Int64)))) Ckd.of rfl cal_Ob_reach wd_680 rfl (fits_Lw_law_Ob_reach) (Nat.le_of_ble_eq_true rfl) dL_law_1337 (fun v176 => ?_)
      refine wm_aload_n 2 hX dL_law_1340 rfl rfl ?_
      refine wm_aload_n 0 hX dL_law_1341 rfl rfl ?_
      refine wm_iload_n 3 hX dL_law_1342 rfl rfl ?_
      refine wm_iconst (1 : Int32) hX dL_law_1343 (by decide) ?_
      refine wm_iadd hX dL_law_1344 ?_
      refine wm_sld hX hx dL_law_1345 (fun v177 => ?_)
      refine wm_i2l hX dL_law_1346 ?_
      refine wm_bipush (32 : Int32) hX dL_law_1347 (by decide) ?_
      refine wm_lshl hX dL_law_1349 ?_
      refine wm_aload_n 0 hX dL_law_1350 rfl rfl ?_
      refine wm_iload_n 3 hX dL_law_1351 rfl rfl ?_
      refine wm_iconst (2 : Int32) hX dL_law_1352 (by decide) ?_
      refine wm_iadd hX dL_law_1353 ?_
      refine wm_sld hX hx dL_law_1354 (fun v178 => ?_)
      refine wm_i2l hX dL_law_1355 ?_
      refine wm_ldc2 hX dL_law_1356 wd_1142 ?_
      refine wm_land hX dL_law_1359 ?_
      refine wm_lor hX dL_law_1360 ?_
      refine wm_aload_n 0 hX dL_law_1361 rfl rfl ?_
      refine wm_iload_n 3 hX dL_law_1362 rfl rfl ?_
      refine wm_iconst (3 : Int32) hX dL_law_1363 (by decide) ?_
      refine wm_iadd hX dL_law_1364 ?_
      refine wm_sld hX hx dL_law_1365 (fun v179 => ?_)
      refine wm_i2l hX dL_law_1366 ?_
      refine wm_bipush (32 : Int32) hX dL_law_1367 (by decide) ?_
      refine wm_lshl hX dL_law_1369 ?_
      refine wm_aload_n 0 hX dL_law_1370 rfl rfl ?_
      refine wm_iload_n 3 hX dL_law_1371 rfl rfl ?_
      refine wm_iconst (4 : Int32) hX dL_law_1372 (by decide) ?_
      refine wm_iadd hX dL_law_1373 ?_
      refine wm_sld hX hx dL_law_1374 (fun v180 => ?_)
      refine wm_i2l hX dL_law_1375 ?_
      refine wm_ldc2 hX dL_law_1376 wd_1142 ?_
      refine wm_land hX dL_law_1379 ?_
      refine wm_lor hX dL_law_1380 ?_
      refine wm_aload_n 0 hX dL_law_1381 rfl rfl ?_
      refine wm_iload_n 3 hX dL_law_1382 rfl rfl ?_
      refine wm_iconst (5 : Int32) hX dL_law_1383 (by decide) ?_
      refine wm_iadd hX dL_law_1384 ?_
      refine wm_sld hX hx dL_law_1385 (fun v181 => ?_)
      refine wm_i2l hX dL_law_1386 ?_
      refine wm_bipush (32 : Int32) hX dL_law_1387 (by decide) ?_
      refine wm_lshl hX dL_law_1389 ?_
      refine wm_aload_n 0 hX dL_law_1390 rfl rfl ?_
      refine wm_iload_n 3 hX dL_law_1391 rfl rfl ?_
      refine wm_bipush (6 : Int32) hX dL_law_1392 (by decide) ?_
      refine wm_iadd hX dL_law_1394 ?_
      refine wm_sld hX hx dL_law_1395 (fun v182 => ?_)
      refine wm_i2l hX dL_law_1396 ?_
      refine wm_ldc2 hX dL_law_1397 wd_1142 ?_
      refine wm_land hX dL_law_1400 ?_
      refine wm_lor hX dL_law_1401 ?_
      refine wm_cVi (st := [.int v176]) hX hz (i_Md_reach a2 (((v177.toInt64) <<< ((32 : Int32).toInt64 &&& 63)) ||| ((v178.toInt64) &&& (4294967295 : Int64))) (((v179.toInt64) <<< ((32 : Int32).toInt64 &&& 63)) ||| ((v180.toInt64) &&& (4294967295 : Int64))) (((v181.toInt64) <<< ((32 : Int32).toInt64 &&& 63)) ||| ((v182.toInt64) &&& (4294967295 : Int64)))) Ckd.of rfl cal_Md_reach wd_1102 rfl (fits_Lw_law_Md_reach) (Nat.le_of_ble_eq_true rfl) dL_law_1402 (fun v183 => ?_)
      refine wm_icmp_eq 1599 hX dL_law_1405 (by decide) ?_ ?_
      · refine wm_iinc (i3 + 7) 3 [(3, .int (i3 + 7)), (0, .ref 0), (1, .ref a1), (2, .ref a2)] hX dL_law_1599 rfl rfl (by decide) rfl ?_
        refine wm_goto (tgt := 18) hX dL_law_1602 (by decide) ?_
        refine wm_sub [1, 2, 3, 0] [(0, .ref 0), (1, .ref a1), (2, .ref a2), (3, .int (i3 + 7))] rfl ?_
        exact h18 a1 a2 (i3 + 7)
      · refine wm_iconst (0 : Int32) hX dL_law_1408 (by decide) ?_
        exact wm_fl
    · refine wm_aload_n 1 hX dL_law_1410 rfl rfl ?_
      refine wm_aload_n 0 hX dL_law_1411 rfl rfl ?_
      refine wm_iload_n 3 hX dL_law_1412 rfl rfl ?_
      refine wm_iconst (1 : Int32) hX dL_law_1413 (by decide) ?_
      refine wm_iadd hX dL_law_1414 ?_
      refine wm_sld hX hx dL_law_1415 (fun v184 => ?_)
      refine wm_cVl (st := []) hX hz (i_Ob_leaving a1 v184) Ckd.of rfl cal_Ob_leaving wd_713 rfl (fits_Lw_law_Ob_leaving) (Nat.le_of_ble_eq_true rfl) dL_law_1416 (fun v185 => ?_)
      refine wm_aload_n 2 hX dL_law_1419 rfl rfl ?_
      refine wm_aload_n 0 hX dL_law_1420 rfl rfl ?_
      refine wm_iload_n 3 hX dL_law_1421 rfl rfl ?_
      refine wm_iconst (1 : Int32) hX dL_law_1422 (by decide) ?_
      refine wm_iadd hX dL_law_1423 ?_
      refine wm_sld hX hx dL_law_1424 (fun v186 => ?_)
      refine wm_cVl (st := [.long v185]) hX hz (i_Md_leaving a2 v186) Ckd.of rfl cal_Md_leaving wd_1114 rfl (fits_Lw_law_Md_leaving) (Nat.le_of_ble_eq_true rfl) dL_law_1425 (fun v187 => ?_)
      refine wm_lif_eq 1599 hX dL_law_1428 dL_law_1429 (by decide) ?_ ?_
      · refine wm_iinc (i3 + 7) 3 [(3, .int (i3 + 7)), (0, .ref 0), (1, .ref a1), (2, .ref a2)] hX dL_law_1599 rfl rfl (by decide) rfl ?_
        refine wm_goto (tgt := 18) hX dL_law_1602 (by decide) ?_
        refine wm_sub [1, 2, 3, 0] [(0, .ref 0), (1, .ref a1), (2, .ref a2), (3, .int (i3 + 7))] rfl ?_
        exact h18 a1 a2 (i3 + 7)
      · refine wm_iconst (0 : Int32) hX dL_law_1432 (by decide) ?_
        exact wm_fl
    · refine wm_aload_n 1 hX dL_law_1434 rfl rfl ?_
      refine wm_aload_n 0 hX dL_law_1435 rfl rfl ?_
      refine wm_iload_n 3 hX dL_law_1436 rfl rfl ?_
      refine wm_iconst (1 : Int32) hX dL_law_1437 (by decide) ?_
      refine wm_iadd hX dL_law_1438 ?_
      refine wm_sld hX hx dL_law_1439 (fun v188 => ?_)
      refine wm_aload_n 0 hX dL_law_1440 rfl rfl ?_
      refine wm_iload_n 3 hX dL_law_1441 rfl rfl ?_
      refine wm_iconst (2 : Int32) hX dL_law_1442 (by decide) ?_
      refine wm_iadd hX dL_law_1443 ?_
      refine wm_sld hX hx dL_law_1444 (fun v189 => ?_)
      refine wm_i2l hX dL_law_1445 ?_
      refine wm_bipush (32 : Int32) hX dL_law_1446 (by decide) ?_
      refine wm_lshl hX dL_law_1448 ?_
      refine wm_aload_n 0 hX dL_law_1449 rfl rfl ?_
      refine wm_iload_n 3 hX dL_law_1450 rfl rfl ?_
      refine wm_iconst (3 : Int32) hX dL_law_1451 (by decide) ?_
      refine wm_iadd hX dL_law_1452 ?_
      refine wm_sld hX hx dL_law_1453 (fun v190 => ?_)
      refine wm_i2l hX dL_law_1454 ?_
      refine wm_ldc2 hX dL_law_1455 wd_1142 ?_
      refine wm_land hX dL_law_1458 ?_
      refine wm_lor hX dL_law_1459 ?_
      refine wm_aload_n 0 hX dL_law_1460 rfl rfl ?_
      refine wm_iload_n 3 hX dL_law_1461 rfl rfl ?_
      refine wm_iconst (4 : Int32) hX dL_law_1462 (by decide) ?_
      refine wm_iadd hX dL_law_1463 ?_
      refine wm_sld hX hx dL_law_1464 (fun v191 => ?_)
      refine wm_i2l hX dL_law_1465 ?_
      refine wm_bipush (32 : Int32) hX dL_law_1466 (by decide) ?_
      refine wm_lshl hX dL_law_1468 ?_
      refine wm_aload_n 0 hX dL_law_1469 rfl rfl ?_
      refine wm_iload_n 3 hX dL_law_1470 rfl rfl ?_
      refine wm_iconst (5 : Int32) hX dL_law_1471 (by decide) ?_
      refine wm_iadd hX dL_law_1472 ?_
      refine wm_sld hX hx dL_law_1473 (fun v192 => ?_)
      refine wm_i2l hX dL_law_1474 ?_
      refine wm_ldc2 hX dL_law_1475 wd_1142 ?_
      refine wm_land hX dL_law_1478 ?_
      refine wm_lor hX dL_law_1479 ?_
      refine wm_cVl (st := []) hX hz (i_Ob_worst a1 v188 (((v189.toInt64) <<< ((32 : Int32).toInt64 &&& 63)) ||| ((v190.toInt64) &&& (4294967295 : Int64))) (((v191.toInt64) <<< ((32 : Int32).toInt64 &&& 63)) ||| ((v192.toInt64) &&& (4294967295 : Int64)))) Ckd.of rfl cal_Ob_worst wd_717 rfl (fits_Lw_law_Ob_worst) (Nat.le_of_ble_eq_true rfl) dL_law_1480 (fun v193 => ?_)
      refine wm_aload_n 2 hX dL_law_1483 rfl rfl ?_
      refine wm_aload_n 0 hX dL_law_1484 rfl rfl ?_
      refine wm_iload_n 3 hX dL_law_1485 rfl rfl ?_
      refine wm_iconst (1 : Int32) hX dL_law_1486 (by decide) ?_
      refine wm_iadd hX dL_law_1487 ?_
      refine wm_sld hX hx dL_law_1488 (fun v194 => ?_)
      refine wm_aload_n 0 hX dL_law_1489 rfl rfl ?_
      refine wm_iload_n 3 hX dL_law_1490 rfl rfl ?_
      refine wm_iconst (2 : Int32) hX dL_law_1491 (by decide) ?_
      refine wm_iadd hX dL_law_1492 ?_
      refine wm_sld hX hx dL_law_1493 (fun v195 => ?_)
      refine wm_i2l hX dL_law_1494 ?_
      refine wm_bipush (32 : Int32) hX dL_law_1495 (by decide) ?_
      refine wm_lshl hX dL_law_1497 ?_
      refine wm_aload_n 0 hX dL_law_1498 rfl rfl ?_
      refine wm_iload_n 3 hX dL_law_1499 rfl rfl ?_
      refine wm_iconst (3 : Int32) hX dL_law_1500 (by decide) ?_
      refine wm_iadd hX dL_law_1501 ?_
      refine wm_sld hX hx dL_law_1502 (fun v196 => ?_)
      refine wm_i2l hX dL_law_1503 ?_
      refine wm_ldc2 hX dL_law_1504 wd_1142 ?_
      refine wm_land hX dL_law_1507 ?_
      refine wm_lor hX dL_law_1508 ?_
      refine wm_aload_n 0 hX dL_law_1509 rfl rfl ?_
      refine wm_iload_n 3 hX dL_law_1510 rfl rfl ?_
      refine wm_iconst (4 : Int32) hX dL_law_1511 (by decide) ?_
      refine wm_iadd hX dL_law_1512 ?_
      refine wm_sld hX hx dL_law_1513 (fun v197 => ?_)
      refine wm_i2l hX dL_law_1514 ?_
      refine wm_bipush (32 : Int32) hX dL_law_1515 (by decide) ?_
      refine wm_lshl hX dL_law_1517 ?_
      refine wm_aload_n 0 hX dL_law_1518 rfl rfl ?_
      refine wm_iload_n 3 hX dL_law_1519 rfl rfl ?_
      refine wm_iconst (5 : Int32) hX dL_law_1520 (by decide) ?_
      refine wm_iadd hX dL_law_1521 ?_
      refine wm_sld hX hx dL_law_1522 (fun v198 => ?_)
      refine wm_i2l hX dL_law_1523 ?_
      refine wm_ldc2 hX dL_law_1524 wd_1142 ?_
      refine wm_land hX dL_law_1527 ?_
      refine wm_lor hX dL_law_1528 ?_
      refine wm_cVl (st := [.long v193]) hX hz (i_Md_worst a2 v194 (((v195.toInt64) <<< ((32 : Int32).toInt64 &&& 63)) ||| ((v196.toInt64) &&& (4294967295 : Int64))) (((v197.toInt64) <<< ((32 : Int32).toInt64 &&& 63)) ||| ((v198.toInt64) &&& (4294967295 : Int64)))) Ckd.of rfl cal_Md_worst wd_1118 rfl (fits_Lw_law_Md_worst) (Nat.le_of_ble_eq_true rfl) dL_law_1529 (fun v199 => ?_)
      refine wm_lif_eq 1599 hX dL_law_1532 dL_law_1533 (by decide) ?_ ?_
      · refine wm_iinc (i3 + 7) 3 [(3, .int (i3 + 7)), (0, .ref 0), (1, .ref a1), (2, .ref a2)] hX dL_law_1599 rfl rfl (by decide) rfl ?_
        refine wm_goto (tgt := 18) hX dL_law_1602 (by decide) ?_
        refine wm_sub [1, 2, 3, 0] [(0, .ref 0), (1, .ref a1), (2, .ref a2), (3, .int (i3 + 7))] rfl ?_
        exact h18 a1 a2 (i3 + 7)
      · refine wm_iconst (0 : Int32) hX dL_law_1536 (by decide) ?_
        exact wm_fl
    · refine wm_aload_n 1 hX dL_law_1538 rfl rfl ?_
      refine wm_aload_n 0 hX dL_law_1539 rfl rfl ?_
      refine wm_iload_n 3 hX dL_law_1540 rfl rfl ?_
      refine wm_iconst (1 : Int32) hX dL_law_1541 (by decide) ?_
      refine wm_iadd hX dL_law_1542 ?_
      refine wm_sld hX hx dL_law_1543 (fun v200 => ?_)
      refine wm_cVl (st := []) hX hz (i_Ob_worstAt a1 v200) Ckd.of rfl cal_Ob_worstAt wd_741 rfl (fits_Lw_law_Ob_worstAt) (Nat.le_of_ble_eq_true rfl) dL_law_1544 (fun v201 => ?_)
      refine wm_aload_n 2 hX dL_law_1547 rfl rfl ?_
      refine wm_aload_n 0 hX dL_law_1548 rfl rfl ?_
      refine wm_iload_n 3 hX dL_law_1549 rfl rfl ?_
      refine wm_iconst (1 : Int32) hX dL_law_1550 (by decide) ?_
      refine wm_iadd hX dL_law_1551 ?_
      refine wm_sld hX hx dL_law_1552 (fun v202 => ?_)
      refine wm_cVl (st := [.long v201]) hX hz (i_Md_worstAt a2 v202) Ckd.of rfl cal_Md_worstAt wd_1127 rfl (fits_Lw_law_Md_worstAt) (Nat.le_of_ble_eq_true rfl) dL_law_1553 (fun v203 => ?_)
      refine wm_lif_eq 1599 hX dL_law_1556 dL_law_1557 (by decide) ?_ ?_
      · refine wm_iinc (i3 + 7) 3 [(3, .int (i3 + 7)), (0, .ref 0), (1, .ref a1), (2, .ref a2)] hX dL_law_1599 rfl rfl (by decide) rfl ?_
        refine wm_goto (tgt := 18) hX dL_law_1602 (by decide) ?_
        refine wm_sub [1, 2, 3, 0] [(0, .ref 0), (1, .ref a1), (2, .ref a2), (3, .int (i3 + 7))] rfl ?_
        exact h18 a1 a2 (i3 + 7)
      · refine wm_iconst (0 : Int32) hX dL_law_1560 (by decide) ?_
        exact wm_fl
    · refine wm_aload_n 1 hX dL_law_1562 rfl rfl ?_
      refine wm_aload_n 0 hX dL_law_1563 rfl rfl ?_
      refine wm_iload_n 3 hX dL_law_1564 rfl rfl ?_
      refine wm_iconst (1 : Int32) hX dL_law_1565 (by decide) ?_
      refine wm_iadd hX dL_law_1566 ?_
      refine wm_sld hX hx dL_law_1567 (fun v204 => ?_)
      refine wm_cVi (st := []) hX hz (i_Ob_count a1 v204) Ckd.of rfl cal_Ob_count wd_749 rfl (fits_Lw_law_Ob_count) (Nat.le_of_ble_eq_true rfl) dL_law_1568 (fun v205 => ?_)
      refine wm_aload_n 2 hX dL_law_1571 rfl rfl ?_
      refine wm_aload_n 0 hX dL_law_1572 rfl rfl ?_
      refine wm_iload_n 3 hX dL_law_1573 rfl rfl ?_
      refine wm_iconst (1 : Int32) hX dL_law_1574 (by decide) ?_
      refine wm_iadd hX dL_law_1575 ?_
      refine wm_sld hX hx dL_law_1576 (fun v206 => ?_)
      refine wm_cVi (st := [.int v205]) hX hz (i_Md_count a2 v206) Ckd.of rfl cal_Md_count wd_1131 rfl (fits_Lw_law_Md_count) (Nat.le_of_ble_eq_true rfl) dL_law_1577 (fun v207 => ?_)
      refine wm_icmp_eq 1599 hX dL_law_1580 (by decide) ?_ ?_
      · refine wm_iinc (i3 + 7) 3 [(3, .int (i3 + 7)), (0, .ref 0), (1, .ref a1), (2, .ref a2)] hX dL_law_1599 rfl rfl (by decide) rfl ?_
        refine wm_goto (tgt := 18) hX dL_law_1602 (by decide) ?_
        refine wm_sub [1, 2, 3, 0] [(0, .ref 0), (1, .ref a1), (2, .ref a2), (3, .int (i3 + 7))] rfl ?_
        exact h18 a1 a2 (i3 + 7)
      · refine wm_iconst (0 : Int32) hX dL_law_1583 (by decide) ?_
        exact wm_fl
    · refine wm_aload_n 1 hX dL_law_1585 rfl rfl ?_
      refine wm_cVl (st := []) hX hz (i_Ob_digest a1) Ckd.of rfl cal_Ob_digest wd_753 rfl (fits_Lw_law_Ob_digest) (Nat.le_of_ble_eq_true rfl) dL_law_1586 (fun v208 => ?_)
      refine wm_aload_n 2 hX dL_law_1589 rfl rfl ?_
      refine wm_cVl (st := [.long v208]) hX hz (i_Md_digest a2) Ckd.of rfl cal_Md_digest wd_1135 rfl (fits_Lw_law_Md_digest) (Nat.le_of_ble_eq_true rfl) dL_law_1590 (fun v209 => ?_)
      refine wm_lif_eq 1599 hX dL_law_1593 dL_law_1594 (by decide) ?_ ?_
      · refine wm_iinc (i3 + 7) 3 [(3, .int (i3 + 7)), (0, .ref 0), (1, .ref a1), (2, .ref a2)] hX dL_law_1599 rfl rfl (by decide) rfl ?_
        refine wm_goto (tgt := 18) hX dL_law_1602 (by decide) ?_
        refine wm_sub [1, 2, 3, 0] [(0, .ref 0), (1, .ref a1), (2, .ref a2), (3, .int (i3 + 7))] rfl ?_
        exact h18 a1 a2 (i3 + 7)
      · refine wm_iconst (0 : Int32) hX dL_law_1597 (by decide) ?_
        exact wm_fl
    · refine wm_iinc (i3 + 7) 3 [(3, .int (i3 + 7)), (0, .ref 0), (1, .ref a1), (2, .ref a2)] hX dL_law_1599 rfl rfl (by decide) rfl ?_
      refine wm_goto (tgt := 18) hX dL_law_1602 (by decide) ?_
      refine wm_sub [1, 2, 3, 0] [(0, .ref 0), (1, .ref a1), (2, .ref a2), (3, .int (i3 + 7))] rfl ?_
      exact h18 a1 a2 (i3 + 7)
theorem wl_Lw_law_18 {X : CX Int32} {L : Nat} {xs : Nat → Int32} (hX : Cx X RL cL_law 4 room_1) (hx : Lx X L xs) (hret : ∀ (pc : Nat) (lo : List (Nat × Value)), decode cL_law pc = .ok (.ireturn, 1) → WM X pc lo [.int 1] 106 21379 (rt (1 : Int32))) (hz : Zx X false) : ∀ (n : Nat) (a1 : Nat) (a2 : Nat) (i3 : Int32), WM X 18 [(0, .ref 0), (1, .ref a1), (2, .ref a2), (3, .int i3)] [] 106 21379 (l_Lw_law_18 L xs n a1 a2 i3)
  | 0, _, _, _ => wm_fl
  | n + 1, a1, a2, i3 => wb_Lw_law_18 hX hx hret hz (wl_Lw_law_18 hX hx hret hz n) a1 a2 i3
set_option maxRecDepth 20000 in
theorem w_Lw_law {X : CX Int32} (hX : Cx X RL cL_law 4 room_1) (hz : Zx X true) {k : Nat → Nat → M Int32} (hk : ∀ (v1 v2 : Nat), WM X 18 [(0, .ref 0), (1, .ref v1), (2, .ref v2), (3, .int 0)] [] 106 21379 (k v1 v2)) : WM X 0 [(0, .ref 0)] [] 0 0 (bd (nw (.inr (8, fun j => defaultValue (tyX8 j)))) (fun v1 => bd (m_Ob_init v1) (fun _ => bd (nw (.inr (9, fun j => defaultValue (tyX9 j)))) (fun v2 => bd (m_Md_init v2) (fun _ => k v1 v2))))) := by
  refine wm_new hX hz cf_X8 tyX8_ok wd_57 wd_58 wd_41 dL_law_0 ⟨Nat.le_of_ble_eq_true rfl, Nat.le_of_ble_eq_true rfl⟩ (fun v1 hq_v1 => ?_)
  refine wm_dup hX dL_law_3 rfl ?_
  refine wm_callI (st := [.ref v1]) hX hz (i_Ob_init v1) cal_Ob_init wd_59 rfl hq_v1 ⟨Nat.le_of_ble_eq_true rfl, Nat.le_of_ble_eq_true rfl⟩ (Nat.le_of_ble_eq_true rfl) ⟨Nat.le_of_ble_eq_true rfl, Nat.le_of_ble_eq_true rfl⟩ dL_law_4 ?_
  refine wm_astore_n [(1, .ref v1), (0, .ref 0)] hX dL_law_7 rfl (by decide) rfl ?_
  refine wm_new hX hz cf_X9 tyX9_ok wd_759 wd_760 wd_50 dL_law_8 ⟨Nat.le_of_ble_eq_true rfl, Nat.le_of_ble_eq_true rfl⟩ (fun v2 hq_v2 => ?_)
  refine wm_dup hX dL_law_11 rfl ?_
  refine wm_callI (st := [.ref v2]) hX hz (i_Md_init v2) cal_Md_init wd_761 rfl hq_v2 ⟨Nat.le_of_ble_eq_true rfl, Nat.le_of_ble_eq_true rfl⟩ (Nat.le_of_ble_eq_true rfl) ⟨Nat.le_of_ble_eq_true rfl, Nat.le_of_ble_eq_true rfl⟩ dL_law_12 ?_
  refine wm_astore_n [(2, .ref v2), (1, .ref v1), (0, .ref 0)] hX dL_law_15 rfl (by decide) rfl ?_
  refine wm_iconst (0 : Int32) hX dL_law_16 (by decide) ?_
  refine wm_istore_n [(3, .int (0 : Int32)), (2, .ref v2), (1, .ref v1), (0, .ref 0)] hX dL_law_17 rfl (by decide) rfl ?_
  refine wm_sub [3, 2, 1, 0] [(0, .ref 0), (1, .ref v1), (2, .ref v2), (3, .int (0 : Int32))] rfl ?_
  exact hk v1 v2
