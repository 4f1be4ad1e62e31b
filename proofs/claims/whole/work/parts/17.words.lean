/-! The words of the tables that the rows use; what they say of fields and methods. -/
theorem wd_0 : (Jvm.Cond.selects "OneBitLoop" ({ cls := "OneBitLoop", name := "found", desc := "(I)I" } : Jvm.MethodName) ({ cls := "OneBitLoop", name := "found", desc := "(I)I" } : Jvm.MethodName)) ∈ lw_g := lw_g_mem (List.mem_of_getElem? (i := 0) (by decide +kernel)) (by decide +kernel)
theorem wd_1 : (Jvm.Cond.selects "OneBitLoop" ({ cls := "OneBitLoop", name := "refuseItem", desc := "(III)I" } : Jvm.MethodName) ({ cls := "OneBitLoop", name := "refuseItem", desc := "(III)I" } : Jvm.MethodName)) ∈ lw_g := lw_g_mem (List.mem_of_getElem? (i := 1) (by decide +kernel)) (by decide +kernel)
theorem wd_2 : (Jvm.Cond.selects "OneBitLoop" ({ cls := "OneBitLoop", name := "refuseSample", desc := "(IJ)I" } : Jvm.MethodName) ({ cls := "OneBitLoop", name := "refuseSample", desc := "(IJ)I" } : Jvm.MethodName)) ∈ lw_g := lw_g_mem (List.mem_of_getElem? (i := 2) (by decide +kernel)) (by decide +kernel)
theorem wd_3 : (Jvm.Cond.selects "OneBitLoop" ({ cls := "OneBitLoop", name := "makeOne", desc := "(J)I" } : Jvm.MethodName) ({ cls := "OneBitLoop", name := "makeOne", desc := "(J)I" } : Jvm.MethodName)) ∈ lw_g := lw_g_mem (List.mem_of_getElem? (i := 3) (by decide +kernel)) (by decide +kernel)
theorem wd_4 : (Jvm.Cond.selects "OneBitLoop$Twin" ({ cls := "OneBitLoop$Twin", name := "drawLot", desc := "()J" } : Jvm.MethodName) ({ cls := "OneBitLoop$Twin", name := "drawLot", desc := "()J" } : Jvm.MethodName)) ∈ lw_g := lw_g_mem (List.mem_of_getElem? (i := 4) (by decide +kernel)) (by decide +kernel)
theorem wd_5 : (Jvm.Cond.selects "OneBitLoop$Twin" ({ cls := "OneBitLoop$Twin", name := "takeStage", desc := "(IJJJ)V" } : Jvm.MethodName) ({ cls := "OneBitLoop$Twin", name := "takeStage", desc := "(IJJJ)V" } : Jvm.MethodName)) ∈ lw_g := lw_g_mem (List.mem_of_getElem? (i := 5) (by decide +kernel)) (by decide +kernel)
theorem wd_6 : (Jvm.Cond.selects "OneBitLoop$Twin" ({ cls := "OneBitLoop$Twin", name := "mark", desc := "(I)V" } : Jvm.MethodName) ({ cls := "OneBitLoop$Twin", name := "mark", desc := "(I)V" } : Jvm.MethodName)) ∈ lw_g := lw_g_mem (List.mem_of_getElem? (i := 6) (by decide +kernel)) (by decide +kernel)
theorem wd_7 : (Jvm.Cond.selects "OneBitLoop$Twin" ({ cls := "OneBitLoop$Twin", name := "turnedBy", desc := "(II)J" } : Jvm.MethodName) ({ cls := "OneBitLoop$Twin", name := "turnedBy", desc := "(II)J" } : Jvm.MethodName)) ∈ lw_g := lw_g_mem (List.mem_of_getElem? (i := 7) (by decide +kernel)) (by decide +kernel)
theorem wd_8 : (Jvm.Cond.selects "OneBitLoop$Twin" ({ cls := "OneBitLoop$Twin", name := "leak", desc := "(I)V" } : Jvm.MethodName) ({ cls := "OneBitLoop$Twin", name := "leak", desc := "(I)V" } : Jvm.MethodName)) ∈ lw_g := lw_g_mem (List.mem_of_getElem? (i := 8) (by decide +kernel)) (by decide +kernel)
theorem wd_9 : (Jvm.Cond.selects "OneBitLoop$Twin" ({ cls := "OneBitLoop$Twin", name := "addUp", desc := "(IJJ)V" } : Jvm.MethodName) ({ cls := "OneBitLoop$Twin", name := "addUp", desc := "(IJJ)V" } : Jvm.MethodName)) ∈ lw_g := lw_g_mem (List.mem_of_getElem? (i := 9) (by decide +kernel)) (by decide +kernel)
theorem wd_10 : (Jvm.Cond.selects "OneBitLoop$Twin" ({ cls := "OneBitLoop$Twin", name := "cutToBound", desc := "(I)V" } : Jvm.MethodName) ({ cls := "OneBitLoop$Twin", name := "cutToBound", desc := "(I)V" } : Jvm.MethodName)) ∈ lw_g := lw_g_mem (List.mem_of_getElem? (i := 10) (by decide +kernel)) (by decide +kernel)
theorem wd_11 : (Jvm.Cond.selects "OneBitLoop" ({ cls := "OneBitLoop", name := "isRecorded", desc := "(II)Z" } : Jvm.MethodName) ({ cls := "OneBitLoop", name := "isRecorded", desc := "(II)Z" } : Jvm.MethodName)) ∈ lw_g := lw_g_mem (List.mem_of_getElem? (i := 11) (by decide +kernel)) (by decide +kernel)
theorem wd_12 : (Jvm.Cond.selects "OneBitLoop$Seen" ({ cls := "OneBitLoop$Seen", name := "ask", desc := "(LOneBitLoop$Twin;)V" } : Jvm.MethodName) ({ cls := "OneBitLoop$Seen", name := "ask", desc := "(LOneBitLoop$Twin;)V" } : Jvm.MethodName)) ∈ lw_g := lw_g_mem (List.mem_of_getElem? (i := 12) (by decide +kernel)) (by decide +kernel)
theorem wd_13 : (Jvm.Cond.selects "OneBitLoop$Seen" ({ cls := "OneBitLoop$Seen", name := "hashOfAsked", desc := "()I" } : Jvm.MethodName) ({ cls := "OneBitLoop$Seen", name := "hashOfAsked", desc := "()I" } : Jvm.MethodName)) ∈ lw_g := lw_g_mem (List.mem_of_getElem? (i := 13) (by decide +kernel)) (by decide +kernel)
theorem wd_14 : (Jvm.Cond.selects "OneBitLoop$Seen" ({ cls := "OneBitLoop$Seen", name := "isAsked", desc := "(I)Z" } : Jvm.MethodName) ({ cls := "OneBitLoop$Seen", name := "isAsked", desc := "(I)Z" } : Jvm.MethodName)) ∈ lw_g := lw_g_mem (List.mem_of_getElem? (i := 14) (by decide +kernel)) (by decide +kernel)
theorem wd_15 : (Jvm.Cond.selects "OneBitLoop" ({ cls := "OneBitLoop", name := "isReachable", desc := "()Z" } : Jvm.MethodName) ({ cls := "OneBitLoop", name := "isReachable", desc := "()Z" } : Jvm.MethodName)) ∈ lw_g := lw_g_mem (List.mem_of_getElem? (i := 15) (by decide +kernel)) (by decide +kernel)
theorem wd_16 : (Jvm.Cond.selects "OneBitLoop$Reaching" ({ cls := "OneBitLoop$Reaching", name := "tryFrom", desc := "(ILOneBitLoop$Twin;JJ)I" } : Jvm.MethodName) ({ cls := "OneBitLoop$Reaching", name := "tryFrom", desc := "(ILOneBitLoop$Twin;JJ)I" } : Jvm.MethodName)) ∈ lw_g := lw_g_mem (List.mem_of_getElem? (i := 16) (by decide +kernel)) (by decide +kernel)
theorem wd_17 : (Jvm.Cond.selects "OneBitLoop$Reaching" ({ cls := "OneBitLoop$Reaching", name := "isBeyond", desc := "(LOneBitLoop$Twin;J)Z" } : Jvm.MethodName) ({ cls := "OneBitLoop$Reaching", name := "isBeyond", desc := "(LOneBitLoop$Twin;J)Z" } : Jvm.MethodName)) ∈ lw_g := lw_g_mem (List.mem_of_getElem? (i := 17) (by decide +kernel)) (by decide +kernel)
theorem wd_18 : (Jvm.Cond.selects "OneBitLoop$Reaching" ({ cls := "OneBitLoop$Reaching", name := "tellRow", desc := "(IJ)V" } : Jvm.MethodName) ({ cls := "OneBitLoop$Reaching", name := "tellRow", desc := "(IJ)V" } : Jvm.MethodName)) ∈ lw_g := lw_g_mem (List.mem_of_getElem? (i := 18) (by decide +kernel)) (by decide +kernel)
theorem wd_19 : (Jvm.Cond.selects "OneBitLoop$Worst" ({ cls := "OneBitLoop$Worst", name := "goOn", desc := "(IIIJJ)Z" } : Jvm.MethodName) ({ cls := "OneBitLoop$Worst", name := "goOn", desc := "(IIIJJ)Z" } : Jvm.MethodName)) ∈ lw_g := lw_g_mem (List.mem_of_getElem? (i := 19) (by decide +kernel)) (by decide +kernel)
theorem wd_20 : (Jvm.Cond.selects "OneBitLoopModel" ({ cls := "OneBitLoopModel", name := "meets", desc := "(I)I" } : Jvm.MethodName) ({ cls := "OneBitLoopModel", name := "meets", desc := "(I)I" } : Jvm.MethodName)) ∈ lw_g := lw_g_mem (List.mem_of_getElem? (i := 20) (by decide +kernel)) (by decide +kernel)
theorem wd_21 : (Jvm.Cond.selects "OneBitLoopModel" ({ cls := "OneBitLoopModel", name := "lacks", desc := "(III)I" } : Jvm.MethodName) ({ cls := "OneBitLoopModel", name := "lacks", desc := "(III)I" } : Jvm.MethodName)) ∈ lw_g := lw_g_mem (List.mem_of_getElem? (i := 21) (by decide +kernel)) (by decide +kernel)
theorem wd_22 : (Jvm.Cond.selects "OneBitLoopModel" ({ cls := "OneBitLoopModel", name := "sampleOf", desc := "(II)J" } : Jvm.MethodName) ({ cls := "OneBitLoopModel", name := "sampleOf", desc := "(II)J" } : Jvm.MethodName)) ∈ lw_g := lw_g_mem (List.mem_of_getElem? (i := 22) (by decide +kernel)) (by decide +kernel)
theorem wd_23 : (Jvm.Cond.selects "OneBitLoopModel" ({ cls := "OneBitLoopModel", name := "does", desc := "(J)I" } : Jvm.MethodName) ({ cls := "OneBitLoopModel", name := "does", desc := "(J)I" } : Jvm.MethodName)) ∈ lw_g := lw_g_mem (List.mem_of_getElem? (i := 23) (by decide +kernel)) (by decide +kernel)
theorem wd_24 : (Jvm.Cond.selects "OneBitLoopModel" ({ cls := "OneBitLoopModel", name := "take", desc := "()V" } : Jvm.MethodName) ({ cls := "OneBitLoopModel", name := "take", desc := "()V" } : Jvm.MethodName)) ∈ lw_g := lw_g_mem (List.mem_of_getElem? (i := 24) (by decide +kernel)) (by decide +kernel)
theorem wd_25 : (Jvm.Cond.selects "OneBitLoopModel" ({ cls := "OneBitLoopModel", name := "tries", desc := "(J)Z" } : Jvm.MethodName) ({ cls := "OneBitLoopModel", name := "tries", desc := "(J)Z" } : Jvm.MethodName)) ∈ lw_g := lw_g_mem (List.mem_of_getElem? (i := 25) (by decide +kernel)) (by decide +kernel)
theorem wd_26 : (Jvm.Cond.selects "OneBitLoopModel" ({ cls := "OneBitLoopModel", name := "nearest", desc := "(J)I" } : Jvm.MethodName) ({ cls := "OneBitLoopModel", name := "nearest", desc := "(J)I" } : Jvm.MethodName)) ∈ lw_g := lw_g_mem (List.mem_of_getElem? (i := 26) (by decide +kernel)) (by decide +kernel)
theorem wd_27 : (Jvm.Cond.selects "OneBitLoopModel" ({ cls := "OneBitLoopModel", name := "takes", desc := "(IJJJ)V" } : Jvm.MethodName) ({ cls := "OneBitLoopModel", name := "takes", desc := "(IJJJ)V" } : Jvm.MethodName)) ∈ lw_g := lw_g_mem (List.mem_of_getElem? (i := 27) (by decide +kernel)) (by decide +kernel)
theorem wd_28 : (Jvm.Cond.selects "OneBitLoopModel" ({ cls := "OneBitLoopModel", name := "plain", desc := "(IJJ)V" } : Jvm.MethodName) ({ cls := "OneBitLoopModel", name := "plain", desc := "(IJJ)V" } : Jvm.MethodName)) ∈ lw_g := lw_g_mem (List.mem_of_getElem? (i := 28) (by decide +kernel)) (by decide +kernel)
theorem wd_29 : (Jvm.Cond.selects "OneBitLoopModel" ({ cls := "OneBitLoopModel", name := "writes", desc := "(I)V" } : Jvm.MethodName) ({ cls := "OneBitLoopModel", name := "writes", desc := "(I)V" } : Jvm.MethodName)) ∈ lw_g := lw_g_mem (List.mem_of_getElem? (i := 29) (by decide +kernel)) (by decide +kernel)
theorem wd_30 : (Jvm.Cond.selects "OneBitLoopModel" ({ cls := "OneBitLoopModel", name := "leaky", desc := "(IJJ)V" } : Jvm.MethodName) ({ cls := "OneBitLoopModel", name := "leaky", desc := "(IJJ)V" } : Jvm.MethodName)) ∈ lw_g := lw_g_mem (List.mem_of_getElem? (i := 30) (by decide +kernel)) (by decide +kernel)
theorem wd_31 : (Jvm.Cond.selects "OneBitLoopModel" ({ cls := "OneBitLoopModel", name := "bounded", desc := "(IJJ)V" } : Jvm.MethodName) ({ cls := "OneBitLoopModel", name := "bounded", desc := "(IJJ)V" } : Jvm.MethodName)) ∈ lw_g := lw_g_mem (List.mem_of_getElem? (i := 31) (by decide +kernel)) (by decide +kernel)
theorem wd_32 : (Jvm.Cond.selects "OneBitLoopModel" ({ cls := "OneBitLoopModel", name := "lay", desc := "()V" } : Jvm.MethodName) ({ cls := "OneBitLoopModel", name := "lay", desc := "()V" } : Jvm.MethodName)) ∈ lw_g := lw_g_mem (List.mem_of_getElem? (i := 32) (by decide +kernel)) (by decide +kernel)
theorem wd_33 : (Jvm.Cond.selects "OneBitLoopModel" ({ cls := "OneBitLoopModel", name := "rest", desc := "()V" } : Jvm.MethodName) ({ cls := "OneBitLoopModel", name := "rest", desc := "()V" } : Jvm.MethodName)) ∈ lw_g := lw_g_mem (List.mem_of_getElem? (i := 33) (by decide +kernel)) (by decide +kernel)
theorem wd_34 : (Jvm.Cond.selects "OneBitLoopModel" ({ cls := "OneBitLoopModel", name := "isRecord", desc := "(II)Z" } : Jvm.MethodName) ({ cls := "OneBitLoopModel", name := "isRecord", desc := "(II)Z" } : Jvm.MethodName)) ∈ lw_g := lw_g_mem (List.mem_of_getElem? (i := 34) (by decide +kernel)) (by decide +kernel)
theorem wd_35 : (Jvm.Cond.selects "OneBitLoopModel" ({ cls := "OneBitLoopModel", name := "stands", desc := "(I)V" } : Jvm.MethodName) ({ cls := "OneBitLoopModel", name := "stands", desc := "(I)V" } : Jvm.MethodName)) ∈ lw_g := lw_g_mem (List.mem_of_getElem? (i := 35) (by decide +kernel)) (by decide +kernel)
theorem wd_36 : (Jvm.Cond.selects "OneBitLoopModel" ({ cls := "OneBitLoopModel", name := "isAlike", desc := "(II)Z" } : Jvm.MethodName) ({ cls := "OneBitLoopModel", name := "isAlike", desc := "(II)Z" } : Jvm.MethodName)) ∈ lw_g := lw_g_mem (List.mem_of_getElem? (i := 36) (by decide +kernel)) (by decide +kernel)
theorem wd_37 : (Jvm.Cond.selects "OneBitLoopModel" ({ cls := "OneBitLoopModel", name := "mayReach", desc := "()Z" } : Jvm.MethodName) ({ cls := "OneBitLoopModel", name := "mayReach", desc := "()Z" } : Jvm.MethodName)) ∈ lw_g := lw_g_mem (List.mem_of_getElem? (i := 37) (by decide +kernel)) (by decide +kernel)
theorem wd_38 : (Jvm.Cond.selects "OneBitLoopModel" ({ cls := "OneBitLoopModel", name := "tellRow", desc := "(IJ)V" } : Jvm.MethodName) ({ cls := "OneBitLoopModel", name := "tellRow", desc := "(IJ)V" } : Jvm.MethodName)) ∈ lw_g := lw_g_mem (List.mem_of_getElem? (i := 38) (by decide +kernel)) (by decide +kernel)
theorem wd_39 : (Jvm.Cond.selects "OneBitLoopModel" ({ cls := "OneBitLoopModel", name := "refuses", desc := "(I)J" } : Jvm.MethodName) ({ cls := "OneBitLoopModel", name := "refuses", desc := "(I)J" } : Jvm.MethodName)) ∈ lw_g := lw_g_mem (List.mem_of_getElem? (i := 39) (by decide +kernel)) (by decide +kernel)
theorem wd_41 : (Jvm.Cond.initialized "OneBitLoop") ∈ lw_g := lw_g_mem (List.mem_of_getElem? (i := 41) (by decide +kernel)) (by decide +kernel)
theorem wd_42 : (Jvm.Cond.initialized "OneBitLoop$Reel") ∈ lw_g := lw_g_mem (List.mem_of_getElem? (i := 42) (by decide +kernel)) (by decide +kernel)
theorem wd_43 : (Jvm.Cond.initialized "OneBitLoop$Shape") ∈ lw_g := lw_g_mem (List.mem_of_getElem? (i := 43) (by decide +kernel)) (by decide +kernel)
theorem wd_44 : (Jvm.Cond.initialized "OneBitLoop$Log") ∈ lw_g := lw_g_mem (List.mem_of_getElem? (i := 44) (by decide +kernel)) (by decide +kernel)
theorem wd_45 : (Jvm.Cond.initialized "OneBitLoop$Seen") ∈ lw_g := lw_g_mem (List.mem_of_getElem? (i := 45) (by decide +kernel)) (by decide +kernel)
theorem wd_46 : (Jvm.Cond.initialized "OneBitLoop$Holding") ∈ lw_g := lw_g_mem (List.mem_of_getElem? (i := 46) (by decide +kernel)) (by decide +kernel)
theorem wd_47 : (Jvm.Cond.initialized "OneBitLoop$Reaching") ∈ lw_g := lw_g_mem (List.mem_of_getElem? (i := 47) (by decide +kernel)) (by decide +kernel)
theorem wd_48 : (Jvm.Cond.initialized "OneBitLoop$Worst") ∈ lw_g := lw_g_mem (List.mem_of_getElem? (i := 48) (by decide +kernel)) (by decide +kernel)
theorem wd_49 : (Jvm.Cond.initialized "OneBitLoop$Twin") ∈ lw_g := lw_g_mem (List.mem_of_getElem? (i := 49) (by decide +kernel)) (by decide +kernel)
theorem wd_50 : (Jvm.Cond.initialized "OneBitLoopModel") ∈ lw_g := lw_g_mem (List.mem_of_getElem? (i := 50) (by decide +kernel)) (by decide +kernel)
theorem wd_51 : (Jvm.Cond.initialized "java/util/Arrays") ∈ lw_g := lw_g_mem (List.mem_of_getElem? (i := 51) (by decide +kernel)) (by decide +kernel)
theorem wd_52 : (Jvm.Cond.initialized "java/lang/System") ∈ lw_g := lw_g_mem (List.mem_of_getElem? (i := 52) (by decide +kernel)) (by decide +kernel)
theorem wd_53 : (Jvm.Cond.initialized "java/lang/Math") ∈ lw_g := lw_g_mem (List.mem_of_getElem? (i := 53) (by decide +kernel)) (by decide +kernel)
theorem wd_54 : (Jvm.Cond.initialized "java/lang/Float") ∈ lw_g := lw_g_mem (List.mem_of_getElem? (i := 54) (by decide +kernel)) (by decide +kernel)
theorem wd_55 : (Jvm.Cond.initialized "java/lang/Double") ∈ lw_g := lw_g_mem (List.mem_of_getElem? (i := 55) (by decide +kernel)) (by decide +kernel)
theorem wd_56 : (Jvm.Cond.initialized "java/lang/Integer") ∈ lw_g := lw_g_mem (List.mem_of_getElem? (i := 56) (by decide +kernel)) (by decide +kernel)
theorem wd_60 : (Jvm.Cond.instanceMethod ({ cls := "OneBitLoop", name := "<init>", desc := "()V" } : Jvm.MethodName)) ∈ lw_g := lw_g_mem (List.mem_of_getElem? (i := 60) (by decide +kernel)) (by decide +kernel)
theorem wd_61 : (Jvm.Cond.code ({ cls := "OneBitLoop", name := "<init>", desc := "()V" } : Jvm.MethodName) prog_1_method_1_code (2 : Nat) (Option.none : Option Jvm.ClassFile.FieldType)) ∈ lw_g := lw_g_mem (List.mem_of_getElem? (i := 61) (by decide +kernel)) (by decide +kernel)
theorem wd_62 : (Jvm.Cond.methodLink "OneBitLoop" (3 : Nat) ({ cls := "java/lang/Object", name := "<init>", desc := "()V" } : Jvm.MethodName)) ∈ lw_g := lw_g_mem (List.mem_of_getElem? (i := 62) (by decide +kernel)) (by decide +kernel)
theorem wd_63 : (Jvm.Cond.instanceMethod ({ cls := "java/lang/Object", name := "<init>", desc := "()V" } : Jvm.MethodName)) ∈ lw_g := lw_g_mem (List.mem_of_getElem? (i := 63) (by decide +kernel)) (by decide +kernel)
theorem wd_64 : (Jvm.Cond.code ({ cls := "java/lang/Object", name := "<init>", desc := "()V" } : Jvm.MethodName) object_method_1_code (1 : Nat) (Option.none : Option Jvm.ClassFile.FieldType)) ∈ lw_g := lw_g_mem (List.mem_of_getElem? (i := 64) (by decide +kernel)) (by decide +kernel)
theorem wd_65 : (Jvm.Cond.classLink "OneBitLoop" (9 : Nat) "OneBitLoop$Reel") ∈ lw_g := lw_g_mem (List.mem_of_getElem? (i := 65) (by decide +kernel)) (by decide +kernel)
theorem wd_67 : (Jvm.Cond.instantiable "OneBitLoop$Reel" (4 : Nat)) ∈ lw_g := lw_g_mem (List.mem_of_getElem? (i := 67) (by decide +kernel)) (by decide +kernel)
theorem wd_69 : (Jvm.Cond.instanceMethod ({ cls := "OneBitLoop$Reel", name := "<init>", desc := "()V" } : Jvm.MethodName)) ∈ lw_g := lw_g_mem (List.mem_of_getElem? (i := 69) (by decide +kernel)) (by decide +kernel)
theorem wd_70 : (Jvm.Cond.code ({ cls := "OneBitLoop$Reel", name := "<init>", desc := "()V" } : Jvm.MethodName) prog_5_method_1_code (1 : Nat) (Option.none : Option Jvm.ClassFile.FieldType)) ∈ lw_g := lw_g_mem (List.mem_of_getElem? (i := 70) (by decide +kernel)) (by decide +kernel)
theorem wd_71 : (Jvm.Cond.methodLink "OneBitLoop$Reel" (3 : Nat) ({ cls := "java/lang/Object", name := "<init>", desc := "()V" } : Jvm.MethodName)) ∈ lw_g := lw_g_mem (List.mem_of_getElem? (i := 71) (by decide +kernel)) (by decide +kernel)
theorem wd_72 : (Jvm.Cond.fieldLink "OneBitLoop$Reel" (9 : Nat) "OneBitLoop$Reel" "items" "[J") ∈ lw_g := lw_g_mem (List.mem_of_getElem? (i := 72) (by decide +kernel)) (by decide +kernel)
theorem wd_73 : (Jvm.Cond.fieldLink "OneBitLoop" (102 : Nat) "OneBitLoop$Reel" "items" "[J") ∈ lw_g := lw_g_mem (List.mem_of_getElem? (i := 73) (by decide +kernel)) (by decide +kernel)
theorem wd_74 : (Jvm.Cond.fieldLink "OneBitLoop$Reel" (15 : Nat) "OneBitLoop$Reel" "lost" "Z") ∈ lw_g := lw_g_mem (List.mem_of_getElem? (i := 74) (by decide +kernel)) (by decide +kernel)
theorem wd_75 : (Jvm.Cond.fieldLink "OneBitLoop" (91 : Nat) "OneBitLoop$Reel" "lost" "Z") ∈ lw_g := lw_g_mem (List.mem_of_getElem? (i := 75) (by decide +kernel)) (by decide +kernel)
theorem wd_76 : (Jvm.Cond.fieldLink "OneBitLoop$Reel" (19 : Nat) "OneBitLoop$Reel" "form" "I") ∈ lw_g := lw_g_mem (List.mem_of_getElem? (i := 76) (by decide +kernel)) (by decide +kernel)
theorem wd_77 : (Jvm.Cond.fieldLink "OneBitLoop" (110 : Nat) "OneBitLoop$Reel" "form" "I") ∈ lw_g := lw_g_mem (List.mem_of_getElem? (i := 77) (by decide +kernel)) (by decide +kernel)
theorem wd_78 : (Jvm.Cond.fieldLink "OneBitLoop$Reel" (23 : Nat) "OneBitLoop$Reel" "size" "I") ∈ lw_g := lw_g_mem (List.mem_of_getElem? (i := 78) (by decide +kernel)) (by decide +kernel)
theorem wd_79 : (Jvm.Cond.fieldLink "OneBitLoop" (95 : Nat) "OneBitLoop$Reel" "size" "I") ∈ lw_g := lw_g_mem (List.mem_of_getElem? (i := 79) (by decide +kernel)) (by decide +kernel)
theorem wd_89 : (Jvm.Cond.arrayClass Jvm.ClassFile.FieldType.long) ∈ lw_g := lw_g_mem (List.mem_of_getElem? (i := 89) (by decide +kernel)) (by decide +kernel)
theorem wd_90 : (Jvm.Cond.classLink "OneBitLoop" (16 : Nat) "OneBitLoop$Shape") ∈ lw_g := lw_g_mem (List.mem_of_getElem? (i := 90) (by decide +kernel)) (by decide +kernel)
theorem wd_91 : (Jvm.Cond.instantiable "OneBitLoop$Shape" (8 : Nat)) ∈ lw_g := lw_g_mem (List.mem_of_getElem? (i := 91) (by decide +kernel)) (by decide +kernel)
theorem wd_92 : (Jvm.Cond.methodLink "OneBitLoop" (18 : Nat) ({ cls := "OneBitLoop$Shape", name := "<init>", desc := "()V" } : Jvm.MethodName)) ∈ lw_g := lw_g_mem (List.mem_of_getElem? (i := 92) (by decide +kernel)) (by decide +kernel)
theorem wd_93 : (Jvm.Cond.instanceMethod ({ cls := "OneBitLoop$Shape", name := "<init>", desc := "()V" } : Jvm.MethodName)) ∈ lw_g := lw_g_mem (List.mem_of_getElem? (i := 93) (by decide +kernel)) (by decide +kernel)
theorem wd_94 : (Jvm.Cond.code ({ cls := "OneBitLoop$Shape", name := "<init>", desc := "()V" } : Jvm.MethodName) prog_7_method_1_code (1 : Nat) (Option.none : Option Jvm.ClassFile.FieldType)) ∈ lw_g := lw_g_mem (List.mem_of_getElem? (i := 94) (by decide +kernel)) (by decide +kernel)
theorem wd_95 : (Jvm.Cond.methodLink "OneBitLoop$Shape" (3 : Nat) ({ cls := "java/lang/Object", name := "<init>", desc := "()V" } : Jvm.MethodName)) ∈ lw_g := lw_g_mem (List.mem_of_getElem? (i := 95) (by decide +kernel)) (by decide +kernel)
theorem wd_96 : (Jvm.Cond.constantLong "OneBitLoop$Shape" (39 : Nat) (-1 : Int64)) ∈ lw_g := lw_g_mem (List.mem_of_getElem? (i := 96) (by decide +kernel)) (by decide +kernel)
theorem wd_97 : (Jvm.Cond.fieldLink "OneBitLoop$Shape" (9 : Nat) "OneBitLoop$Shape" "kinds" "[I") ∈ lw_g := lw_g_mem (List.mem_of_getElem? (i := 97) (by decide +kernel)) (by decide +kernel)
theorem wd_98 : (Jvm.Cond.fieldLink "OneBitLoop$Twin" (82 : Nat) "OneBitLoop$Shape" "kinds" "[I") ∈ lw_g := lw_g_mem (List.mem_of_getElem? (i := 98) (by decide +kernel)) (by decide +kernel)
theorem wd_99 : (Jvm.Cond.fieldLink "OneBitLoop" (201 : Nat) "OneBitLoop$Shape" "kinds" "[I") ∈ lw_g := lw_g_mem (List.mem_of_getElem? (i := 99) (by decide +kernel)) (by decide +kernel)
theorem wd_100 : (Jvm.Cond.fieldLink "OneBitLoop$Shape" (15 : Nat) "OneBitLoop$Shape" "firsts" "[J") ∈ lw_g := lw_g_mem (List.mem_of_getElem? (i := 100) (by decide +kernel)) (by decide +kernel)
theorem wd_101 : (Jvm.Cond.fieldLink "OneBitLoop$Twin" (106 : Nat) "OneBitLoop$Shape" "firsts" "[J") ∈ lw_g := lw_g_mem (List.mem_of_getElem? (i := 101) (by decide +kernel)) (by decide +kernel)
theorem wd_102 : (Jvm.Cond.fieldLink "OneBitLoop$Shape" (19 : Nat) "OneBitLoop$Shape" "seconds" "[I") ∈ lw_g := lw_g_mem (List.mem_of_getElem? (i := 102) (by decide +kernel)) (by decide +kernel)
theorem wd_103 : (Jvm.Cond.fieldLink "OneBitLoop$Twin" (93 : Nat) "OneBitLoop$Shape" "seconds" "[I") ∈ lw_g := lw_g_mem (List.mem_of_getElem? (i := 103) (by decide +kernel)) (by decide +kernel)
theorem wd_104 : (Jvm.Cond.fieldLink "OneBitLoop$Shape" (22 : Nat) "OneBitLoop$Shape" "levels" "[J") ∈ lw_g := lw_g_mem (List.mem_of_getElem? (i := 104) (by decide +kernel)) (by decide +kernel)
theorem wd_105 : (Jvm.Cond.fieldLink "OneBitLoop$Holding" (52 : Nat) "OneBitLoop$Shape" "levels" "[J") ∈ lw_g := lw_g_mem (List.mem_of_getElem? (i := 105) (by decide +kernel)) (by decide +kernel)
theorem wd_106 : (Jvm.Cond.fieldLink "OneBitLoop$Twin" (62 : Nat) "OneBitLoop$Shape" "levels" "[J") ∈ lw_g := lw_g_mem (List.mem_of_getElem? (i := 106) (by decide +kernel)) (by decide +kernel)
theorem wd_107 : (Jvm.Cond.fieldLink "OneBitLoop$Log" (28 : Nat) "OneBitLoop$Shape" "levels" "[J") ∈ lw_g := lw_g_mem (List.mem_of_getElem? (i := 107) (by decide +kernel)) (by decide +kernel)
theorem wd_108 : (Jvm.Cond.fieldLink "OneBitLoop" (165 : Nat) "OneBitLoop$Shape" "levels" "[J") ∈ lw_g := lw_g_mem (List.mem_of_getElem? (i := 108) (by decide +kernel)) (by decide +kernel)
theorem wd_109 : (Jvm.Cond.fieldLink "OneBitLoop$Shape" (25 : Nat) "OneBitLoop$Shape" "stages" "I") ∈ lw_g := lw_g_mem (List.mem_of_getElem? (i := 109) (by decide +kernel)) (by decide +kernel)
theorem wd_110 : (Jvm.Cond.fieldLink "OneBitLoop$Worst" (44 : Nat) "OneBitLoop$Shape" "stages" "I") ∈ lw_g := lw_g_mem (List.mem_of_getElem? (i := 110) (by decide +kernel)) (by decide +kernel)
theorem wd_111 : (Jvm.Cond.fieldLink "OneBitLoop$Reaching" (71 : Nat) "OneBitLoop$Shape" "stages" "I") ∈ lw_g := lw_g_mem (List.mem_of_getElem? (i := 111) (by decide +kernel)) (by decide +kernel)
theorem wd_112 : (Jvm.Cond.fieldLink "OneBitLoop$Twin" (55 : Nat) "OneBitLoop$Shape" "stages" "I") ∈ lw_g := lw_g_mem (List.mem_of_getElem? (i := 112) (by decide +kernel)) (by decide +kernel)
theorem wd_113 : (Jvm.Cond.fieldLink "OneBitLoop$Seen" (62 : Nat) "OneBitLoop$Shape" "stages" "I") ∈ lw_g := lw_g_mem (List.mem_of_getElem? (i := 113) (by decide +kernel)) (by decide +kernel)
theorem wd_114 : (Jvm.Cond.fieldLink "OneBitLoop$Log" (36 : Nat) "OneBitLoop$Shape" "stages" "I") ∈ lw_g := lw_g_mem (List.mem_of_getElem? (i := 114) (by decide +kernel)) (by decide +kernel)
theorem wd_115 : (Jvm.Cond.fieldLink "OneBitLoop" (141 : Nat) "OneBitLoop$Shape" "stages" "I") ∈ lw_g := lw_g_mem (List.mem_of_getElem? (i := 115) (by decide +kernel)) (by decide +kernel)
theorem wd_116 : (Jvm.Cond.fieldLink "OneBitLoop$Shape" (29 : Nat) "OneBitLoop$Shape" "levelCount" "I") ∈ lw_g := lw_g_mem (List.mem_of_getElem? (i := 116) (by decide +kernel)) (by decide +kernel)
theorem wd_117 : (Jvm.Cond.fieldLink "OneBitLoop" (275 : Nat) "OneBitLoop$Shape" "levelCount" "I") ∈ lw_g := lw_g_mem (List.mem_of_getElem? (i := 117) (by decide +kernel)) (by decide +kernel)
theorem wd_118 : (Jvm.Cond.fieldLink "OneBitLoop$Shape" (32 : Nat) "OneBitLoop$Shape" "span" "I") ∈ lw_g := lw_g_mem (List.mem_of_getElem? (i := 118) (by decide +kernel)) (by decide +kernel)
theorem wd_119 : (Jvm.Cond.fieldLink "OneBitLoop$Twin" (73 : Nat) "OneBitLoop$Shape" "span" "I") ∈ lw_g := lw_g_mem (List.mem_of_getElem? (i := 119) (by decide +kernel)) (by decide +kernel)
theorem wd_120 : (Jvm.Cond.fieldLink "OneBitLoop$Seen" (70 : Nat) "OneBitLoop$Shape" "span" "I") ∈ lw_g := lw_g_mem (List.mem_of_getElem? (i := 120) (by decide +kernel)) (by decide +kernel)
theorem wd_121 : (Jvm.Cond.fieldLink "OneBitLoop" (169 : Nat) "OneBitLoop$Shape" "span" "I") ∈ lw_g := lw_g_mem (List.mem_of_getElem? (i := 121) (by decide +kernel)) (by decide +kernel)
theorem wd_122 : (Jvm.Cond.fieldLink "OneBitLoop$Shape" (35 : Nat) "OneBitLoop$Shape" "firstSeed" "J") ∈ lw_g := lw_g_mem (List.mem_of_getElem? (i := 122) (by decide +kernel)) (by decide +kernel)
theorem wd_123 : (Jvm.Cond.fieldLink "OneBitLoop$Twin" (40 : Nat) "OneBitLoop$Shape" "firstSeed" "J") ∈ lw_g := lw_g_mem (List.mem_of_getElem? (i := 123) (by decide +kernel)) (by decide +kernel)
theorem wd_124 : (Jvm.Cond.fieldLink "OneBitLoop" (172 : Nat) "OneBitLoop$Shape" "firstSeed" "J") ∈ lw_g := lw_g_mem (List.mem_of_getElem? (i := 124) (by decide +kernel)) (by decide +kernel)
theorem wd_142 : (Jvm.Cond.arrayClass Jvm.ClassFile.FieldType.int) ∈ lw_g := lw_g_mem (List.mem_of_getElem? (i := 142) (by decide +kernel)) (by decide +kernel)
theorem wd_143 : (Jvm.Cond.classLink "OneBitLoop" (23 : Nat) "OneBitLoop$Log") ∈ lw_g := lw_g_mem (List.mem_of_getElem? (i := 143) (by decide +kernel)) (by decide +kernel)
theorem wd_144 : (Jvm.Cond.instantiable "OneBitLoop$Log" (3 : Nat)) ∈ lw_g := lw_g_mem (List.mem_of_getElem? (i := 144) (by decide +kernel)) (by decide +kernel)
theorem wd_146 : (Jvm.Cond.instanceMethod ({ cls := "OneBitLoop$Log", name := "<init>", desc := "()V" } : Jvm.MethodName)) ∈ lw_g := lw_g_mem (List.mem_of_getElem? (i := 146) (by decide +kernel)) (by decide +kernel)
theorem wd_147 : (Jvm.Cond.code ({ cls := "OneBitLoop$Log", name := "<init>", desc := "()V" } : Jvm.MethodName) prog_3_method_1_code (1 : Nat) (Option.none : Option Jvm.ClassFile.FieldType)) ∈ lw_g := lw_g_mem (List.mem_of_getElem? (i := 147) (by decide +kernel)) (by decide +kernel)
theorem wd_148 : (Jvm.Cond.methodLink "OneBitLoop$Log" (3 : Nat) ({ cls := "java/lang/Object", name := "<init>", desc := "()V" } : Jvm.MethodName)) ∈ lw_g := lw_g_mem (List.mem_of_getElem? (i := 148) (by decide +kernel)) (by decide +kernel)
theorem wd_149 : (Jvm.Cond.fieldLink "OneBitLoop$Log" (9 : Nat) "OneBitLoop$Log" "numbers" "[J") ∈ lw_g := lw_g_mem (List.mem_of_getElem? (i := 149) (by decide +kernel)) (by decide +kernel)
theorem wd_150 : (Jvm.Cond.fieldLink "OneBitLoop" (210 : Nat) "OneBitLoop$Log" "numbers" "[J") ∈ lw_g := lw_g_mem (List.mem_of_getElem? (i := 150) (by decide +kernel)) (by decide +kernel)
theorem wd_151 : (Jvm.Cond.fieldLink "OneBitLoop$Log" (15 : Nat) "OneBitLoop$Log" "made" "[J") ∈ lw_g := lw_g_mem (List.mem_of_getElem? (i := 151) (by decide +kernel)) (by decide +kernel)
theorem wd_152 : (Jvm.Cond.fieldLink "OneBitLoop" (186 : Nat) "OneBitLoop$Log" "made" "[J") ∈ lw_g := lw_g_mem (List.mem_of_getElem? (i := 152) (by decide +kernel)) (by decide +kernel)
theorem wd_153 : (Jvm.Cond.fieldLink "OneBitLoop$Log" (18 : Nat) "OneBitLoop$Log" "steps" "I") ∈ lw_g := lw_g_mem (List.mem_of_getElem? (i := 153) (by decide +kernel)) (by decide +kernel)
theorem wd_154 : (Jvm.Cond.fieldLink "OneBitLoop" (138 : Nat) "OneBitLoop$Log" "steps" "I") ∈ lw_g := lw_g_mem (List.mem_of_getElem? (i := 154) (by decide +kernel)) (by decide +kernel)
theorem wd_162 : (Jvm.Cond.classLink "OneBitLoop" (30 : Nat) "OneBitLoop$Seen") ∈ lw_g := lw_g_mem (List.mem_of_getElem? (i := 162) (by decide +kernel)) (by decide +kernel)
theorem wd_163 : (Jvm.Cond.instantiable "OneBitLoop$Seen" (6 : Nat)) ∈ lw_g := lw_g_mem (List.mem_of_getElem? (i := 163) (by decide +kernel)) (by decide +kernel)
theorem wd_165 : (Jvm.Cond.instanceMethod ({ cls := "OneBitLoop$Seen", name := "<init>", desc := "()V" } : Jvm.MethodName)) ∈ lw_g := lw_g_mem (List.mem_of_getElem? (i := 165) (by decide +kernel)) (by decide +kernel)
theorem wd_166 : (Jvm.Cond.code ({ cls := "OneBitLoop$Seen", name := "<init>", desc := "()V" } : Jvm.MethodName) prog_6_method_1_code (1 : Nat) (Option.none : Option Jvm.ClassFile.FieldType)) ∈ lw_g := lw_g_mem (List.mem_of_getElem? (i := 166) (by decide +kernel)) (by decide +kernel)
theorem wd_167 : (Jvm.Cond.methodLink "OneBitLoop$Seen" (3 : Nat) ({ cls := "java/lang/Object", name := "<init>", desc := "()V" } : Jvm.MethodName)) ∈ lw_g := lw_g_mem (List.mem_of_getElem? (i := 167) (by decide +kernel)) (by decide +kernel)
theorem wd_168 : (Jvm.Cond.fieldLink "OneBitLoop$Seen" (9 : Nat) "OneBitLoop$Seen" "rows" "[J") ∈ lw_g := lw_g_mem (List.mem_of_getElem? (i := 168) (by decide +kernel)) (by decide +kernel)
theorem wd_169 : (Jvm.Cond.fieldLink "OneBitLoop$Seen" (15 : Nat) "OneBitLoop$Seen" "slots" "[I") ∈ lw_g := lw_g_mem (List.mem_of_getElem? (i := 169) (by decide +kernel)) (by decide +kernel)
theorem wd_170 : (Jvm.Cond.fieldLink "OneBitLoop$Seen" (19 : Nat) "OneBitLoop$Seen" "asked" "[J") ∈ lw_g := lw_g_mem (List.mem_of_getElem? (i := 170) (by decide +kernel)) (by decide +kernel)
theorem wd_171 : (Jvm.Cond.fieldLink "OneBitLoop$Seen" (22 : Nat) "OneBitLoop$Seen" "freeSlot" "I") ∈ lw_g := lw_g_mem (List.mem_of_getElem? (i := 171) (by decide +kernel)) (by decide +kernel)
theorem wd_172 : (Jvm.Cond.fieldLink "OneBitLoop$Seen" (26 : Nat) "OneBitLoop$Seen" "width" "I") ∈ lw_g := lw_g_mem (List.mem_of_getElem? (i := 172) (by decide +kernel)) (by decide +kernel)
theorem wd_173 : (Jvm.Cond.fieldLink "OneBitLoop$Seen" (29 : Nat) "OneBitLoop$Seen" "size" "I") ∈ lw_g := lw_g_mem (List.mem_of_getElem? (i := 173) (by decide +kernel)) (by decide +kernel)
theorem wd_174 : (Jvm.Cond.fieldLink "OneBitLoop$Reaching" (46 : Nat) "OneBitLoop$Seen" "size" "I") ∈ lw_g := lw_g_mem (List.mem_of_getElem? (i := 174) (by decide +kernel)) (by decide +kernel)
theorem wd_188 : (Jvm.Cond.classLink "OneBitLoop" (33 : Nat) "OneBitLoop$Holding") ∈ lw_g := lw_g_mem (List.mem_of_getElem? (i := 188) (by decide +kernel)) (by decide +kernel)
theorem wd_189 : (Jvm.Cond.instantiable "OneBitLoop$Holding" (6 : Nat)) ∈ lw_g := lw_g_mem (List.mem_of_getElem? (i := 189) (by decide +kernel)) (by decide +kernel)
theorem wd_190 : (Jvm.Cond.methodLink "OneBitLoop" (35 : Nat) ({ cls := "OneBitLoop$Holding", name := "<init>", desc := "(LOneBitLoop$Shape;LOneBitLoop$Seen;)V" } : Jvm.MethodName)) ∈ lw_g := lw_g_mem (List.mem_of_getElem? (i := 190) (by decide +kernel)) (by decide +kernel)
theorem wd_191 : (Jvm.Cond.instanceMethod ({ cls := "OneBitLoop$Holding", name := "<init>", desc := "(LOneBitLoop$Shape;LOneBitLoop$Seen;)V" } : Jvm.MethodName)) ∈ lw_g := lw_g_mem (List.mem_of_getElem? (i := 191) (by decide +kernel)) (by decide +kernel)
theorem wd_192 : (Jvm.Cond.code ({ cls := "OneBitLoop$Holding", name := "<init>", desc := "(LOneBitLoop$Shape;LOneBitLoop$Seen;)V" } : Jvm.MethodName) prog_2_method_1_code (3 : Nat) (Option.none : Option Jvm.ClassFile.FieldType)) ∈ lw_g := lw_g_mem (List.mem_of_getElem? (i := 192) (by decide +kernel)) (by decide +kernel)
theorem wd_193 : (Jvm.Cond.methodLink "OneBitLoop$Holding" (3 : Nat) ({ cls := "java/lang/Object", name := "<init>", desc := "()V" } : Jvm.MethodName)) ∈ lw_g := lw_g_mem (List.mem_of_getElem? (i := 193) (by decide +kernel)) (by decide +kernel)
theorem wd_194 : (Jvm.Cond.fieldLink "OneBitLoop$Holding" (26 : Nat) "OneBitLoop$Holding" "shape" "LOneBitLoop$Shape;") ∈ lw_g := lw_g_mem (List.mem_of_getElem? (i := 194) (by decide +kernel)) (by decide +kernel)
theorem wd_195 : (Jvm.Cond.fieldLink "OneBitLoop$Holding" (30 : Nat) "OneBitLoop$Holding" "seen" "LOneBitLoop$Seen;") ∈ lw_g := lw_g_mem (List.mem_of_getElem? (i := 195) (by decide +kernel)) (by decide +kernel)
theorem wd_196 : (Jvm.Cond.fieldLink "OneBitLoop$Holding" (9 : Nat) "OneBitLoop$Holding" "sumAhead" "[J") ∈ lw_g := lw_g_mem (List.mem_of_getElem? (i := 196) (by decide +kernel)) (by decide +kernel)
theorem wd_197 : (Jvm.Cond.fieldLink "OneBitLoop$Holding" (15 : Nat) "OneBitLoop$Holding" "comes" "I") ∈ lw_g := lw_g_mem (List.mem_of_getElem? (i := 197) (by decide +kernel)) (by decide +kernel)
theorem wd_198 : (Jvm.Cond.fieldLink "OneBitLoop" (237 : Nat) "OneBitLoop$Holding" "comes" "I") ∈ lw_g := lw_g_mem (List.mem_of_getElem? (i := 198) (by decide +kernel)) (by decide +kernel)
theorem wd_199 : (Jvm.Cond.fieldLink "OneBitLoop$Holding" (19 : Nat) "OneBitLoop$Holding" "round" "I") ∈ lw_g := lw_g_mem (List.mem_of_getElem? (i := 199) (by decide +kernel)) (by decide +kernel)
theorem wd_200 : (Jvm.Cond.fieldLink "OneBitLoop" (240 : Nat) "OneBitLoop$Holding" "round" "I") ∈ lw_g := lw_g_mem (List.mem_of_getElem? (i := 200) (by decide +kernel)) (by decide +kernel)
theorem wd_201 : (Jvm.Cond.fieldLink "OneBitLoop$Holding" (22 : Nat) "OneBitLoop$Holding" "sum" "J") ∈ lw_g := lw_g_mem (List.mem_of_getElem? (i := 201) (by decide +kernel)) (by decide +kernel)
theorem wd_202 : (Jvm.Cond.fieldLink "OneBitLoop" (243 : Nat) "OneBitLoop$Holding" "sum" "J") ∈ lw_g := lw_g_mem (List.mem_of_getElem? (i := 202) (by decide +kernel)) (by decide +kernel)
theorem wd_216 : (Jvm.Cond.classLink "OneBitLoop" (42 : Nat) "OneBitLoop$Reaching") ∈ lw_g := lw_g_mem (List.mem_of_getElem? (i := 216) (by decide +kernel)) (by decide +kernel)
theorem wd_217 : (Jvm.Cond.instantiable "OneBitLoop$Reaching" (6 : Nat)) ∈ lw_g := lw_g_mem (List.mem_of_getElem? (i := 217) (by decide +kernel)) (by decide +kernel)
theorem wd_218 : (Jvm.Cond.methodLink "OneBitLoop" (44 : Nat) ({ cls := "OneBitLoop$Reaching", name := "<init>", desc := "(LOneBitLoop$Shape;LOneBitLoop$Seen;)V" } : Jvm.MethodName)) ∈ lw_g := lw_g_mem (List.mem_of_getElem? (i := 218) (by decide +kernel)) (by decide +kernel)
theorem wd_219 : (Jvm.Cond.instanceMethod ({ cls := "OneBitLoop$Reaching", name := "<init>", desc := "(LOneBitLoop$Shape;LOneBitLoop$Seen;)V" } : Jvm.MethodName)) ∈ lw_g := lw_g_mem (List.mem_of_getElem? (i := 219) (by decide +kernel)) (by decide +kernel)
theorem wd_220 : (Jvm.Cond.code ({ cls := "OneBitLoop$Reaching", name := "<init>", desc := "(LOneBitLoop$Shape;LOneBitLoop$Seen;)V" } : Jvm.MethodName) prog_4_method_1_code (3 : Nat) (Option.none : Option Jvm.ClassFile.FieldType)) ∈ lw_g := lw_g_mem (List.mem_of_getElem? (i := 220) (by decide +kernel)) (by decide +kernel)
theorem wd_221 : (Jvm.Cond.methodLink "OneBitLoop$Reaching" (3 : Nat) ({ cls := "java/lang/Object", name := "<init>", desc := "()V" } : Jvm.MethodName)) ∈ lw_g := lw_g_mem (List.mem_of_getElem? (i := 221) (by decide +kernel)) (by decide +kernel)
theorem wd_222 : (Jvm.Cond.fieldLink "OneBitLoop$Reaching" (26 : Nat) "OneBitLoop$Reaching" "shape" "LOneBitLoop$Shape;") ∈ lw_g := lw_g_mem (List.mem_of_getElem? (i := 222) (by decide +kernel)) (by decide +kernel)
theorem wd_223 : (Jvm.Cond.fieldLink "OneBitLoop$Reaching" (30 : Nat) "OneBitLoop$Reaching" "seen" "LOneBitLoop$Seen;") ∈ lw_g := lw_g_mem (List.mem_of_getElem? (i := 223) (by decide +kernel)) (by decide +kernel)
theorem wd_224 : (Jvm.Cond.fieldLink "OneBitLoop$Reaching" (9 : Nat) "OneBitLoop$Reaching" "ahead" "[I") ∈ lw_g := lw_g_mem (List.mem_of_getElem? (i := 224) (by decide +kernel)) (by decide +kernel)
theorem wd_225 : (Jvm.Cond.fieldLink "OneBitLoop$Reaching" (15 : Nat) "OneBitLoop$Reaching" "by" "[J") ∈ lw_g := lw_g_mem (List.mem_of_getElem? (i := 225) (by decide +kernel)) (by decide +kernel)
theorem wd_226 : (Jvm.Cond.fieldLink "OneBitLoop$Reaching" (19 : Nat) "OneBitLoop$Reaching" "row" "[J") ∈ lw_g := lw_g_mem (List.mem_of_getElem? (i := 226) (by decide +kernel)) (by decide +kernel)
theorem wd_227 : (Jvm.Cond.fieldLink "OneBitLoop" (261 : Nat) "OneBitLoop$Reaching" "row" "[J") ∈ lw_g := lw_g_mem (List.mem_of_getElem? (i := 227) (by decide +kernel)) (by decide +kernel)
theorem wd_228 : (Jvm.Cond.fieldLink "OneBitLoop$Reaching" (22 : Nat) "OneBitLoop$Reaching" "rowSize" "I") ∈ lw_g := lw_g_mem (List.mem_of_getElem? (i := 228) (by decide +kernel)) (by decide +kernel)
theorem wd_229 : (Jvm.Cond.fieldLink "OneBitLoop" (258 : Nat) "OneBitLoop$Reaching" "rowSize" "I") ∈ lw_g := lw_g_mem (List.mem_of_getElem? (i := 229) (by decide +kernel)) (by decide +kernel)
theorem wd_243 : (Jvm.Cond.classLink "OneBitLoop" (49 : Nat) "OneBitLoop$Worst") ∈ lw_g := lw_g_mem (List.mem_of_getElem? (i := 243) (by decide +kernel)) (by decide +kernel)
theorem wd_244 : (Jvm.Cond.instantiable "OneBitLoop$Worst" (8 : Nat)) ∈ lw_g := lw_g_mem (List.mem_of_getElem? (i := 244) (by decide +kernel)) (by decide +kernel)
theorem wd_245 : (Jvm.Cond.methodLink "OneBitLoop" (51 : Nat) ({ cls := "OneBitLoop$Worst", name := "<init>", desc := "(LOneBitLoop$Shape;)V" } : Jvm.MethodName)) ∈ lw_g := lw_g_mem (List.mem_of_getElem? (i := 245) (by decide +kernel)) (by decide +kernel)
theorem wd_246 : (Jvm.Cond.instanceMethod ({ cls := "OneBitLoop$Worst", name := "<init>", desc := "(LOneBitLoop$Shape;)V" } : Jvm.MethodName)) ∈ lw_g := lw_g_mem (List.mem_of_getElem? (i := 246) (by decide +kernel)) (by decide +kernel)
theorem wd_247 : (Jvm.Cond.code ({ cls := "OneBitLoop$Worst", name := "<init>", desc := "(LOneBitLoop$Shape;)V" } : Jvm.MethodName) prog_9_method_1_code (3 : Nat) (Option.none : Option Jvm.ClassFile.FieldType)) ∈ lw_g := lw_g_mem (List.mem_of_getElem? (i := 247) (by decide +kernel)) (by decide +kernel)
theorem wd_248 : (Jvm.Cond.methodLink "OneBitLoop$Worst" (3 : Nat) ({ cls := "java/lang/Object", name := "<init>", desc := "()V" } : Jvm.MethodName)) ∈ lw_g := lw_g_mem (List.mem_of_getElem? (i := 248) (by decide +kernel)) (by decide +kernel)
theorem wd_249 : (Jvm.Cond.classLink "OneBitLoop$Worst" (9 : Nat) "OneBitLoop$Twin") ∈ lw_g := lw_g_mem (List.mem_of_getElem? (i := 249) (by decide +kernel)) (by decide +kernel)
theorem wd_251 : (Jvm.Cond.instantiable "OneBitLoop$Twin" (6 : Nat)) ∈ lw_g := lw_g_mem (List.mem_of_getElem? (i := 251) (by decide +kernel)) (by decide +kernel)
theorem wd_252 : (Jvm.Cond.methodLink "OneBitLoop$Worst" (41 : Nat) ({ cls := "OneBitLoop$Twin", name := "<init>", desc := "(LOneBitLoop$Shape;)V" } : Jvm.MethodName)) ∈ lw_g := lw_g_mem (List.mem_of_getElem? (i := 252) (by decide +kernel)) (by decide +kernel)
theorem wd_253 : (Jvm.Cond.instanceMethod ({ cls := "OneBitLoop$Twin", name := "<init>", desc := "(LOneBitLoop$Shape;)V" } : Jvm.MethodName)) ∈ lw_g := lw_g_mem (List.mem_of_getElem? (i := 253) (by decide +kernel)) (by decide +kernel)
theorem wd_254 : (Jvm.Cond.code ({ cls := "OneBitLoop$Twin", name := "<init>", desc := "(LOneBitLoop$Shape;)V" } : Jvm.MethodName) prog_8_method_1_code (2 : Nat) (Option.none : Option Jvm.ClassFile.FieldType)) ∈ lw_g := lw_g_mem (List.mem_of_getElem? (i := 254) (by decide +kernel)) (by decide +kernel)
theorem wd_255 : (Jvm.Cond.methodLink "OneBitLoop$Twin" (3 : Nat) ({ cls := "java/lang/Object", name := "<init>", desc := "()V" } : Jvm.MethodName)) ∈ lw_g := lw_g_mem (List.mem_of_getElem? (i := 255) (by decide +kernel)) (by decide +kernel)
theorem wd_256 : (Jvm.Cond.fieldLink "OneBitLoop$Twin" (30 : Nat) "OneBitLoop$Twin" "shape" "LOneBitLoop$Shape;") ∈ lw_g := lw_g_mem (List.mem_of_getElem? (i := 256) (by decide +kernel)) (by decide +kernel)
theorem wd_257 : (Jvm.Cond.fieldLink "OneBitLoop$Seen" (56 : Nat) "OneBitLoop$Twin" "shape" "LOneBitLoop$Shape;") ∈ lw_g := lw_g_mem (List.mem_of_getElem? (i := 257) (by decide +kernel)) (by decide +kernel)
theorem wd_258 : (Jvm.Cond.fieldLink "OneBitLoop$Log" (22 : Nat) "OneBitLoop$Twin" "shape" "LOneBitLoop$Shape;") ∈ lw_g := lw_g_mem (List.mem_of_getElem? (i := 258) (by decide +kernel)) (by decide +kernel)
theorem wd_259 : (Jvm.Cond.fieldLink "OneBitLoop$Twin" (9 : Nat) "OneBitLoop$Twin" "numbers" "[J") ∈ lw_g := lw_g_mem (List.mem_of_getElem? (i := 259) (by decide +kernel)) (by decide +kernel)
theorem wd_260 : (Jvm.Cond.fieldLink "OneBitLoop$Worst" (64 : Nat) "OneBitLoop$Twin" "numbers" "[J") ∈ lw_g := lw_g_mem (List.mem_of_getElem? (i := 260) (by decide +kernel)) (by decide +kernel)
theorem wd_261 : (Jvm.Cond.fieldLink "OneBitLoop$Reaching" (76 : Nat) "OneBitLoop$Twin" "numbers" "[J") ∈ lw_g := lw_g_mem (List.mem_of_getElem? (i := 261) (by decide +kernel)) (by decide +kernel)
theorem wd_262 : (Jvm.Cond.fieldLink "OneBitLoop$Seen" (67 : Nat) "OneBitLoop$Twin" "numbers" "[J") ∈ lw_g := lw_g_mem (List.mem_of_getElem? (i := 262) (by decide +kernel)) (by decide +kernel)
theorem wd_263 : (Jvm.Cond.fieldLink "OneBitLoop$Log" (39 : Nat) "OneBitLoop$Twin" "numbers" "[J") ∈ lw_g := lw_g_mem (List.mem_of_getElem? (i := 263) (by decide +kernel)) (by decide +kernel)
theorem wd_264 : (Jvm.Cond.fieldLink "OneBitLoop" (204 : Nat) "OneBitLoop$Twin" "numbers" "[J") ∈ lw_g := lw_g_mem (List.mem_of_getElem? (i := 264) (by decide +kernel)) (by decide +kernel)
theorem wd_265 : (Jvm.Cond.fieldLink "OneBitLoop$Twin" (15 : Nat) "OneBitLoop$Twin" "marks" "[I") ∈ lw_g := lw_g_mem (List.mem_of_getElem? (i := 265) (by decide +kernel)) (by decide +kernel)
theorem wd_266 : (Jvm.Cond.fieldLink "OneBitLoop" (230 : Nat) "OneBitLoop$Twin" "marks" "[I") ∈ lw_g := lw_g_mem (List.mem_of_getElem? (i := 266) (by decide +kernel)) (by decide +kernel)
theorem wd_267 : (Jvm.Cond.fieldLink "OneBitLoop$Twin" (19 : Nat) "OneBitLoop$Twin" "traced" "I") ∈ lw_g := lw_g_mem (List.mem_of_getElem? (i := 267) (by decide +kernel)) (by decide +kernel)
theorem wd_268 : (Jvm.Cond.fieldLink "OneBitLoop" (227 : Nat) "OneBitLoop$Twin" "traced" "I") ∈ lw_g := lw_g_mem (List.mem_of_getElem? (i := 268) (by decide +kernel)) (by decide +kernel)
theorem wd_269 : (Jvm.Cond.fieldLink "OneBitLoop$Twin" (23 : Nat) "OneBitLoop$Twin" "seed" "J") ∈ lw_g := lw_g_mem (List.mem_of_getElem? (i := 269) (by decide +kernel)) (by decide +kernel)
theorem wd_270 : (Jvm.Cond.fieldLink "OneBitLoop$Seen" (73 : Nat) "OneBitLoop$Twin" "seed" "J") ∈ lw_g := lw_g_mem (List.mem_of_getElem? (i := 270) (by decide +kernel)) (by decide +kernel)
theorem wd_271 : (Jvm.Cond.fieldLink "OneBitLoop" (176 : Nat) "OneBitLoop$Twin" "seed" "J") ∈ lw_g := lw_g_mem (List.mem_of_getElem? (i := 271) (by decide +kernel)) (by decide +kernel)
theorem wd_272 : (Jvm.Cond.fieldLink "OneBitLoop$Twin" (27 : Nat) "OneBitLoop$Twin" "told" "I") ∈ lw_g := lw_g_mem (List.mem_of_getElem? (i := 272) (by decide +kernel)) (by decide +kernel)
theorem wd_273 : (Jvm.Cond.fieldLink "OneBitLoop$Holding" (57 : Nat) "OneBitLoop$Twin" "told" "I") ∈ lw_g := lw_g_mem (List.mem_of_getElem? (i := 273) (by decide +kernel)) (by decide +kernel)
theorem wd_274 : (Jvm.Cond.fieldLink "OneBitLoop$Log" (33 : Nat) "OneBitLoop$Twin" "told" "I") ∈ lw_g := lw_g_mem (List.mem_of_getElem? (i := 274) (by decide +kernel)) (by decide +kernel)
theorem wd_275 : (Jvm.Cond.fieldLink "OneBitLoop" (289 : Nat) "OneBitLoop$Twin" "told" "I") ∈ lw_g := lw_g_mem (List.mem_of_getElem? (i := 275) (by decide +kernel)) (by decide +kernel)
theorem wd_289 : (Jvm.Cond.fieldLink "OneBitLoop$Worst" (37 : Nat) "OneBitLoop$Worst" "shape" "LOneBitLoop$Shape;") ∈ lw_g := lw_g_mem (List.mem_of_getElem? (i := 289) (by decide +kernel)) (by decide +kernel)
theorem wd_290 : (Jvm.Cond.fieldLink "OneBitLoop$Worst" (11 : Nat) "OneBitLoop$Worst" "twins" "[LOneBitLoop$Twin;") ∈ lw_g := lw_g_mem (List.mem_of_getElem? (i := 290) (by decide +kernel)) (by decide +kernel)
theorem wd_291 : (Jvm.Cond.fieldLink "OneBitLoop$Worst" (17 : Nat) "OneBitLoop$Worst" "refusal" "I") ∈ lw_g := lw_g_mem (List.mem_of_getElem? (i := 291) (by decide +kernel)) (by decide +kernel)
theorem wd_292 : (Jvm.Cond.fieldLink "OneBitLoop" (268 : Nat) "OneBitLoop$Worst" "refusal" "I") ∈ lw_g := lw_g_mem (List.mem_of_getElem? (i := 292) (by decide +kernel)) (by decide +kernel)
theorem wd_293 : (Jvm.Cond.fieldLink "OneBitLoop$Worst" (21 : Nat) "OneBitLoop$Worst" "size" "J") ∈ lw_g := lw_g_mem (List.mem_of_getElem? (i := 293) (by decide +kernel)) (by decide +kernel)
theorem wd_294 : (Jvm.Cond.fieldLink "OneBitLoop" (271 : Nat) "OneBitLoop$Worst" "size" "J") ∈ lw_g := lw_g_mem (List.mem_of_getElem? (i := 294) (by decide +kernel)) (by decide +kernel)
theorem wd_295 : (Jvm.Cond.fieldLink "OneBitLoop$Worst" (25 : Nat) "OneBitLoop$Worst" "length" "I") ∈ lw_g := lw_g_mem (List.mem_of_getElem? (i := 295) (by decide +kernel)) (by decide +kernel)
theorem wd_296 : (Jvm.Cond.fieldLink "OneBitLoop$Worst" (28 : Nat) "OneBitLoop$Worst" "rowNumber" "I") ∈ lw_g := lw_g_mem (List.mem_of_getElem? (i := 296) (by decide +kernel)) (by decide +kernel)
theorem wd_297 : (Jvm.Cond.fieldLink "OneBitLoop$Worst" (31 : Nat) "OneBitLoop$Worst" "zero" "J") ∈ lw_g := lw_g_mem (List.mem_of_getElem? (i := 297) (by decide +kernel)) (by decide +kernel)
theorem wd_298 : (Jvm.Cond.fieldLink "OneBitLoop$Worst" (34 : Nat) "OneBitLoop$Worst" "one" "J") ∈ lw_g := lw_g_mem (List.mem_of_getElem? (i := 298) (by decide +kernel)) (by decide +kernel)
theorem wd_316 : (Jvm.Cond.classLink "OneBitLoop" (62 : Nat) "OneBitLoop$Twin") ∈ lw_g := lw_g_mem (List.mem_of_getElem? (i := 316) (by decide +kernel)) (by decide +kernel)
theorem wd_317 : (Jvm.Cond.methodLink "OneBitLoop" (64 : Nat) ({ cls := "OneBitLoop$Twin", name := "<init>", desc := "(LOneBitLoop$Shape;)V" } : Jvm.MethodName)) ∈ lw_g := lw_g_mem (List.mem_of_getElem? (i := 317) (by decide +kernel)) (by decide +kernel)
theorem wd_318 : (Jvm.Cond.fieldLink "OneBitLoop" (11 : Nat) "OneBitLoop" "reels" "[LOneBitLoop$Reel;") ∈ lw_g := lw_g_mem (List.mem_of_getElem? (i := 318) (by decide +kernel)) (by decide +kernel)
theorem wd_319 : (Jvm.Cond.fieldLink "OneBitLoop" (19 : Nat) "OneBitLoop" "shape" "LOneBitLoop$Shape;") ∈ lw_g := lw_g_mem (List.mem_of_getElem? (i := 319) (by decide +kernel)) (by decide +kernel)
theorem wd_320 : (Jvm.Cond.fieldLink "OneBitLoop" (26 : Nat) "OneBitLoop" "log" "LOneBitLoop$Log;") ∈ lw_g := lw_g_mem (List.mem_of_getElem? (i := 320) (by decide +kernel)) (by decide +kernel)
theorem wd_321 : (Jvm.Cond.fieldLink "OneBitLoop" (38 : Nat) "OneBitLoop" "holding" "LOneBitLoop$Holding;") ∈ lw_g := lw_g_mem (List.mem_of_getElem? (i := 321) (by decide +kernel)) (by decide +kernel)
theorem wd_322 : (Jvm.Cond.fieldLink "OneBitLoop" (45 : Nat) "OneBitLoop" "reaching" "LOneBitLoop$Reaching;") ∈ lw_g := lw_g_mem (List.mem_of_getElem? (i := 322) (by decide +kernel)) (by decide +kernel)
theorem wd_323 : (Jvm.Cond.fieldLink "OneBitLoop" (54 : Nat) "OneBitLoop" "worstRow" "LOneBitLoop$Worst;") ∈ lw_g := lw_g_mem (List.mem_of_getElem? (i := 323) (by decide +kernel)) (by decide +kernel)
theorem wd_324 : (Jvm.Cond.fieldLink "OneBitLoop" (58 : Nat) "OneBitLoop" "weights" "[I") ∈ lw_g := lw_g_mem (List.mem_of_getElem? (i := 324) (by decide +kernel)) (by decide +kernel)
theorem wd_325 : (Jvm.Cond.fieldLink "OneBitLoop" (65 : Nat) "OneBitLoop" "now" "LOneBitLoop$Twin;") ∈ lw_g := lw_g_mem (List.mem_of_getElem? (i := 325) (by decide +kernel)) (by decide +kernel)
theorem wd_326 : (Jvm.Cond.fieldLink "OneBitLoop" (69 : Nat) "OneBitLoop" "next" "LOneBitLoop$Twin;") ∈ lw_g := lw_g_mem (List.mem_of_getElem? (i := 326) (by decide +kernel)) (by decide +kernel)
theorem wd_327 : (Jvm.Cond.fieldLink "OneBitLoop" (72 : Nat) "OneBitLoop" "finding" "I") ∈ lw_g := lw_g_mem (List.mem_of_getElem? (i := 327) (by decide +kernel)) (by decide +kernel)
theorem wd_350 : (Jvm.Cond.instanceMethod ({ cls := "OneBitLoop", name := "reel", desc := "(III)I" } : Jvm.MethodName)) ∈ lw_g := lw_g_mem (List.mem_of_getElem? (i := 350) (by decide +kernel)) (by decide +kernel)
theorem wd_351 : (Jvm.Cond.selects "OneBitLoop" ({ cls := "OneBitLoop", name := "reel", desc := "(III)I" } : Jvm.MethodName) ({ cls := "OneBitLoop", name := "reel", desc := "(III)I" } : Jvm.MethodName)) ∈ lw_g := lw_g_mem (List.mem_of_getElem? (i := 351) (by decide +kernel)) (by decide +kernel)
theorem wd_352 : (Jvm.Cond.code ({ cls := "OneBitLoop", name := "reel", desc := "(III)I" } : Jvm.MethodName) prog_1_method_2_code (4 : Nat) (Option.some Jvm.ClassFile.FieldType.int)) ∈ lw_g := lw_g_mem (List.mem_of_getElem? (i := 352) (by decide +kernel)) (by decide +kernel)
theorem wd_353 : (Jvm.Cond.methodLink "OneBitLoop" (76 : Nat) ({ cls := "OneBitLoop", name := "isReel", desc := "(I)Z" } : Jvm.MethodName)) ∈ lw_g := lw_g_mem (List.mem_of_getElem? (i := 353) (by decide +kernel)) (by decide +kernel)
theorem wd_354 : (Jvm.Cond.static ({ cls := "OneBitLoop", name := "isReel", desc := "(I)Z" } : Jvm.MethodName)) ∈ lw_g := lw_g_mem (List.mem_of_getElem? (i := 354) (by decide +kernel)) (by decide +kernel)
theorem wd_355 : (Jvm.Cond.code ({ cls := "OneBitLoop", name := "isReel", desc := "(I)Z" } : Jvm.MethodName) prog_1_method_39_code (1 : Nat) (Option.some Jvm.ClassFile.FieldType.boolean)) ∈ lw_g := lw_g_mem (List.mem_of_getElem? (i := 355) (by decide +kernel)) (by decide +kernel)
theorem wd_356 : (Jvm.Cond.methodLink "OneBitLoop" (80 : Nat) ({ cls := "OneBitLoop", name := "isForm", desc := "(I)Z" } : Jvm.MethodName)) ∈ lw_g := lw_g_mem (List.mem_of_getElem? (i := 356) (by decide +kernel)) (by decide +kernel)
theorem wd_357 : (Jvm.Cond.static ({ cls := "OneBitLoop", name := "isForm", desc := "(I)Z" } : Jvm.MethodName)) ∈ lw_g := lw_g_mem (List.mem_of_getElem? (i := 357) (by decide +kernel)) (by decide +kernel)
theorem wd_358 : (Jvm.Cond.code ({ cls := "OneBitLoop", name := "isForm", desc := "(I)Z" } : Jvm.MethodName) prog_1_method_40_code (1 : Nat) (Option.some Jvm.ClassFile.FieldType.boolean)) ∈ lw_g := lw_g_mem (List.mem_of_getElem? (i := 358) (by decide +kernel)) (by decide +kernel)
theorem wd_359 : (Jvm.Cond.methodLink "OneBitLoop" (83 : Nat) ({ cls := "OneBitLoop", name := "found", desc := "(I)I" } : Jvm.MethodName)) ∈ lw_g := lw_g_mem (List.mem_of_getElem? (i := 359) (by decide +kernel)) (by decide +kernel)
theorem wd_361 : (Jvm.Cond.instanceMethod ({ cls := "OneBitLoop", name := "found", desc := "(I)I" } : Jvm.MethodName)) ∈ lw_g := lw_g_mem (List.mem_of_getElem? (i := 361) (by decide +kernel)) (by decide +kernel)
theorem wd_362 : (Jvm.Cond.code ({ cls := "OneBitLoop", name := "found", desc := "(I)I" } : Jvm.MethodName) prog_1_method_33_code (2 : Nat) (Option.some Jvm.ClassFile.FieldType.int)) ∈ lw_g := lw_g_mem (List.mem_of_getElem? (i := 362) (by decide +kernel)) (by decide +kernel)
theorem wd_363 : (Jvm.Cond.methodLink "OneBitLoop" (87 : Nat) ({ cls := "OneBitLoop$Reel", name := "renew", desc := "(II)V" } : Jvm.MethodName)) ∈ lw_g := lw_g_mem (List.mem_of_getElem? (i := 363) (by decide +kernel)) (by decide +kernel)
theorem wd_364 : (Jvm.Cond.instanceMethod ({ cls := "OneBitLoop$Reel", name := "renew", desc := "(II)V" } : Jvm.MethodName)) ∈ lw_g := lw_g_mem (List.mem_of_getElem? (i := 364) (by decide +kernel)) (by decide +kernel)
theorem wd_365 : (Jvm.Cond.selects "OneBitLoop$Reel" ({ cls := "OneBitLoop$Reel", name := "renew", desc := "(II)V" } : Jvm.MethodName) ({ cls := "OneBitLoop$Reel", name := "renew", desc := "(II)V" } : Jvm.MethodName)) ∈ lw_g := lw_g_mem (List.mem_of_getElem? (i := 365) (by decide +kernel)) (by decide +kernel)
theorem wd_366 : (Jvm.Cond.code ({ cls := "OneBitLoop$Reel", name := "renew", desc := "(II)V" } : Jvm.MethodName) prog_5_method_2_code (3 : Nat) (Option.none : Option Jvm.ClassFile.FieldType)) ∈ lw_g := lw_g_mem (List.mem_of_getElem? (i := 366) (by decide +kernel)) (by decide +kernel)
theorem wd_367 : (Jvm.Cond.methodLink "OneBitLoop$Reel" (26 : Nat) ({ cls := "java/util/Arrays", name := "fill", desc := "([JJ)V" } : Jvm.MethodName)) ∈ lw_g := lw_g_mem (List.mem_of_getElem? (i := 367) (by decide +kernel)) (by decide +kernel)
theorem wd_368 : (Jvm.Cond.static ({ cls := "java/util/Arrays", name := "fill", desc := "([JJ)V" } : Jvm.MethodName)) ∈ lw_g := lw_g_mem (List.mem_of_getElem? (i := 368) (by decide +kernel)) (by decide +kernel)
theorem wd_369 : (Jvm.Cond.code ({ cls := "java/util/Arrays", name := "fill", desc := "([JJ)V" } : Jvm.MethodName) prog_17_method_101_code (5 : Nat) (Option.none : Option Jvm.ClassFile.FieldType)) ∈ lw_g := lw_g_mem (List.mem_of_getElem? (i := 369) (by decide +kernel)) (by decide +kernel)
theorem wd_371 : (Jvm.Cond.instanceMethod ({ cls := "OneBitLoop", name := "lose", desc := "(I)I" } : Jvm.MethodName)) ∈ lw_g := lw_g_mem (List.mem_of_getElem? (i := 371) (by decide +kernel)) (by decide +kernel)
theorem wd_372 : (Jvm.Cond.selects "OneBitLoop" ({ cls := "OneBitLoop", name := "lose", desc := "(I)I" } : Jvm.MethodName) ({ cls := "OneBitLoop", name := "lose", desc := "(I)I" } : Jvm.MethodName)) ∈ lw_g := lw_g_mem (List.mem_of_getElem? (i := 372) (by decide +kernel)) (by decide +kernel)
theorem wd_373 : (Jvm.Cond.code ({ cls := "OneBitLoop", name := "lose", desc := "(I)I" } : Jvm.MethodName) prog_1_method_3_code (2 : Nat) (Option.some Jvm.ClassFile.FieldType.int)) ∈ lw_g := lw_g_mem (List.mem_of_getElem? (i := 373) (by decide +kernel)) (by decide +kernel)
theorem wd_375 : (Jvm.Cond.instanceMethod ({ cls := "OneBitLoop", name := "put", desc := "(IIIJ)I" } : Jvm.MethodName)) ∈ lw_g := lw_g_mem (List.mem_of_getElem? (i := 375) (by decide +kernel)) (by decide +kernel)
theorem wd_376 : (Jvm.Cond.selects "OneBitLoop" ({ cls := "OneBitLoop", name := "put", desc := "(IIIJ)I" } : Jvm.MethodName) ({ cls := "OneBitLoop", name := "put", desc := "(IIIJ)I" } : Jvm.MethodName)) ∈ lw_g := lw_g_mem (List.mem_of_getElem? (i := 376) (by decide +kernel)) (by decide +kernel)
theorem wd_377 : (Jvm.Cond.code ({ cls := "OneBitLoop", name := "put", desc := "(IIIJ)I" } : Jvm.MethodName) prog_1_method_4_code (7 : Nat) (Option.some Jvm.ClassFile.FieldType.int)) ∈ lw_g := lw_g_mem (List.mem_of_getElem? (i := 377) (by decide +kernel)) (by decide +kernel)
theorem wd_378 : (Jvm.Cond.methodLink "OneBitLoop" (98 : Nat) ({ cls := "OneBitLoop", name := "refuseItem", desc := "(III)I" } : Jvm.MethodName)) ∈ lw_g := lw_g_mem (List.mem_of_getElem? (i := 378) (by decide +kernel)) (by decide +kernel)
theorem wd_380 : (Jvm.Cond.instanceMethod ({ cls := "OneBitLoop", name := "refuseItem", desc := "(III)I" } : Jvm.MethodName)) ∈ lw_g := lw_g_mem (List.mem_of_getElem? (i := 380) (by decide +kernel)) (by decide +kernel)
theorem wd_381 : (Jvm.Cond.code ({ cls := "OneBitLoop", name := "refuseItem", desc := "(III)I" } : Jvm.MethodName) prog_1_method_34_code (4 : Nat) (Option.some Jvm.ClassFile.FieldType.int)) ∈ lw_g := lw_g_mem (List.mem_of_getElem? (i := 381) (by decide +kernel)) (by decide +kernel)
theorem wd_382 : (Jvm.Cond.methodLink "OneBitLoop" (282 : Nat) ({ cls := "OneBitLoop$Reel", name := "hasItem", desc := "(J)Z" } : Jvm.MethodName)) ∈ lw_g := lw_g_mem (List.mem_of_getElem? (i := 382) (by decide +kernel)) (by decide +kernel)
theorem wd_383 : (Jvm.Cond.instanceMethod ({ cls := "OneBitLoop$Reel", name := "hasItem", desc := "(J)Z" } : Jvm.MethodName)) ∈ lw_g := lw_g_mem (List.mem_of_getElem? (i := 383) (by decide +kernel)) (by decide +kernel)
theorem wd_384 : (Jvm.Cond.selects "OneBitLoop$Reel" ({ cls := "OneBitLoop$Reel", name := "hasItem", desc := "(J)Z" } : Jvm.MethodName) ({ cls := "OneBitLoop$Reel", name := "hasItem", desc := "(J)Z" } : Jvm.MethodName)) ∈ lw_g := lw_g_mem (List.mem_of_getElem? (i := 384) (by decide +kernel)) (by decide +kernel)
theorem wd_385 : (Jvm.Cond.code ({ cls := "OneBitLoop$Reel", name := "hasItem", desc := "(J)Z" } : Jvm.MethodName) prog_5_method_3_code (3 : Nat) (Option.some Jvm.ClassFile.FieldType.boolean)) ∈ lw_g := lw_g_mem (List.mem_of_getElem? (i := 385) (by decide +kernel)) (by decide +kernel)
theorem wd_386 : (Jvm.Cond.methodLink "OneBitLoop" (106 : Nat) ({ cls := "OneBitLoop", name := "bitsAsHeld", desc := "(IJ)J" } : Jvm.MethodName)) ∈ lw_g := lw_g_mem (List.mem_of_getElem? (i := 386) (by decide +kernel)) (by decide +kernel)
theorem wd_387 : (Jvm.Cond.static ({ cls := "OneBitLoop", name := "bitsAsHeld", desc := "(IJ)J" } : Jvm.MethodName)) ∈ lw_g := lw_g_mem (List.mem_of_getElem? (i := 387) (by decide +kernel)) (by decide +kernel)
theorem wd_388 : (Jvm.Cond.code ({ cls := "OneBitLoop", name := "bitsAsHeld", desc := "(IJ)J" } : Jvm.MethodName) prog_1_method_43_code (3 : Nat) (Option.some Jvm.ClassFile.FieldType.long)) ∈ lw_g := lw_g_mem (List.mem_of_getElem? (i := 388) (by decide +kernel)) (by decide +kernel)
theorem wd_389 : (Jvm.Cond.methodLink "OneBitLoop" (298 : Nat) ({ cls := "OneBitLoop", name := "isNoNumber", desc := "(IJ)Z" } : Jvm.MethodName)) ∈ lw_g := lw_g_mem (List.mem_of_getElem? (i := 389) (by decide +kernel)) (by decide +kernel)
theorem wd_390 : (Jvm.Cond.static ({ cls := "OneBitLoop", name := "isNoNumber", desc := "(IJ)Z" } : Jvm.MethodName)) ∈ lw_g := lw_g_mem (List.mem_of_getElem? (i := 390) (by decide +kernel)) (by decide +kernel)
theorem wd_391 : (Jvm.Cond.code ({ cls := "OneBitLoop", name := "isNoNumber", desc := "(IJ)Z" } : Jvm.MethodName) prog_1_method_44_code (3 : Nat) (Option.some Jvm.ClassFile.FieldType.boolean)) ∈ lw_g := lw_g_mem (List.mem_of_getElem? (i := 391) (by decide +kernel)) (by decide +kernel)
theorem wd_392 : (Jvm.Cond.constantLong "OneBitLoop" (305 : Nat) (2147483647 : Int64)) ∈ lw_g := lw_g_mem (List.mem_of_getElem? (i := 392) (by decide +kernel)) (by decide +kernel)
theorem wd_393 : (Jvm.Cond.constantLong "OneBitLoop" (307 : Nat) (2139095040 : Int64)) ∈ lw_g := lw_g_mem (List.mem_of_getElem? (i := 393) (by decide +kernel)) (by decide +kernel)
theorem wd_394 : (Jvm.Cond.constantLong "OneBitLoop" (309 : Nat) (9223372036854775807 : Int64)) ∈ lw_g := lw_g_mem (List.mem_of_getElem? (i := 394) (by decide +kernel)) (by decide +kernel)
theorem wd_395 : (Jvm.Cond.constantLong "OneBitLoop" (311 : Nat) (9218868437227405312 : Int64)) ∈ lw_g := lw_g_mem (List.mem_of_getElem? (i := 395) (by decide +kernel)) (by decide +kernel)
theorem wd_396 : (Jvm.Cond.constantLong "OneBitLoop" (301 : Nat) (2143289344 : Int64)) ∈ lw_g := lw_g_mem (List.mem_of_getElem? (i := 396) (by decide +kernel)) (by decide +kernel)
theorem wd_397 : (Jvm.Cond.constantLong "OneBitLoop" (303 : Nat) (9221120237041090560 : Int64)) ∈ lw_g := lw_g_mem (List.mem_of_getElem? (i := 397) (by decide +kernel)) (by decide +kernel)
theorem wd_399 : (Jvm.Cond.instanceMethod ({ cls := "OneBitLoop", name := "get", desc := "(III)J" } : Jvm.MethodName)) ∈ lw_g := lw_g_mem (List.mem_of_getElem? (i := 399) (by decide +kernel)) (by decide +kernel)
theorem wd_400 : (Jvm.Cond.selects "OneBitLoop" ({ cls := "OneBitLoop", name := "get", desc := "(III)J" } : Jvm.MethodName) ({ cls := "OneBitLoop", name := "get", desc := "(III)J" } : Jvm.MethodName)) ∈ lw_g := lw_g_mem (List.mem_of_getElem? (i := 400) (by decide +kernel)) (by decide +kernel)
theorem wd_401 : (Jvm.Cond.code ({ cls := "OneBitLoop", name := "get", desc := "(III)J" } : Jvm.MethodName) prog_1_method_5_code (4 : Nat) (Option.some Jvm.ClassFile.FieldType.long)) ∈ lw_g := lw_g_mem (List.mem_of_getElem? (i := 401) (by decide +kernel)) (by decide +kernel)
theorem wd_403 : (Jvm.Cond.instanceMethod ({ cls := "OneBitLoop", name := "copy", desc := "(IIIII)I" } : Jvm.MethodName)) ∈ lw_g := lw_g_mem (List.mem_of_getElem? (i := 403) (by decide +kernel)) (by decide +kernel)
theorem wd_404 : (Jvm.Cond.selects "OneBitLoop" ({ cls := "OneBitLoop", name := "copy", desc := "(IIIII)I" } : Jvm.MethodName) ({ cls := "OneBitLoop", name := "copy", desc := "(IIIII)I" } : Jvm.MethodName)) ∈ lw_g := lw_g_mem (List.mem_of_getElem? (i := 404) (by decide +kernel)) (by decide +kernel)
theorem wd_405 : (Jvm.Cond.code ({ cls := "OneBitLoop", name := "copy", desc := "(IIIII)I" } : Jvm.MethodName) prog_1_method_6_code (8 : Nat) (Option.some Jvm.ClassFile.FieldType.int)) ∈ lw_g := lw_g_mem (List.mem_of_getElem? (i := 405) (by decide +kernel)) (by decide +kernel)
theorem wd_406 : (Jvm.Cond.methodLink "OneBitLoop" (113 : Nat) ({ cls := "OneBitLoop$Reel", name := "hasRow", desc := "(II)Z" } : Jvm.MethodName)) ∈ lw_g := lw_g_mem (List.mem_of_getElem? (i := 406) (by decide +kernel)) (by decide +kernel)
theorem wd_407 : (Jvm.Cond.instanceMethod ({ cls := "OneBitLoop$Reel", name := "hasRow", desc := "(II)Z" } : Jvm.MethodName)) ∈ lw_g := lw_g_mem (List.mem_of_getElem? (i := 407) (by decide +kernel)) (by decide +kernel)
theorem wd_408 : (Jvm.Cond.selects "OneBitLoop$Reel" ({ cls := "OneBitLoop$Reel", name := "hasRow", desc := "(II)Z" } : Jvm.MethodName) ({ cls := "OneBitLoop$Reel", name := "hasRow", desc := "(II)Z" } : Jvm.MethodName)) ∈ lw_g := lw_g_mem (List.mem_of_getElem? (i := 408) (by decide +kernel)) (by decide +kernel)
theorem wd_409 : (Jvm.Cond.code ({ cls := "OneBitLoop$Reel", name := "hasRow", desc := "(II)Z" } : Jvm.MethodName) prog_5_method_4_code (3 : Nat) (Option.some Jvm.ClassFile.FieldType.boolean)) ∈ lw_g := lw_g_mem (List.mem_of_getElem? (i := 409) (by decide +kernel)) (by decide +kernel)
theorem wd_410 : (Jvm.Cond.methodLink "OneBitLoop" (117 : Nat) ({ cls := "java/lang/System", name := "arraycopy", desc := "(Ljava/lang/Object;ILjava/lang/Object;II)V" } : Jvm.MethodName)) ∈ lw_g := lw_g_mem (List.mem_of_getElem? (i := 410) (by decide +kernel)) (by decide +kernel)
theorem wd_411 : (Jvm.Cond.static ({ cls := "java/lang/System", name := "arraycopy", desc := "(Ljava/lang/Object;ILjava/lang/Object;II)V" } : Jvm.MethodName)) ∈ lw_g := lw_g_mem (List.mem_of_getElem? (i := 411) (by decide +kernel)) (by decide +kernel)
theorem wd_412 : (Jvm.Cond.native ({ cls := "java/lang/System", name := "arraycopy", desc := "(Ljava/lang/Object;ILjava/lang/Object;II)V" } : Jvm.MethodName)) ∈ lw_g := lw_g_mem (List.mem_of_getElem? (i := 412) (by decide +kernel)) (by decide +kernel)
theorem wd_414 : (Jvm.Cond.instanceMethod ({ cls := "OneBitLoop", name := "sample", desc := "(II)J" } : Jvm.MethodName)) ∈ lw_g := lw_g_mem (List.mem_of_getElem? (i := 414) (by decide +kernel)) (by decide +kernel)
theorem wd_415 : (Jvm.Cond.selects "OneBitLoop" ({ cls := "OneBitLoop", name := "sample", desc := "(II)J" } : Jvm.MethodName) ({ cls := "OneBitLoop", name := "sample", desc := "(II)J" } : Jvm.MethodName)) ∈ lw_g := lw_g_mem (List.mem_of_getElem? (i := 415) (by decide +kernel)) (by decide +kernel)
theorem wd_416 : (Jvm.Cond.code ({ cls := "OneBitLoop", name := "sample", desc := "(II)J" } : Jvm.MethodName) prog_1_method_7_code (3 : Nat) (Option.some Jvm.ClassFile.FieldType.long)) ∈ lw_g := lw_g_mem (List.mem_of_getElem? (i := 416) (by decide +kernel)) (by decide +kernel)
theorem wd_417 : (Jvm.Cond.methodLink "OneBitLoop" (123 : Nat) ({ cls := "OneBitLoop", name := "refuseSample", desc := "(IJ)I" } : Jvm.MethodName)) ∈ lw_g := lw_g_mem (List.mem_of_getElem? (i := 417) (by decide +kernel)) (by decide +kernel)
theorem wd_419 : (Jvm.Cond.instanceMethod ({ cls := "OneBitLoop", name := "refuseSample", desc := "(IJ)I" } : Jvm.MethodName)) ∈ lw_g := lw_g_mem (List.mem_of_getElem? (i := 419) (by decide +kernel)) (by decide +kernel)
theorem wd_420 : (Jvm.Cond.code ({ cls := "OneBitLoop", name := "refuseSample", desc := "(IJ)I" } : Jvm.MethodName) prog_1_method_35_code (4 : Nat) (Option.some Jvm.ClassFile.FieldType.int)) ∈ lw_g := lw_g_mem (List.mem_of_getElem? (i := 420) (by decide +kernel)) (by decide +kernel)
theorem wd_421 : (Jvm.Cond.methodLink "OneBitLoop" (127 : Nat) ({ cls := "OneBitLoop$Log", name := "latestMade", desc := "()J" } : Jvm.MethodName)) ∈ lw_g := lw_g_mem (List.mem_of_getElem? (i := 421) (by decide +kernel)) (by decide +kernel)
theorem wd_422 : (Jvm.Cond.instanceMethod ({ cls := "OneBitLoop$Log", name := "latestMade", desc := "()J" } : Jvm.MethodName)) ∈ lw_g := lw_g_mem (List.mem_of_getElem? (i := 422) (by decide +kernel)) (by decide +kernel)
theorem wd_423 : (Jvm.Cond.selects "OneBitLoop$Log" ({ cls := "OneBitLoop$Log", name := "latestMade", desc := "()J" } : Jvm.MethodName) ({ cls := "OneBitLoop$Log", name := "latestMade", desc := "()J" } : Jvm.MethodName)) ∈ lw_g := lw_g_mem (List.mem_of_getElem? (i := 423) (by decide +kernel)) (by decide +kernel)
theorem wd_424 : (Jvm.Cond.code ({ cls := "OneBitLoop$Log", name := "latestMade", desc := "()J" } : Jvm.MethodName) prog_3_method_4_code (1 : Nat) (Option.some Jvm.ClassFile.FieldType.long)) ∈ lw_g := lw_g_mem (List.mem_of_getElem? (i := 424) (by decide +kernel)) (by decide +kernel)
theorem wd_425 : (Jvm.Cond.methodLink "OneBitLoop" (131 : Nat) ({ cls := "OneBitLoop$Reel", name := "sampleOf", desc := "(IJ)J" } : Jvm.MethodName)) ∈ lw_g := lw_g_mem (List.mem_of_getElem? (i := 425) (by decide +kernel)) (by decide +kernel)
theorem wd_426 : (Jvm.Cond.instanceMethod ({ cls := "OneBitLoop$Reel", name := "sampleOf", desc := "(IJ)J" } : Jvm.MethodName)) ∈ lw_g := lw_g_mem (List.mem_of_getElem? (i := 426) (by decide +kernel)) (by decide +kernel)
theorem wd_427 : (Jvm.Cond.selects "OneBitLoop$Reel" ({ cls := "OneBitLoop$Reel", name := "sampleOf", desc := "(IJ)J" } : Jvm.MethodName) ({ cls := "OneBitLoop$Reel", name := "sampleOf", desc := "(IJ)J" } : Jvm.MethodName)) ∈ lw_g := lw_g_mem (List.mem_of_getElem? (i := 427) (by decide +kernel)) (by decide +kernel)
theorem wd_428 : (Jvm.Cond.code ({ cls := "OneBitLoop$Reel", name := "sampleOf", desc := "(IJ)J" } : Jvm.MethodName) prog_5_method_5_code (4 : Nat) (Option.some Jvm.ClassFile.FieldType.long)) ∈ lw_g := lw_g_mem (List.mem_of_getElem? (i := 428) (by decide +kernel)) (by decide +kernel)
theorem wd_431 : (Jvm.Cond.static ({ cls := "OneBitLoop", name := "cutToSample", desc := "(IJ)J" } : Jvm.MethodName)) ∈ lw_g := lw_g_mem (List.mem_of_getElem? (i := 431) (by decide +kernel)) (by decide +kernel)
theorem wd_432 : (Jvm.Cond.code ({ cls := "OneBitLoop", name := "cutToSample", desc := "(IJ)J" } : Jvm.MethodName) prog_1_method_45_code (5 : Nat) (Option.some Jvm.ClassFile.FieldType.long)) ∈ lw_g := lw_g_mem (List.mem_of_getElem? (i := 432) (by decide +kernel)) (by decide +kernel)
theorem wd_433 : (Jvm.Cond.constantLong "OneBitLoop" (292 : Nat) (-1000000000000 : Int64)) ∈ lw_g := lw_g_mem (List.mem_of_getElem? (i := 433) (by decide +kernel)) (by decide +kernel)
theorem wd_434 : (Jvm.Cond.constantLong "OneBitLoop" (294 : Nat) (1000000000000 : Int64)) ∈ lw_g := lw_g_mem (List.mem_of_getElem? (i := 434) (by decide +kernel)) (by decide +kernel)
theorem wd_435 : (Jvm.Cond.methodLink "OneBitLoop" (313 : Nat) ({ cls := "java/lang/Math", name := "min", desc := "(JJ)J" } : Jvm.MethodName)) ∈ lw_g := lw_g_mem (List.mem_of_getElem? (i := 435) (by decide +kernel)) (by decide +kernel)
theorem wd_436 : (Jvm.Cond.static ({ cls := "java/lang/Math", name := "min", desc := "(JJ)J" } : Jvm.MethodName)) ∈ lw_g := lw_g_mem (List.mem_of_getElem? (i := 436) (by decide +kernel)) (by decide +kernel)
theorem wd_438 : (Jvm.Cond.methodLink "OneBitLoop" (319 : Nat) ({ cls := "java/lang/Math", name := "max", desc := "(JJ)J" } : Jvm.MethodName)) ∈ lw_g := lw_g_mem (List.mem_of_getElem? (i := 438) (by decide +kernel)) (by decide +kernel)
theorem wd_439 : (Jvm.Cond.static ({ cls := "java/lang/Math", name := "max", desc := "(JJ)J" } : Jvm.MethodName)) ∈ lw_g := lw_g_mem (List.mem_of_getElem? (i := 439) (by decide +kernel)) (by decide +kernel)
theorem wd_441 : (Jvm.Cond.constantLong "OneBitLoop" (322 : Nat) (255 : Int64)) ∈ lw_g := lw_g_mem (List.mem_of_getElem? (i := 441) (by decide +kernel)) (by decide +kernel)
theorem wd_442 : (Jvm.Cond.constantLong "OneBitLoop" (324 : Nat) (8388607 : Int64)) ∈ lw_g := lw_g_mem (List.mem_of_getElem? (i := 442) (by decide +kernel)) (by decide +kernel)
theorem wd_443 : (Jvm.Cond.methodLink "OneBitLoop" (326 : Nat) ({ cls := "OneBitLoop", name := "sizeOfParts", desc := "(JJII)J" } : Jvm.MethodName)) ∈ lw_g := lw_g_mem (List.mem_of_getElem? (i := 443) (by decide +kernel)) (by decide +kernel)
theorem wd_444 : (Jvm.Cond.static ({ cls := "OneBitLoop", name := "sizeOfParts", desc := "(JJII)J" } : Jvm.MethodName)) ∈ lw_g := lw_g_mem (List.mem_of_getElem? (i := 444) (by decide +kernel)) (by decide +kernel)
theorem wd_445 : (Jvm.Cond.code ({ cls := "OneBitLoop", name := "sizeOfParts", desc := "(JJII)J" } : Jvm.MethodName) prog_1_method_46_code (11 : Nat) (Option.some Jvm.ClassFile.FieldType.long)) ∈ lw_g := lw_g_mem (List.mem_of_getElem? (i := 445) (by decide +kernel)) (by decide +kernel)
theorem wd_446 : (Jvm.Cond.constantLong "OneBitLoop" (330 : Nat) (2047 : Int64)) ∈ lw_g := lw_g_mem (List.mem_of_getElem? (i := 446) (by decide +kernel)) (by decide +kernel)
theorem wd_447 : (Jvm.Cond.constantLong "OneBitLoop" (332 : Nat) (4503599627370495 : Int64)) ∈ lw_g := lw_g_mem (List.mem_of_getElem? (i := 447) (by decide +kernel)) (by decide +kernel)
theorem wd_449 : (Jvm.Cond.instanceMethod ({ cls := "OneBitLoop", name := "stage", desc := "(IJI)I" } : Jvm.MethodName)) ∈ lw_g := lw_g_mem (List.mem_of_getElem? (i := 449) (by decide +kernel)) (by decide +kernel)
theorem wd_450 : (Jvm.Cond.selects "OneBitLoop" ({ cls := "OneBitLoop", name := "stage", desc := "(IJI)I" } : Jvm.MethodName) ({ cls := "OneBitLoop", name := "stage", desc := "(IJI)I" } : Jvm.MethodName)) ∈ lw_g := lw_g_mem (List.mem_of_getElem? (i := 450) (by decide +kernel)) (by decide +kernel)
theorem wd_451 : (Jvm.Cond.code ({ cls := "OneBitLoop", name := "stage", desc := "(IJI)I" } : Jvm.MethodName) prog_1_method_8_code (5 : Nat) (Option.some Jvm.ClassFile.FieldType.int)) ∈ lw_g := lw_g_mem (List.mem_of_getElem? (i := 451) (by decide +kernel)) (by decide +kernel)
theorem wd_452 : (Jvm.Cond.methodLink "OneBitLoop" (134 : Nat) ({ cls := "OneBitLoop", name := "isStageAsTold", desc := "(IJI)Z" } : Jvm.MethodName)) ∈ lw_g := lw_g_mem (List.mem_of_getElem? (i := 452) (by decide +kernel)) (by decide +kernel)
theorem wd_453 : (Jvm.Cond.static ({ cls := "OneBitLoop", name := "isStageAsTold", desc := "(IJI)Z" } : Jvm.MethodName)) ∈ lw_g := lw_g_mem (List.mem_of_getElem? (i := 453) (by decide +kernel)) (by decide +kernel)
theorem wd_454 : (Jvm.Cond.code ({ cls := "OneBitLoop", name := "isStageAsTold", desc := "(IJI)Z" } : Jvm.MethodName) prog_1_method_42_code (6 : Nat) (Option.some Jvm.ClassFile.FieldType.boolean)) ∈ lw_g := lw_g_mem (List.mem_of_getElem? (i := 454) (by decide +kernel)) (by decide +kernel)
theorem wd_455 : (Jvm.Cond.constantLong "OneBitLoop" (296 : Nat) (256 : Int64)) ∈ lw_g := lw_g_mem (List.mem_of_getElem? (i := 455) (by decide +kernel)) (by decide +kernel)
theorem wd_456 : (Jvm.Cond.constantLong "OneBitLoop" (248 : Nat) (1000000000000000 : Int64)) ∈ lw_g := lw_g_mem (List.mem_of_getElem? (i := 456) (by decide +kernel)) (by decide +kernel)
theorem wd_457 : (Jvm.Cond.methodLink "OneBitLoop" (144 : Nat) ({ cls := "OneBitLoop$Shape", name := "addStage", desc := "(IJI)I" } : Jvm.MethodName)) ∈ lw_g := lw_g_mem (List.mem_of_getElem? (i := 457) (by decide +kernel)) (by decide +kernel)
theorem wd_458 : (Jvm.Cond.instanceMethod ({ cls := "OneBitLoop$Shape", name := "addStage", desc := "(IJI)I" } : Jvm.MethodName)) ∈ lw_g := lw_g_mem (List.mem_of_getElem? (i := 458) (by decide +kernel)) (by decide +kernel)
theorem wd_459 : (Jvm.Cond.selects "OneBitLoop$Shape" ({ cls := "OneBitLoop$Shape", name := "addStage", desc := "(IJI)I" } : Jvm.MethodName) ({ cls := "OneBitLoop$Shape", name := "addStage", desc := "(IJI)I" } : Jvm.MethodName)) ∈ lw_g := lw_g_mem (List.mem_of_getElem? (i := 459) (by decide +kernel)) (by decide +kernel)
theorem wd_460 : (Jvm.Cond.code ({ cls := "OneBitLoop$Shape", name := "addStage", desc := "(IJI)I" } : Jvm.MethodName) prog_7_method_2_code (5 : Nat) (Option.some Jvm.ClassFile.FieldType.int)) ∈ lw_g := lw_g_mem (List.mem_of_getElem? (i := 460) (by decide +kernel)) (by decide +kernel)
theorem wd_462 : (Jvm.Cond.instanceMethod ({ cls := "OneBitLoop", name := "levels", desc := "(IJJ)I" } : Jvm.MethodName)) ∈ lw_g := lw_g_mem (List.mem_of_getElem? (i := 462) (by decide +kernel)) (by decide +kernel)
theorem wd_463 : (Jvm.Cond.selects "OneBitLoop" ({ cls := "OneBitLoop", name := "levels", desc := "(IJJ)I" } : Jvm.MethodName) ({ cls := "OneBitLoop", name := "levels", desc := "(IJJ)I" } : Jvm.MethodName)) ∈ lw_g := lw_g_mem (List.mem_of_getElem? (i := 463) (by decide +kernel)) (by decide +kernel)
theorem wd_464 : (Jvm.Cond.code ({ cls := "OneBitLoop", name := "levels", desc := "(IJJ)I" } : Jvm.MethodName) prog_1_method_9_code (6 : Nat) (Option.some Jvm.ClassFile.FieldType.int)) ∈ lw_g := lw_g_mem (List.mem_of_getElem? (i := 464) (by decide +kernel)) (by decide +kernel)
theorem wd_465 : (Jvm.Cond.constantLong "OneBitLoop" (148 : Nat) (1000000000 : Int64)) ∈ lw_g := lw_g_mem (List.mem_of_getElem? (i := 465) (by decide +kernel)) (by decide +kernel)
theorem wd_466 : (Jvm.Cond.methodLink "OneBitLoop" (150 : Nat) ({ cls := "OneBitLoop", name := "isSample", desc := "(J)Z" } : Jvm.MethodName)) ∈ lw_g := lw_g_mem (List.mem_of_getElem? (i := 466) (by decide +kernel)) (by decide +kernel)
theorem wd_467 : (Jvm.Cond.static ({ cls := "OneBitLoop", name := "isSample", desc := "(J)Z" } : Jvm.MethodName)) ∈ lw_g := lw_g_mem (List.mem_of_getElem? (i := 467) (by decide +kernel)) (by decide +kernel)
theorem wd_468 : (Jvm.Cond.code ({ cls := "OneBitLoop", name := "isSample", desc := "(J)Z" } : Jvm.MethodName) prog_1_method_41_code (2 : Nat) (Option.some Jvm.ClassFile.FieldType.boolean)) ∈ lw_g := lw_g_mem (List.mem_of_getElem? (i := 468) (by decide +kernel)) (by decide +kernel)
theorem wd_469 : (Jvm.Cond.methodLink "OneBitLoop" (154 : Nat) ({ cls := "OneBitLoop$Shape", name := "layLevels", desc := "(IJJ)V" } : Jvm.MethodName)) ∈ lw_g := lw_g_mem (List.mem_of_getElem? (i := 469) (by decide +kernel)) (by decide +kernel)
theorem wd_470 : (Jvm.Cond.instanceMethod ({ cls := "OneBitLoop$Shape", name := "layLevels", desc := "(IJJ)V" } : Jvm.MethodName)) ∈ lw_g := lw_g_mem (List.mem_of_getElem? (i := 470) (by decide +kernel)) (by decide +kernel)
theorem wd_471 : (Jvm.Cond.selects "OneBitLoop$Shape" ({ cls := "OneBitLoop$Shape", name := "layLevels", desc := "(IJJ)V" } : Jvm.MethodName) ({ cls := "OneBitLoop$Shape", name := "layLevels", desc := "(IJJ)V" } : Jvm.MethodName)) ∈ lw_g := lw_g_mem (List.mem_of_getElem? (i := 471) (by decide +kernel)) (by decide +kernel)
theorem wd_472 : (Jvm.Cond.code ({ cls := "OneBitLoop$Shape", name := "layLevels", desc := "(IJJ)V" } : Jvm.MethodName) prog_7_method_3_code (7 : Nat) (Option.none : Option Jvm.ClassFile.FieldType)) ∈ lw_g := lw_g_mem (List.mem_of_getElem? (i := 472) (by decide +kernel)) (by decide +kernel)
theorem wd_474 : (Jvm.Cond.instanceMethod ({ cls := "OneBitLoop", name := "level", desc := "(IJ)I" } : Jvm.MethodName)) ∈ lw_g := lw_g_mem (List.mem_of_getElem? (i := 474) (by decide +kernel)) (by decide +kernel)
theorem wd_475 : (Jvm.Cond.selects "OneBitLoop" ({ cls := "OneBitLoop", name := "level", desc := "(IJ)I" } : Jvm.MethodName) ({ cls := "OneBitLoop", name := "level", desc := "(IJ)I" } : Jvm.MethodName)) ∈ lw_g := lw_g_mem (List.mem_of_getElem? (i := 475) (by decide +kernel)) (by decide +kernel)
theorem wd_476 : (Jvm.Cond.code ({ cls := "OneBitLoop", name := "level", desc := "(IJ)I" } : Jvm.MethodName) prog_1_method_10_code (4 : Nat) (Option.some Jvm.ClassFile.FieldType.int)) ∈ lw_g := lw_g_mem (List.mem_of_getElem? (i := 476) (by decide +kernel)) (by decide +kernel)
theorem wd_477 : (Jvm.Cond.methodLink "OneBitLoop" (158 : Nat) ({ cls := "OneBitLoop$Shape", name := "hasLevel", desc := "(I)Z" } : Jvm.MethodName)) ∈ lw_g := lw_g_mem (List.mem_of_getElem? (i := 477) (by decide +kernel)) (by decide +kernel)
theorem wd_478 : (Jvm.Cond.instanceMethod ({ cls := "OneBitLoop$Shape", name := "hasLevel", desc := "(I)Z" } : Jvm.MethodName)) ∈ lw_g := lw_g_mem (List.mem_of_getElem? (i := 478) (by decide +kernel)) (by decide +kernel)
theorem wd_479 : (Jvm.Cond.selects "OneBitLoop$Shape" ({ cls := "OneBitLoop$Shape", name := "hasLevel", desc := "(I)Z" } : Jvm.MethodName) ({ cls := "OneBitLoop$Shape", name := "hasLevel", desc := "(I)Z" } : Jvm.MethodName)) ∈ lw_g := lw_g_mem (List.mem_of_getElem? (i := 479) (by decide +kernel)) (by decide +kernel)
theorem wd_480 : (Jvm.Cond.code ({ cls := "OneBitLoop$Shape", name := "hasLevel", desc := "(I)Z" } : Jvm.MethodName) prog_7_method_5_code (2 : Nat) (Option.some Jvm.ClassFile.FieldType.boolean)) ∈ lw_g := lw_g_mem (List.mem_of_getElem? (i := 480) (by decide +kernel)) (by decide +kernel)
theorem wd_481 : (Jvm.Cond.methodLink "OneBitLoop" (161 : Nat) ({ cls := "OneBitLoop$Shape", name := "wouldRise", desc := "(IJ)Z" } : Jvm.MethodName)) ∈ lw_g := lw_g_mem (List.mem_of_getElem? (i := 481) (by decide +kernel)) (by decide +kernel)
theorem wd_482 : (Jvm.Cond.instanceMethod ({ cls := "OneBitLoop$Shape", name := "wouldRise", desc := "(IJ)Z" } : Jvm.MethodName)) ∈ lw_g := lw_g_mem (List.mem_of_getElem? (i := 482) (by decide +kernel)) (by decide +kernel)
theorem wd_483 : (Jvm.Cond.selects "OneBitLoop$Shape" ({ cls := "OneBitLoop$Shape", name := "wouldRise", desc := "(IJ)Z" } : Jvm.MethodName) ({ cls := "OneBitLoop$Shape", name := "wouldRise", desc := "(IJ)Z" } : Jvm.MethodName)) ∈ lw_g := lw_g_mem (List.mem_of_getElem? (i := 483) (by decide +kernel)) (by decide +kernel)
theorem wd_484 : (Jvm.Cond.code ({ cls := "OneBitLoop$Shape", name := "wouldRise", desc := "(IJ)Z" } : Jvm.MethodName) prog_7_method_6_code (4 : Nat) (Option.some Jvm.ClassFile.FieldType.boolean)) ∈ lw_g := lw_g_mem (List.mem_of_getElem? (i := 484) (by decide +kernel)) (by decide +kernel)
theorem wd_486 : (Jvm.Cond.instanceMethod ({ cls := "OneBitLoop", name := "lot", desc := "(IJ)I" } : Jvm.MethodName)) ∈ lw_g := lw_g_mem (List.mem_of_getElem? (i := 486) (by decide +kernel)) (by decide +kernel)
theorem wd_487 : (Jvm.Cond.selects "OneBitLoop" ({ cls := "OneBitLoop", name := "lot", desc := "(IJ)I" } : Jvm.MethodName) ({ cls := "OneBitLoop", name := "lot", desc := "(IJ)I" } : Jvm.MethodName)) ∈ lw_g := lw_g_mem (List.mem_of_getElem? (i := 487) (by decide +kernel)) (by decide +kernel)
theorem wd_488 : (Jvm.Cond.code ({ cls := "OneBitLoop", name := "lot", desc := "(IJ)I" } : Jvm.MethodName) prog_1_method_11_code (4 : Nat) (Option.some Jvm.ClassFile.FieldType.int)) ∈ lw_g := lw_g_mem (List.mem_of_getElem? (i := 488) (by decide +kernel)) (by decide +kernel)
theorem wd_489 : (Jvm.Cond.constant "OneBitLoop" (168 : Nat) (1000000000 : Int32)) ∈ lw_g := lw_g_mem (List.mem_of_getElem? (i := 489) (by decide +kernel)) (by decide +kernel)
theorem wd_491 : (Jvm.Cond.instanceMethod ({ cls := "OneBitLoop", name := "step", desc := "(J)I" } : Jvm.MethodName)) ∈ lw_g := lw_g_mem (List.mem_of_getElem? (i := 491) (by decide +kernel)) (by decide +kernel)
theorem wd_492 : (Jvm.Cond.selects "OneBitLoop" ({ cls := "OneBitLoop", name := "step", desc := "(J)I" } : Jvm.MethodName) ({ cls := "OneBitLoop", name := "step", desc := "(J)I" } : Jvm.MethodName)) ∈ lw_g := lw_g_mem (List.mem_of_getElem? (i := 492) (by decide +kernel)) (by decide +kernel)
theorem wd_493 : (Jvm.Cond.code ({ cls := "OneBitLoop", name := "step", desc := "(J)I" } : Jvm.MethodName) prog_1_method_12_code (3 : Nat) (Option.some Jvm.ClassFile.FieldType.int)) ∈ lw_g := lw_g_mem (List.mem_of_getElem? (i := 493) (by decide +kernel)) (by decide +kernel)
theorem wd_494 : (Jvm.Cond.methodLink "OneBitLoop" (179 : Nat) ({ cls := "OneBitLoop", name := "makeOne", desc := "(J)I" } : Jvm.MethodName)) ∈ lw_g := lw_g_mem (List.mem_of_getElem? (i := 494) (by decide +kernel)) (by decide +kernel)
theorem wd_496 : (Jvm.Cond.instanceMethod ({ cls := "OneBitLoop", name := "makeOne", desc := "(J)I" } : Jvm.MethodName)) ∈ lw_g := lw_g_mem (List.mem_of_getElem? (i := 496) (by decide +kernel)) (by decide +kernel)
theorem wd_497 : (Jvm.Cond.code ({ cls := "OneBitLoop", name := "makeOne", desc := "(J)I" } : Jvm.MethodName) prog_1_method_36_code (4 : Nat) (Option.some Jvm.ClassFile.FieldType.int)) ∈ lw_g := lw_g_mem (List.mem_of_getElem? (i := 497) (by decide +kernel)) (by decide +kernel)
theorem wd_498 : (Jvm.Cond.methodLink "OneBitLoop" (192 : Nat) ({ cls := "OneBitLoop$Twin", name := "becomeLike", desc := "(LOneBitLoop$Twin;)V" } : Jvm.MethodName)) ∈ lw_g := lw_g_mem (List.mem_of_getElem? (i := 498) (by decide +kernel)) (by decide +kernel)
theorem wd_499 : (Jvm.Cond.instanceMethod ({ cls := "OneBitLoop$Twin", name := "becomeLike", desc := "(LOneBitLoop$Twin;)V" } : Jvm.MethodName)) ∈ lw_g := lw_g_mem (List.mem_of_getElem? (i := 499) (by decide +kernel)) (by decide +kernel)
theorem wd_500 : (Jvm.Cond.selects "OneBitLoop$Twin" ({ cls := "OneBitLoop$Twin", name := "becomeLike", desc := "(LOneBitLoop$Twin;)V" } : Jvm.MethodName) ({ cls := "OneBitLoop$Twin", name := "becomeLike", desc := "(LOneBitLoop$Twin;)V" } : Jvm.MethodName)) ∈ lw_g := lw_g_mem (List.mem_of_getElem? (i := 500) (by decide +kernel)) (by decide +kernel)
theorem wd_501 : (Jvm.Cond.code ({ cls := "OneBitLoop$Twin", name := "becomeLike", desc := "(LOneBitLoop$Twin;)V" } : Jvm.MethodName) prog_8_method_3_code (2 : Nat) (Option.none : Option Jvm.ClassFile.FieldType)) ∈ lw_g := lw_g_mem (List.mem_of_getElem? (i := 501) (by decide +kernel)) (by decide +kernel)
theorem wd_502 : (Jvm.Cond.methodLink "OneBitLoop$Twin" (45 : Nat) ({ cls := "java/lang/System", name := "arraycopy", desc := "(Ljava/lang/Object;ILjava/lang/Object;II)V" } : Jvm.MethodName)) ∈ lw_g := lw_g_mem (List.mem_of_getElem? (i := 502) (by decide +kernel)) (by decide +kernel)
theorem wd_503 : (Jvm.Cond.methodLink "OneBitLoop" (189 : Nat) ({ cls := "OneBitLoop$Twin", name := "makeStep", desc := "(J)Z" } : Jvm.MethodName)) ∈ lw_g := lw_g_mem (List.mem_of_getElem? (i := 503) (by decide +kernel)) (by decide +kernel)
theorem wd_504 : (Jvm.Cond.instanceMethod ({ cls := "OneBitLoop$Twin", name := "makeStep", desc := "(J)Z" } : Jvm.MethodName)) ∈ lw_g := lw_g_mem (List.mem_of_getElem? (i := 504) (by decide +kernel)) (by decide +kernel)
theorem wd_505 : (Jvm.Cond.selects "OneBitLoop$Twin" ({ cls := "OneBitLoop$Twin", name := "makeStep", desc := "(J)Z" } : Jvm.MethodName) ({ cls := "OneBitLoop$Twin", name := "makeStep", desc := "(J)Z" } : Jvm.MethodName)) ∈ lw_g := lw_g_mem (List.mem_of_getElem? (i := 505) (by decide +kernel)) (by decide +kernel)
theorem wd_506 : (Jvm.Cond.code ({ cls := "OneBitLoop$Twin", name := "makeStep", desc := "(J)Z" } : Jvm.MethodName) prog_8_method_4_code (12 : Nat) (Option.some Jvm.ClassFile.FieldType.boolean)) ∈ lw_g := lw_g_mem (List.mem_of_getElem? (i := 506) (by decide +kernel)) (by decide +kernel)
theorem wd_507 : (Jvm.Cond.methodLink "OneBitLoop$Twin" (51 : Nat) ({ cls := "OneBitLoop$Twin", name := "drawLot", desc := "()J" } : Jvm.MethodName)) ∈ lw_g := lw_g_mem (List.mem_of_getElem? (i := 507) (by decide +kernel)) (by decide +kernel)
theorem wd_509 : (Jvm.Cond.instanceMethod ({ cls := "OneBitLoop$Twin", name := "drawLot", desc := "()J" } : Jvm.MethodName)) ∈ lw_g := lw_g_mem (List.mem_of_getElem? (i := 509) (by decide +kernel)) (by decide +kernel)
theorem wd_510 : (Jvm.Cond.code ({ cls := "OneBitLoop$Twin", name := "drawLot", desc := "()J" } : Jvm.MethodName) prog_8_method_5_code (1 : Nat) (Option.some Jvm.ClassFile.FieldType.long)) ∈ lw_g := lw_g_mem (List.mem_of_getElem? (i := 510) (by decide +kernel)) (by decide +kernel)
theorem wd_511 : (Jvm.Cond.constantLong "OneBitLoop$Twin" (76 : Nat) (6364136223846793005 : Int64)) ∈ lw_g := lw_g_mem (List.mem_of_getElem? (i := 511) (by decide +kernel)) (by decide +kernel)
theorem wd_512 : (Jvm.Cond.constantLong "OneBitLoop$Twin" (78 : Nat) (1442695040888963407 : Int64)) ∈ lw_g := lw_g_mem (List.mem_of_getElem? (i := 512) (by decide +kernel)) (by decide +kernel)
theorem wd_513 : (Jvm.Cond.constantLong "OneBitLoop$Twin" (80 : Nat) (2 : Int64)) ∈ lw_g := lw_g_mem (List.mem_of_getElem? (i := 513) (by decide +kernel)) (by decide +kernel)
theorem wd_514 : (Jvm.Cond.methodLink "OneBitLoop$Twin" (58 : Nat) ({ cls := "OneBitLoop$Shape", name := "nearestTo", desc := "(J)I" } : Jvm.MethodName)) ∈ lw_g := lw_g_mem (List.mem_of_getElem? (i := 514) (by decide +kernel)) (by decide +kernel)
theorem wd_515 : (Jvm.Cond.instanceMethod ({ cls := "OneBitLoop$Shape", name := "nearestTo", desc := "(J)I" } : Jvm.MethodName)) ∈ lw_g := lw_g_mem (List.mem_of_getElem? (i := 515) (by decide +kernel)) (by decide +kernel)
theorem wd_516 : (Jvm.Cond.selects "OneBitLoop$Shape" ({ cls := "OneBitLoop$Shape", name := "nearestTo", desc := "(J)I" } : Jvm.MethodName) ({ cls := "OneBitLoop$Shape", name := "nearestTo", desc := "(J)I" } : Jvm.MethodName)) ∈ lw_g := lw_g_mem (List.mem_of_getElem? (i := 516) (by decide +kernel)) (by decide +kernel)
theorem wd_517 : (Jvm.Cond.code ({ cls := "OneBitLoop$Shape", name := "nearestTo", desc := "(J)I" } : Jvm.MethodName) prog_7_method_7_code (4 : Nat) (Option.some Jvm.ClassFile.FieldType.int)) ∈ lw_g := lw_g_mem (List.mem_of_getElem? (i := 517) (by decide +kernel)) (by decide +kernel)
theorem wd_518 : (Jvm.Cond.methodLink "OneBitLoop$Shape" (41 : Nat) ({ cls := "java/lang/Math", name := "abs", desc := "(J)J" } : Jvm.MethodName)) ∈ lw_g := lw_g_mem (List.mem_of_getElem? (i := 518) (by decide +kernel)) (by decide +kernel)
theorem wd_519 : (Jvm.Cond.static ({ cls := "java/lang/Math", name := "abs", desc := "(J)J" } : Jvm.MethodName)) ∈ lw_g := lw_g_mem (List.mem_of_getElem? (i := 519) (by decide +kernel)) (by decide +kernel)
theorem wd_521 : (Jvm.Cond.methodLink "OneBitLoop$Twin" (65 : Nat) ({ cls := "OneBitLoop$Twin", name := "takeStage", desc := "(IJJJ)V" } : Jvm.MethodName)) ∈ lw_g := lw_g_mem (List.mem_of_getElem? (i := 521) (by decide +kernel)) (by decide +kernel)
theorem wd_523 : (Jvm.Cond.instanceMethod ({ cls := "OneBitLoop$Twin", name := "takeStage", desc := "(IJJJ)V" } : Jvm.MethodName)) ∈ lw_g := lw_g_mem (List.mem_of_getElem? (i := 523) (by decide +kernel)) (by decide +kernel)
theorem wd_524 : (Jvm.Cond.code ({ cls := "OneBitLoop$Twin", name := "takeStage", desc := "(IJJJ)V" } : Jvm.MethodName) prog_8_method_6_code (13 : Nat) (Option.none : Option Jvm.ClassFile.FieldType)) ∈ lw_g := lw_g_mem (List.mem_of_getElem? (i := 524) (by decide +kernel)) (by decide +kernel)
theorem wd_525 : (Jvm.Cond.methodLink "OneBitLoop$Twin" (85 : Nat) ({ cls := "OneBitLoop$Twin", name := "mark", desc := "(I)V" } : Jvm.MethodName)) ∈ lw_g := lw_g_mem (List.mem_of_getElem? (i := 525) (by decide +kernel)) (by decide +kernel)
theorem wd_527 : (Jvm.Cond.instanceMethod ({ cls := "OneBitLoop$Twin", name := "mark", desc := "(I)V" } : Jvm.MethodName)) ∈ lw_g := lw_g_mem (List.mem_of_getElem? (i := 527) (by decide +kernel)) (by decide +kernel)
theorem wd_528 : (Jvm.Cond.code ({ cls := "OneBitLoop$Twin", name := "mark", desc := "(I)V" } : Jvm.MethodName) prog_8_method_11_code (2 : Nat) (Option.none : Option Jvm.ClassFile.FieldType)) ∈ lw_g := lw_g_mem (List.mem_of_getElem? (i := 528) (by decide +kernel)) (by decide +kernel)
theorem wd_529 : (Jvm.Cond.methodLink "OneBitLoop$Twin" (89 : Nat) ({ cls := "OneBitLoop$Twin", name := "turnedBy", desc := "(II)J" } : Jvm.MethodName)) ∈ lw_g := lw_g_mem (List.mem_of_getElem? (i := 529) (by decide +kernel)) (by decide +kernel)
theorem wd_531 : (Jvm.Cond.instanceMethod ({ cls := "OneBitLoop$Twin", name := "turnedBy", desc := "(II)J" } : Jvm.MethodName)) ∈ lw_g := lw_g_mem (List.mem_of_getElem? (i := 531) (by decide +kernel)) (by decide +kernel)
theorem wd_532 : (Jvm.Cond.code ({ cls := "OneBitLoop$Twin", name := "turnedBy", desc := "(II)J" } : Jvm.MethodName) prog_8_method_10_code (3 : Nat) (Option.some Jvm.ClassFile.FieldType.long)) ∈ lw_g := lw_g_mem (List.mem_of_getElem? (i := 532) (by decide +kernel)) (by decide +kernel)
theorem wd_533 : (Jvm.Cond.constantLong "OneBitLoop$Twin" (109 : Nat) (256 : Int64)) ∈ lw_g := lw_g_mem (List.mem_of_getElem? (i := 533) (by decide +kernel)) (by decide +kernel)
theorem wd_534 : (Jvm.Cond.methodLink "OneBitLoop$Twin" (96 : Nat) ({ cls := "OneBitLoop$Twin", name := "leak", desc := "(I)V" } : Jvm.MethodName)) ∈ lw_g := lw_g_mem (List.mem_of_getElem? (i := 534) (by decide +kernel)) (by decide +kernel)
theorem wd_536 : (Jvm.Cond.instanceMethod ({ cls := "OneBitLoop$Twin", name := "leak", desc := "(I)V" } : Jvm.MethodName)) ∈ lw_g := lw_g_mem (List.mem_of_getElem? (i := 536) (by decide +kernel)) (by decide +kernel)
theorem wd_537 : (Jvm.Cond.code ({ cls := "OneBitLoop$Twin", name := "leak", desc := "(I)V" } : Jvm.MethodName) prog_8_method_8_code (5 : Nat) (Option.none : Option Jvm.ClassFile.FieldType)) ∈ lw_g := lw_g_mem (List.mem_of_getElem? (i := 537) (by decide +kernel)) (by decide +kernel)
theorem wd_538 : (Jvm.Cond.methodLink "OneBitLoop$Twin" (99 : Nat) ({ cls := "OneBitLoop$Twin", name := "addUp", desc := "(IJJ)V" } : Jvm.MethodName)) ∈ lw_g := lw_g_mem (List.mem_of_getElem? (i := 538) (by decide +kernel)) (by decide +kernel)
theorem wd_540 : (Jvm.Cond.instanceMethod ({ cls := "OneBitLoop$Twin", name := "addUp", desc := "(IJJ)V" } : Jvm.MethodName)) ∈ lw_g := lw_g_mem (List.mem_of_getElem? (i := 540) (by decide +kernel)) (by decide +kernel)
theorem wd_541 : (Jvm.Cond.code ({ cls := "OneBitLoop$Twin", name := "addUp", desc := "(IJJ)V" } : Jvm.MethodName) prog_8_method_7_code (7 : Nat) (Option.none : Option Jvm.ClassFile.FieldType)) ∈ lw_g := lw_g_mem (List.mem_of_getElem? (i := 541) (by decide +kernel)) (by decide +kernel)
theorem wd_542 : (Jvm.Cond.methodLink "OneBitLoop$Twin" (103 : Nat) ({ cls := "OneBitLoop$Twin", name := "cutToBound", desc := "(I)V" } : Jvm.MethodName)) ∈ lw_g := lw_g_mem (List.mem_of_getElem? (i := 542) (by decide +kernel)) (by decide +kernel)
theorem wd_544 : (Jvm.Cond.instanceMethod ({ cls := "OneBitLoop$Twin", name := "cutToBound", desc := "(I)V" } : Jvm.MethodName)) ∈ lw_g := lw_g_mem (List.mem_of_getElem? (i := 544) (by decide +kernel)) (by decide +kernel)
theorem wd_545 : (Jvm.Cond.code ({ cls := "OneBitLoop$Twin", name := "cutToBound", desc := "(I)V" } : Jvm.MethodName) prog_8_method_9_code (9 : Nat) (Option.none : Option Jvm.ClassFile.FieldType)) ∈ lw_g := lw_g_mem (List.mem_of_getElem? (i := 545) (by decide +kernel)) (by decide +kernel)
theorem wd_546 : (Jvm.Cond.methodLink "OneBitLoop$Twin" (111 : Nat) ({ cls := "java/lang/Math", name := "min", desc := "(JJ)J" } : Jvm.MethodName)) ∈ lw_g := lw_g_mem (List.mem_of_getElem? (i := 546) (by decide +kernel)) (by decide +kernel)
theorem wd_547 : (Jvm.Cond.methodLink "OneBitLoop$Twin" (117 : Nat) ({ cls := "java/lang/Math", name := "max", desc := "(JJ)J" } : Jvm.MethodName)) ∈ lw_g := lw_g_mem (List.mem_of_getElem? (i := 547) (by decide +kernel)) (by decide +kernel)
theorem wd_548 : (Jvm.Cond.methodLink "OneBitLoop$Twin" (69 : Nat) ({ cls := "OneBitLoop$Twin", name := "isGreat", desc := "(J)Z" } : Jvm.MethodName)) ∈ lw_g := lw_g_mem (List.mem_of_getElem? (i := 548) (by decide +kernel)) (by decide +kernel)
theorem wd_549 : (Jvm.Cond.static ({ cls := "OneBitLoop$Twin", name := "isGreat", desc := "(J)Z" } : Jvm.MethodName)) ∈ lw_g := lw_g_mem (List.mem_of_getElem? (i := 549) (by decide +kernel)) (by decide +kernel)
theorem wd_550 : (Jvm.Cond.code ({ cls := "OneBitLoop$Twin", name := "isGreat", desc := "(J)Z" } : Jvm.MethodName) prog_8_method_12_code (2 : Nat) (Option.some Jvm.ClassFile.FieldType.boolean)) ∈ lw_g := lw_g_mem (List.mem_of_getElem? (i := 550) (by decide +kernel)) (by decide +kernel)
theorem wd_551 : (Jvm.Cond.constantLong "OneBitLoop$Twin" (120 : Nat) (1125899906842624 : Int64)) ∈ lw_g := lw_g_mem (List.mem_of_getElem? (i := 551) (by decide +kernel)) (by decide +kernel)
theorem wd_552 : (Jvm.Cond.constantLong "OneBitLoop$Twin" (122 : Nat) (-1125899906842624 : Int64)) ∈ lw_g := lw_g_mem (List.mem_of_getElem? (i := 552) (by decide +kernel)) (by decide +kernel)
theorem wd_553 : (Jvm.Cond.methodLink "OneBitLoop" (285 : Nat) ({ cls := "OneBitLoop$Log", name := "write", desc := "(JLOneBitLoop$Twin;)V" } : Jvm.MethodName)) ∈ lw_g := lw_g_mem (List.mem_of_getElem? (i := 553) (by decide +kernel)) (by decide +kernel)
theorem wd_554 : (Jvm.Cond.instanceMethod ({ cls := "OneBitLoop$Log", name := "write", desc := "(JLOneBitLoop$Twin;)V" } : Jvm.MethodName)) ∈ lw_g := lw_g_mem (List.mem_of_getElem? (i := 554) (by decide +kernel)) (by decide +kernel)
theorem wd_555 : (Jvm.Cond.selects "OneBitLoop$Log" ({ cls := "OneBitLoop$Log", name := "write", desc := "(JLOneBitLoop$Twin;)V" } : Jvm.MethodName) ({ cls := "OneBitLoop$Log", name := "write", desc := "(JLOneBitLoop$Twin;)V" } : Jvm.MethodName)) ∈ lw_g := lw_g_mem (List.mem_of_getElem? (i := 555) (by decide +kernel)) (by decide +kernel)
theorem wd_556 : (Jvm.Cond.code ({ cls := "OneBitLoop$Log", name := "write", desc := "(JLOneBitLoop$Twin;)V" } : Jvm.MethodName) prog_3_method_5_code (6 : Nat) (Option.none : Option Jvm.ClassFile.FieldType)) ∈ lw_g := lw_g_mem (List.mem_of_getElem? (i := 556) (by decide +kernel)) (by decide +kernel)
theorem wd_558 : (Jvm.Cond.instanceMethod ({ cls := "OneBitLoop", name := "run", desc := "(III)I" } : Jvm.MethodName)) ∈ lw_g := lw_g_mem (List.mem_of_getElem? (i := 558) (by decide +kernel)) (by decide +kernel)
theorem wd_559 : (Jvm.Cond.selects "OneBitLoop" ({ cls := "OneBitLoop", name := "run", desc := "(III)I" } : Jvm.MethodName) ({ cls := "OneBitLoop", name := "run", desc := "(III)I" } : Jvm.MethodName)) ∈ lw_g := lw_g_mem (List.mem_of_getElem? (i := 559) (by decide +kernel)) (by decide +kernel)
theorem wd_560 : (Jvm.Cond.code ({ cls := "OneBitLoop", name := "run", desc := "(III)I" } : Jvm.MethodName) prog_1_method_13_code (8 : Nat) (Option.some Jvm.ClassFile.FieldType.int)) ∈ lw_g := lw_g_mem (List.mem_of_getElem? (i := 560) (by decide +kernel)) (by decide +kernel)
theorem wd_562 : (Jvm.Cond.instanceMethod ({ cls := "OneBitLoop", name := "undo", desc := "(I)I" } : Jvm.MethodName)) ∈ lw_g := lw_g_mem (List.mem_of_getElem? (i := 562) (by decide +kernel)) (by decide +kernel)
theorem wd_563 : (Jvm.Cond.selects "OneBitLoop" ({ cls := "OneBitLoop", name := "undo", desc := "(I)I" } : Jvm.MethodName) ({ cls := "OneBitLoop", name := "undo", desc := "(I)I" } : Jvm.MethodName)) ∈ lw_g := lw_g_mem (List.mem_of_getElem? (i := 563) (by decide +kernel)) (by decide +kernel)
theorem wd_564 : (Jvm.Cond.code ({ cls := "OneBitLoop", name := "undo", desc := "(I)I" } : Jvm.MethodName) prog_1_method_14_code (3 : Nat) (Option.some Jvm.ClassFile.FieldType.int)) ∈ lw_g := lw_g_mem (List.mem_of_getElem? (i := 564) (by decide +kernel)) (by decide +kernel)
theorem wd_565 : (Jvm.Cond.methodLink "OneBitLoop" (183 : Nat) ({ cls := "OneBitLoop$Twin", name := "beginAgain", desc := "()V" } : Jvm.MethodName)) ∈ lw_g := lw_g_mem (List.mem_of_getElem? (i := 565) (by decide +kernel)) (by decide +kernel)
theorem wd_566 : (Jvm.Cond.instanceMethod ({ cls := "OneBitLoop$Twin", name := "beginAgain", desc := "()V" } : Jvm.MethodName)) ∈ lw_g := lw_g_mem (List.mem_of_getElem? (i := 566) (by decide +kernel)) (by decide +kernel)
theorem wd_567 : (Jvm.Cond.selects "OneBitLoop$Twin" ({ cls := "OneBitLoop$Twin", name := "beginAgain", desc := "()V" } : Jvm.MethodName) ({ cls := "OneBitLoop$Twin", name := "beginAgain", desc := "()V" } : Jvm.MethodName)) ∈ lw_g := lw_g_mem (List.mem_of_getElem? (i := 567) (by decide +kernel)) (by decide +kernel)
theorem wd_568 : (Jvm.Cond.code ({ cls := "OneBitLoop$Twin", name := "beginAgain", desc := "()V" } : Jvm.MethodName) prog_8_method_2_code (1 : Nat) (Option.none : Option Jvm.ClassFile.FieldType)) ∈ lw_g := lw_g_mem (List.mem_of_getElem? (i := 568) (by decide +kernel)) (by decide +kernel)
theorem wd_569 : (Jvm.Cond.methodLink "OneBitLoop$Twin" (34 : Nat) ({ cls := "java/util/Arrays", name := "fill", desc := "([JJ)V" } : Jvm.MethodName)) ∈ lw_g := lw_g_mem (List.mem_of_getElem? (i := 569) (by decide +kernel)) (by decide +kernel)
theorem wd_571 : (Jvm.Cond.instanceMethod ({ cls := "OneBitLoop", name := "clear", desc := "()I" } : Jvm.MethodName)) ∈ lw_g := lw_g_mem (List.mem_of_getElem? (i := 571) (by decide +kernel)) (by decide +kernel)
theorem wd_572 : (Jvm.Cond.selects "OneBitLoop" ({ cls := "OneBitLoop", name := "clear", desc := "()I" } : Jvm.MethodName) ({ cls := "OneBitLoop", name := "clear", desc := "()I" } : Jvm.MethodName)) ∈ lw_g := lw_g_mem (List.mem_of_getElem? (i := 572) (by decide +kernel)) (by decide +kernel)
theorem wd_573 : (Jvm.Cond.code ({ cls := "OneBitLoop", name := "clear", desc := "()I" } : Jvm.MethodName) prog_1_method_15_code (2 : Nat) (Option.some Jvm.ClassFile.FieldType.int)) ∈ lw_g := lw_g_mem (List.mem_of_getElem? (i := 573) (by decide +kernel)) (by decide +kernel)
theorem wd_575 : (Jvm.Cond.instanceMethod ({ cls := "OneBitLoop", name := "stageAt", desc := "(II)J" } : Jvm.MethodName)) ∈ lw_g := lw_g_mem (List.mem_of_getElem? (i := 575) (by decide +kernel)) (by decide +kernel)
theorem wd_576 : (Jvm.Cond.selects "OneBitLoop" ({ cls := "OneBitLoop", name := "stageAt", desc := "(II)J" } : Jvm.MethodName) ({ cls := "OneBitLoop", name := "stageAt", desc := "(II)J" } : Jvm.MethodName)) ∈ lw_g := lw_g_mem (List.mem_of_getElem? (i := 576) (by decide +kernel)) (by decide +kernel)
theorem wd_577 : (Jvm.Cond.code ({ cls := "OneBitLoop", name := "stageAt", desc := "(II)J" } : Jvm.MethodName) prog_1_method_16_code (3 : Nat) (Option.some Jvm.ClassFile.FieldType.long)) ∈ lw_g := lw_g_mem (List.mem_of_getElem? (i := 577) (by decide +kernel)) (by decide +kernel)
theorem wd_578 : (Jvm.Cond.methodLink "OneBitLoop" (196 : Nat) ({ cls := "OneBitLoop$Shape", name := "hasStage", desc := "(I)Z" } : Jvm.MethodName)) ∈ lw_g := lw_g_mem (List.mem_of_getElem? (i := 578) (by decide +kernel)) (by decide +kernel)
theorem wd_579 : (Jvm.Cond.instanceMethod ({ cls := "OneBitLoop$Shape", name := "hasStage", desc := "(I)Z" } : Jvm.MethodName)) ∈ lw_g := lw_g_mem (List.mem_of_getElem? (i := 579) (by decide +kernel)) (by decide +kernel)
theorem wd_580 : (Jvm.Cond.selects "OneBitLoop$Shape" ({ cls := "OneBitLoop$Shape", name := "hasStage", desc := "(I)Z" } : Jvm.MethodName) ({ cls := "OneBitLoop$Shape", name := "hasStage", desc := "(I)Z" } : Jvm.MethodName)) ∈ lw_g := lw_g_mem (List.mem_of_getElem? (i := 580) (by decide +kernel)) (by decide +kernel)
theorem wd_581 : (Jvm.Cond.code ({ cls := "OneBitLoop$Shape", name := "hasStage", desc := "(I)Z" } : Jvm.MethodName) prog_7_method_4_code (2 : Nat) (Option.some Jvm.ClassFile.FieldType.boolean)) ∈ lw_g := lw_g_mem (List.mem_of_getElem? (i := 581) (by decide +kernel)) (by decide +kernel)
theorem wd_582 : (Jvm.Cond.constantLong "OneBitLoop" (199 : Nat) (-9223372036854775808 : Int64)) ∈ lw_g := lw_g_mem (List.mem_of_getElem? (i := 582) (by decide +kernel)) (by decide +kernel)
theorem wd_584 : (Jvm.Cond.instanceMethod ({ cls := "OneBitLoop", name := "levelAt", desc := "(I)J" } : Jvm.MethodName)) ∈ lw_g := lw_g_mem (List.mem_of_getElem? (i := 584) (by decide +kernel)) (by decide +kernel)
theorem wd_585 : (Jvm.Cond.selects "OneBitLoop" ({ cls := "OneBitLoop", name := "levelAt", desc := "(I)J" } : Jvm.MethodName) ({ cls := "OneBitLoop", name := "levelAt", desc := "(I)J" } : Jvm.MethodName)) ∈ lw_g := lw_g_mem (List.mem_of_getElem? (i := 585) (by decide +kernel)) (by decide +kernel)
theorem wd_586 : (Jvm.Cond.code ({ cls := "OneBitLoop", name := "levelAt", desc := "(I)J" } : Jvm.MethodName) prog_1_method_17_code (2 : Nat) (Option.some Jvm.ClassFile.FieldType.long)) ∈ lw_g := lw_g_mem (List.mem_of_getElem? (i := 586) (by decide +kernel)) (by decide +kernel)
theorem wd_588 : (Jvm.Cond.instanceMethod ({ cls := "OneBitLoop", name := "record", desc := "(II)J" } : Jvm.MethodName)) ∈ lw_g := lw_g_mem (List.mem_of_getElem? (i := 588) (by decide +kernel)) (by decide +kernel)
theorem wd_589 : (Jvm.Cond.selects "OneBitLoop" ({ cls := "OneBitLoop", name := "record", desc := "(II)J" } : Jvm.MethodName) ({ cls := "OneBitLoop", name := "record", desc := "(II)J" } : Jvm.MethodName)) ∈ lw_g := lw_g_mem (List.mem_of_getElem? (i := 589) (by decide +kernel)) (by decide +kernel)
theorem wd_590 : (Jvm.Cond.code ({ cls := "OneBitLoop", name := "record", desc := "(II)J" } : Jvm.MethodName) prog_1_method_18_code (3 : Nat) (Option.some Jvm.ClassFile.FieldType.long)) ∈ lw_g := lw_g_mem (List.mem_of_getElem? (i := 590) (by decide +kernel)) (by decide +kernel)
theorem wd_591 : (Jvm.Cond.methodLink "OneBitLoop" (207 : Nat) ({ cls := "OneBitLoop", name := "isRecorded", desc := "(II)Z" } : Jvm.MethodName)) ∈ lw_g := lw_g_mem (List.mem_of_getElem? (i := 591) (by decide +kernel)) (by decide +kernel)
theorem wd_593 : (Jvm.Cond.instanceMethod ({ cls := "OneBitLoop", name := "isRecorded", desc := "(II)Z" } : Jvm.MethodName)) ∈ lw_g := lw_g_mem (List.mem_of_getElem? (i := 593) (by decide +kernel)) (by decide +kernel)
theorem wd_594 : (Jvm.Cond.code ({ cls := "OneBitLoop", name := "isRecorded", desc := "(II)Z" } : Jvm.MethodName) prog_1_method_37_code (3 : Nat) (Option.some Jvm.ClassFile.FieldType.boolean)) ∈ lw_g := lw_g_mem (List.mem_of_getElem? (i := 594) (by decide +kernel)) (by decide +kernel)
theorem wd_595 : (Jvm.Cond.methodLink "OneBitLoop" (215 : Nat) ({ cls := "OneBitLoop$Log", name := "hasStep", desc := "(I)Z" } : Jvm.MethodName)) ∈ lw_g := lw_g_mem (List.mem_of_getElem? (i := 595) (by decide +kernel)) (by decide +kernel)
theorem wd_596 : (Jvm.Cond.instanceMethod ({ cls := "OneBitLoop$Log", name := "hasStep", desc := "(I)Z" } : Jvm.MethodName)) ∈ lw_g := lw_g_mem (List.mem_of_getElem? (i := 596) (by decide +kernel)) (by decide +kernel)
theorem wd_597 : (Jvm.Cond.selects "OneBitLoop$Log" ({ cls := "OneBitLoop$Log", name := "hasStep", desc := "(I)Z" } : Jvm.MethodName) ({ cls := "OneBitLoop$Log", name := "hasStep", desc := "(I)Z" } : Jvm.MethodName)) ∈ lw_g := lw_g_mem (List.mem_of_getElem? (i := 597) (by decide +kernel)) (by decide +kernel)
theorem wd_598 : (Jvm.Cond.code ({ cls := "OneBitLoop$Log", name := "hasStep", desc := "(I)Z" } : Jvm.MethodName) prog_3_method_2_code (2 : Nat) (Option.some Jvm.ClassFile.FieldType.boolean)) ∈ lw_g := lw_g_mem (List.mem_of_getElem? (i := 598) (by decide +kernel)) (by decide +kernel)
theorem wd_600 : (Jvm.Cond.instanceMethod ({ cls := "OneBitLoop", name := "forge", desc := "(IIJ)I" } : Jvm.MethodName)) ∈ lw_g := lw_g_mem (List.mem_of_getElem? (i := 600) (by decide +kernel)) (by decide +kernel)
theorem wd_601 : (Jvm.Cond.selects "OneBitLoop" ({ cls := "OneBitLoop", name := "forge", desc := "(IIJ)I" } : Jvm.MethodName) ({ cls := "OneBitLoop", name := "forge", desc := "(IIJ)I" } : Jvm.MethodName)) ∈ lw_g := lw_g_mem (List.mem_of_getElem? (i := 601) (by decide +kernel)) (by decide +kernel)
theorem wd_602 : (Jvm.Cond.code ({ cls := "OneBitLoop", name := "forge", desc := "(IIJ)I" } : Jvm.MethodName) prog_1_method_19_code (5 : Nat) (Option.some Jvm.ClassFile.FieldType.int)) ∈ lw_g := lw_g_mem (List.mem_of_getElem? (i := 602) (by decide +kernel)) (by decide +kernel)
theorem wd_604 : (Jvm.Cond.instanceMethod ({ cls := "OneBitLoop", name := "check", desc := "()I" } : Jvm.MethodName)) ∈ lw_g := lw_g_mem (List.mem_of_getElem? (i := 604) (by decide +kernel)) (by decide +kernel)
theorem wd_605 : (Jvm.Cond.selects "OneBitLoop" ({ cls := "OneBitLoop", name := "check", desc := "()I" } : Jvm.MethodName) ({ cls := "OneBitLoop", name := "check", desc := "()I" } : Jvm.MethodName)) ∈ lw_g := lw_g_mem (List.mem_of_getElem? (i := 605) (by decide +kernel)) (by decide +kernel)
theorem wd_606 : (Jvm.Cond.code ({ cls := "OneBitLoop", name := "check", desc := "()I" } : Jvm.MethodName) prog_1_method_20_code (2 : Nat) (Option.some Jvm.ClassFile.FieldType.int)) ∈ lw_g := lw_g_mem (List.mem_of_getElem? (i := 606) (by decide +kernel)) (by decide +kernel)
theorem wd_607 : (Jvm.Cond.methodLink "OneBitLoop" (211 : Nat) ({ cls := "OneBitLoop$Log", name := "agrees", desc := "(ILOneBitLoop$Twin;)Z" } : Jvm.MethodName)) ∈ lw_g := lw_g_mem (List.mem_of_getElem? (i := 607) (by decide +kernel)) (by decide +kernel)
theorem wd_608 : (Jvm.Cond.instanceMethod ({ cls := "OneBitLoop$Log", name := "agrees", desc := "(ILOneBitLoop$Twin;)Z" } : Jvm.MethodName)) ∈ lw_g := lw_g_mem (List.mem_of_getElem? (i := 608) (by decide +kernel)) (by decide +kernel)
theorem wd_609 : (Jvm.Cond.selects "OneBitLoop$Log" ({ cls := "OneBitLoop$Log", name := "agrees", desc := "(ILOneBitLoop$Twin;)Z" } : Jvm.MethodName) ({ cls := "OneBitLoop$Log", name := "agrees", desc := "(ILOneBitLoop$Twin;)Z" } : Jvm.MethodName)) ∈ lw_g := lw_g_mem (List.mem_of_getElem? (i := 609) (by decide +kernel)) (by decide +kernel)
theorem wd_610 : (Jvm.Cond.code ({ cls := "OneBitLoop$Log", name := "agrees", desc := "(ILOneBitLoop$Twin;)Z" } : Jvm.MethodName) prog_3_method_6_code (4 : Nat) (Option.some Jvm.ClassFile.FieldType.boolean)) ∈ lw_g := lw_g_mem (List.mem_of_getElem? (i := 610) (by decide +kernel)) (by decide +kernel)
theorem wd_611 : (Jvm.Cond.methodLink "OneBitLoop$Log" (40 : Nat) ({ cls := "OneBitLoop$Log", name := "levelOf", desc := "(I)J" } : Jvm.MethodName)) ∈ lw_g := lw_g_mem (List.mem_of_getElem? (i := 611) (by decide +kernel)) (by decide +kernel)
theorem wd_612 : (Jvm.Cond.instanceMethod ({ cls := "OneBitLoop$Log", name := "levelOf", desc := "(I)J" } : Jvm.MethodName)) ∈ lw_g := lw_g_mem (List.mem_of_getElem? (i := 612) (by decide +kernel)) (by decide +kernel)
theorem wd_613 : (Jvm.Cond.selects "OneBitLoop$Log" ({ cls := "OneBitLoop$Log", name := "levelOf", desc := "(I)J" } : Jvm.MethodName) ({ cls := "OneBitLoop$Log", name := "levelOf", desc := "(I)J" } : Jvm.MethodName)) ∈ lw_g := lw_g_mem (List.mem_of_getElem? (i := 613) (by decide +kernel)) (by decide +kernel)
theorem wd_614 : (Jvm.Cond.code ({ cls := "OneBitLoop$Log", name := "levelOf", desc := "(I)J" } : Jvm.MethodName) prog_3_method_3_code (2 : Nat) (Option.some Jvm.ClassFile.FieldType.long)) ∈ lw_g := lw_g_mem (List.mem_of_getElem? (i := 614) (by decide +kernel)) (by decide +kernel)
theorem wd_616 : (Jvm.Cond.instanceMethod ({ cls := "OneBitLoop", name := "read", desc := "(I)J" } : Jvm.MethodName)) ∈ lw_g := lw_g_mem (List.mem_of_getElem? (i := 616) (by decide +kernel)) (by decide +kernel)
theorem wd_617 : (Jvm.Cond.selects "OneBitLoop" ({ cls := "OneBitLoop", name := "read", desc := "(I)J" } : Jvm.MethodName) ({ cls := "OneBitLoop", name := "read", desc := "(I)J" } : Jvm.MethodName)) ∈ lw_g := lw_g_mem (List.mem_of_getElem? (i := 617) (by decide +kernel)) (by decide +kernel)
theorem wd_618 : (Jvm.Cond.code ({ cls := "OneBitLoop", name := "read", desc := "(I)J" } : Jvm.MethodName) prog_1_method_21_code (5 : Nat) (Option.some Jvm.ClassFile.FieldType.long)) ∈ lw_g := lw_g_mem (List.mem_of_getElem? (i := 618) (by decide +kernel)) (by decide +kernel)
theorem wd_619 : (Jvm.Cond.methodLink "OneBitLoop" (218 : Nat) ({ cls := "OneBitLoop$Log", name := "levelOf", desc := "(I)J" } : Jvm.MethodName)) ∈ lw_g := lw_g_mem (List.mem_of_getElem? (i := 619) (by decide +kernel)) (by decide +kernel)
theorem wd_621 : (Jvm.Cond.instanceMethod ({ cls := "OneBitLoop", name := "weight", desc := "(II)I" } : Jvm.MethodName)) ∈ lw_g := lw_g_mem (List.mem_of_getElem? (i := 621) (by decide +kernel)) (by decide +kernel)
theorem wd_622 : (Jvm.Cond.selects "OneBitLoop" ({ cls := "OneBitLoop", name := "weight", desc := "(II)I" } : Jvm.MethodName) ({ cls := "OneBitLoop", name := "weight", desc := "(II)I" } : Jvm.MethodName)) ∈ lw_g := lw_g_mem (List.mem_of_getElem? (i := 622) (by decide +kernel)) (by decide +kernel)
theorem wd_623 : (Jvm.Cond.code ({ cls := "OneBitLoop", name := "weight", desc := "(II)I" } : Jvm.MethodName) prog_1_method_22_code (4 : Nat) (Option.some Jvm.ClassFile.FieldType.int)) ∈ lw_g := lw_g_mem (List.mem_of_getElem? (i := 623) (by decide +kernel)) (by decide +kernel)
theorem wd_624 : (Jvm.Cond.constant "OneBitLoop" (222 : Nat) (-2147483648 : Int32)) ∈ lw_g := lw_g_mem (List.mem_of_getElem? (i := 624) (by decide +kernel)) (by decide +kernel)
theorem wd_626 : (Jvm.Cond.instanceMethod ({ cls := "OneBitLoop", name := "sums", desc := "(II)J" } : Jvm.MethodName)) ∈ lw_g := lw_g_mem (List.mem_of_getElem? (i := 626) (by decide +kernel)) (by decide +kernel)
theorem wd_627 : (Jvm.Cond.selects "OneBitLoop" ({ cls := "OneBitLoop", name := "sums", desc := "(II)J" } : Jvm.MethodName) ({ cls := "OneBitLoop", name := "sums", desc := "(II)J" } : Jvm.MethodName)) ∈ lw_g := lw_g_mem (List.mem_of_getElem? (i := 627) (by decide +kernel)) (by decide +kernel)
theorem wd_628 : (Jvm.Cond.code ({ cls := "OneBitLoop", name := "sums", desc := "(II)J" } : Jvm.MethodName) prog_1_method_23_code (3 : Nat) (Option.some Jvm.ClassFile.FieldType.long)) ∈ lw_g := lw_g_mem (List.mem_of_getElem? (i := 628) (by decide +kernel)) (by decide +kernel)
theorem wd_629 : (Jvm.Cond.methodLink "OneBitLoop" (223 : Nat) ({ cls := "OneBitLoop$Log", name := "runningSum", desc := "(II)J" } : Jvm.MethodName)) ∈ lw_g := lw_g_mem (List.mem_of_getElem? (i := 629) (by decide +kernel)) (by decide +kernel)
theorem wd_630 : (Jvm.Cond.instanceMethod ({ cls := "OneBitLoop$Log", name := "runningSum", desc := "(II)J" } : Jvm.MethodName)) ∈ lw_g := lw_g_mem (List.mem_of_getElem? (i := 630) (by decide +kernel)) (by decide +kernel)
theorem wd_631 : (Jvm.Cond.selects "OneBitLoop$Log" ({ cls := "OneBitLoop$Log", name := "runningSum", desc := "(II)J" } : Jvm.MethodName) ({ cls := "OneBitLoop$Log", name := "runningSum", desc := "(II)J" } : Jvm.MethodName)) ∈ lw_g := lw_g_mem (List.mem_of_getElem? (i := 631) (by decide +kernel)) (by decide +kernel)
theorem wd_632 : (Jvm.Cond.code ({ cls := "OneBitLoop$Log", name := "runningSum", desc := "(II)J" } : Jvm.MethodName) prog_3_method_7_code (12 : Nat) (Option.some Jvm.ClassFile.FieldType.long)) ∈ lw_g := lw_g_mem (List.mem_of_getElem? (i := 632) (by decide +kernel)) (by decide +kernel)
theorem wd_634 : (Jvm.Cond.instanceMethod ({ cls := "OneBitLoop", name := "trace", desc := "(I)I" } : Jvm.MethodName)) ∈ lw_g := lw_g_mem (List.mem_of_getElem? (i := 634) (by decide +kernel)) (by decide +kernel)
theorem wd_635 : (Jvm.Cond.selects "OneBitLoop" ({ cls := "OneBitLoop", name := "trace", desc := "(I)I" } : Jvm.MethodName) ({ cls := "OneBitLoop", name := "trace", desc := "(I)I" } : Jvm.MethodName)) ∈ lw_g := lw_g_mem (List.mem_of_getElem? (i := 635) (by decide +kernel)) (by decide +kernel)
theorem wd_636 : (Jvm.Cond.code ({ cls := "OneBitLoop", name := "trace", desc := "(I)I" } : Jvm.MethodName) prog_1_method_24_code (2 : Nat) (Option.some Jvm.ClassFile.FieldType.int)) ∈ lw_g := lw_g_mem (List.mem_of_getElem? (i := 636) (by decide +kernel)) (by decide +kernel)
theorem wd_638 : (Jvm.Cond.instanceMethod ({ cls := "OneBitLoop", name := "hold", desc := "(JI)I" } : Jvm.MethodName)) ∈ lw_g := lw_g_mem (List.mem_of_getElem? (i := 638) (by decide +kernel)) (by decide +kernel)
theorem wd_639 : (Jvm.Cond.selects "OneBitLoop" ({ cls := "OneBitLoop", name := "hold", desc := "(JI)I" } : Jvm.MethodName) ({ cls := "OneBitLoop", name := "hold", desc := "(JI)I" } : Jvm.MethodName)) ∈ lw_g := lw_g_mem (List.mem_of_getElem? (i := 639) (by decide +kernel)) (by decide +kernel)
theorem wd_640 : (Jvm.Cond.code ({ cls := "OneBitLoop", name := "hold", desc := "(JI)I" } : Jvm.MethodName) prog_1_method_25_code (4 : Nat) (Option.some Jvm.ClassFile.FieldType.int)) ∈ lw_g := lw_g_mem (List.mem_of_getElem? (i := 640) (by decide +kernel)) (by decide +kernel)
theorem wd_641 : (Jvm.Cond.methodLink "OneBitLoop" (233 : Nat) ({ cls := "OneBitLoop$Holding", name := "goRound", desc := "(LOneBitLoop$Twin;JI)I" } : Jvm.MethodName)) ∈ lw_g := lw_g_mem (List.mem_of_getElem? (i := 641) (by decide +kernel)) (by decide +kernel)
theorem wd_642 : (Jvm.Cond.instanceMethod ({ cls := "OneBitLoop$Holding", name := "goRound", desc := "(LOneBitLoop$Twin;JI)I" } : Jvm.MethodName)) ∈ lw_g := lw_g_mem (List.mem_of_getElem? (i := 642) (by decide +kernel)) (by decide +kernel)
theorem wd_643 : (Jvm.Cond.selects "OneBitLoop$Holding" ({ cls := "OneBitLoop$Holding", name := "goRound", desc := "(LOneBitLoop$Twin;JI)I" } : Jvm.MethodName) ({ cls := "OneBitLoop$Holding", name := "goRound", desc := "(LOneBitLoop$Twin;JI)I" } : Jvm.MethodName)) ∈ lw_g := lw_g_mem (List.mem_of_getElem? (i := 643) (by decide +kernel)) (by decide +kernel)
theorem wd_644 : (Jvm.Cond.code ({ cls := "OneBitLoop$Holding", name := "goRound", desc := "(LOneBitLoop$Twin;JI)I" } : Jvm.MethodName) prog_2_method_2_code (9 : Nat) (Option.some Jvm.ClassFile.FieldType.int)) ∈ lw_g := lw_g_mem (List.mem_of_getElem? (i := 644) (by decide +kernel)) (by decide +kernel)
theorem wd_645 : (Jvm.Cond.methodLink "OneBitLoop$Holding" (34 : Nat) ({ cls := "OneBitLoop$Seen", name := "empty", desc := "()V" } : Jvm.MethodName)) ∈ lw_g := lw_g_mem (List.mem_of_getElem? (i := 645) (by decide +kernel)) (by decide +kernel)
theorem wd_646 : (Jvm.Cond.instanceMethod ({ cls := "OneBitLoop$Seen", name := "empty", desc := "()V" } : Jvm.MethodName)) ∈ lw_g := lw_g_mem (List.mem_of_getElem? (i := 646) (by decide +kernel)) (by decide +kernel)
theorem wd_647 : (Jvm.Cond.selects "OneBitLoop$Seen" ({ cls := "OneBitLoop$Seen", name := "empty", desc := "()V" } : Jvm.MethodName) ({ cls := "OneBitLoop$Seen", name := "empty", desc := "()V" } : Jvm.MethodName)) ∈ lw_g := lw_g_mem (List.mem_of_getElem? (i := 647) (by decide +kernel)) (by decide +kernel)
theorem wd_648 : (Jvm.Cond.code ({ cls := "OneBitLoop$Seen", name := "empty", desc := "()V" } : Jvm.MethodName) prog_6_method_2_code (1 : Nat) (Option.none : Option Jvm.ClassFile.FieldType)) ∈ lw_g := lw_g_mem (List.mem_of_getElem? (i := 648) (by decide +kernel)) (by decide +kernel)
theorem wd_649 : (Jvm.Cond.methodLink "OneBitLoop$Seen" (32 : Nat) ({ cls := "java/util/Arrays", name := "fill", desc := "([II)V" } : Jvm.MethodName)) ∈ lw_g := lw_g_mem (List.mem_of_getElem? (i := 649) (by decide +kernel)) (by decide +kernel)
theorem wd_650 : (Jvm.Cond.static ({ cls := "java/util/Arrays", name := "fill", desc := "([II)V" } : Jvm.MethodName)) ∈ lw_g := lw_g_mem (List.mem_of_getElem? (i := 650) (by decide +kernel)) (by decide +kernel)
theorem wd_651 : (Jvm.Cond.code ({ cls := "java/util/Arrays", name := "fill", desc := "([II)V" } : Jvm.MethodName) prog_17_method_103_code (4 : Nat) (Option.none : Option Jvm.ClassFile.FieldType)) ∈ lw_g := lw_g_mem (List.mem_of_getElem? (i := 651) (by decide +kernel)) (by decide +kernel)
theorem wd_652 : (Jvm.Cond.methodLink "OneBitLoop$Holding" (39 : Nat) ({ cls := "OneBitLoop$Seen", name := "find", desc := "(LOneBitLoop$Twin;)I" } : Jvm.MethodName)) ∈ lw_g := lw_g_mem (List.mem_of_getElem? (i := 652) (by decide +kernel)) (by decide +kernel)
theorem wd_653 : (Jvm.Cond.instanceMethod ({ cls := "OneBitLoop$Seen", name := "find", desc := "(LOneBitLoop$Twin;)I" } : Jvm.MethodName)) ∈ lw_g := lw_g_mem (List.mem_of_getElem? (i := 653) (by decide +kernel)) (by decide +kernel)
theorem wd_654 : (Jvm.Cond.selects "OneBitLoop$Seen" ({ cls := "OneBitLoop$Seen", name := "find", desc := "(LOneBitLoop$Twin;)I" } : Jvm.MethodName) ({ cls := "OneBitLoop$Seen", name := "find", desc := "(LOneBitLoop$Twin;)I" } : Jvm.MethodName)) ∈ lw_g := lw_g_mem (List.mem_of_getElem? (i := 654) (by decide +kernel)) (by decide +kernel)
theorem wd_655 : (Jvm.Cond.code ({ cls := "OneBitLoop$Seen", name := "find", desc := "(LOneBitLoop$Twin;)I" } : Jvm.MethodName) prog_6_method_3_code (4 : Nat) (Option.some Jvm.ClassFile.FieldType.int)) ∈ lw_g := lw_g_mem (List.mem_of_getElem? (i := 655) (by decide +kernel)) (by decide +kernel)
theorem wd_656 : (Jvm.Cond.methodLink "OneBitLoop$Seen" (38 : Nat) ({ cls := "OneBitLoop$Seen", name := "ask", desc := "(LOneBitLoop$Twin;)V" } : Jvm.MethodName)) ∈ lw_g := lw_g_mem (List.mem_of_getElem? (i := 656) (by decide +kernel)) (by decide +kernel)
theorem wd_658 : (Jvm.Cond.instanceMethod ({ cls := "OneBitLoop$Seen", name := "ask", desc := "(LOneBitLoop$Twin;)V" } : Jvm.MethodName)) ∈ lw_g := lw_g_mem (List.mem_of_getElem? (i := 658) (by decide +kernel)) (by decide +kernel)
theorem wd_659 : (Jvm.Cond.code ({ cls := "OneBitLoop$Seen", name := "ask", desc := "(LOneBitLoop$Twin;)V" } : Jvm.MethodName) prog_6_method_6_code (4 : Nat) (Option.none : Option Jvm.ClassFile.FieldType)) ∈ lw_g := lw_g_mem (List.mem_of_getElem? (i := 659) (by decide +kernel)) (by decide +kernel)
theorem wd_660 : (Jvm.Cond.methodLink "OneBitLoop$Seen" (42 : Nat) ({ cls := "OneBitLoop$Seen", name := "hashOfAsked", desc := "()I" } : Jvm.MethodName)) ∈ lw_g := lw_g_mem (List.mem_of_getElem? (i := 660) (by decide +kernel)) (by decide +kernel)
theorem wd_662 : (Jvm.Cond.instanceMethod ({ cls := "OneBitLoop$Seen", name := "hashOfAsked", desc := "()I" } : Jvm.MethodName)) ∈ lw_g := lw_g_mem (List.mem_of_getElem? (i := 662) (by decide +kernel)) (by decide +kernel)
theorem wd_663 : (Jvm.Cond.code ({ cls := "OneBitLoop$Seen", name := "hashOfAsked", desc := "()I" } : Jvm.MethodName) prog_6_method_7_code (4 : Nat) (Option.some Jvm.ClassFile.FieldType.int)) ∈ lw_g := lw_g_mem (List.mem_of_getElem? (i := 663) (by decide +kernel)) (by decide +kernel)
theorem wd_664 : (Jvm.Cond.constantLong "OneBitLoop$Seen" (77 : Nat) (-7046029254386353131 : Int64)) ∈ lw_g := lw_g_mem (List.mem_of_getElem? (i := 664) (by decide +kernel)) (by decide +kernel)
theorem wd_665 : (Jvm.Cond.constantLong "OneBitLoop$Seen" (79 : Nat) (1023 : Int64)) ∈ lw_g := lw_g_mem (List.mem_of_getElem? (i := 665) (by decide +kernel)) (by decide +kernel)
theorem wd_666 : (Jvm.Cond.methodLink "OneBitLoop$Seen" (46 : Nat) ({ cls := "OneBitLoop$Seen", name := "isAsked", desc := "(I)Z" } : Jvm.MethodName)) ∈ lw_g := lw_g_mem (List.mem_of_getElem? (i := 666) (by decide +kernel)) (by decide +kernel)
theorem wd_668 : (Jvm.Cond.instanceMethod ({ cls := "OneBitLoop$Seen", name := "isAsked", desc := "(I)Z" } : Jvm.MethodName)) ∈ lw_g := lw_g_mem (List.mem_of_getElem? (i := 668) (by decide +kernel)) (by decide +kernel)
theorem wd_669 : (Jvm.Cond.code ({ cls := "OneBitLoop$Seen", name := "isAsked", desc := "(I)Z" } : Jvm.MethodName) prog_6_method_8_code (3 : Nat) (Option.some Jvm.ClassFile.FieldType.boolean)) ∈ lw_g := lw_g_mem (List.mem_of_getElem? (i := 669) (by decide +kernel)) (by decide +kernel)
theorem wd_670 : (Jvm.Cond.methodLink "OneBitLoop$Holding" (43 : Nat) ({ cls := "OneBitLoop$Seen", name := "addAsked", desc := "()V" } : Jvm.MethodName)) ∈ lw_g := lw_g_mem (List.mem_of_getElem? (i := 670) (by decide +kernel)) (by decide +kernel)
theorem wd_671 : (Jvm.Cond.instanceMethod ({ cls := "OneBitLoop$Seen", name := "addAsked", desc := "()V" } : Jvm.MethodName)) ∈ lw_g := lw_g_mem (List.mem_of_getElem? (i := 671) (by decide +kernel)) (by decide +kernel)
theorem wd_672 : (Jvm.Cond.selects "OneBitLoop$Seen" ({ cls := "OneBitLoop$Seen", name := "addAsked", desc := "()V" } : Jvm.MethodName) ({ cls := "OneBitLoop$Seen", name := "addAsked", desc := "()V" } : Jvm.MethodName)) ∈ lw_g := lw_g_mem (List.mem_of_getElem? (i := 672) (by decide +kernel)) (by decide +kernel)
theorem wd_673 : (Jvm.Cond.code ({ cls := "OneBitLoop$Seen", name := "addAsked", desc := "()V" } : Jvm.MethodName) prog_6_method_4_code (1 : Nat) (Option.none : Option Jvm.ClassFile.FieldType)) ∈ lw_g := lw_g_mem (List.mem_of_getElem? (i := 673) (by decide +kernel)) (by decide +kernel)
theorem wd_674 : (Jvm.Cond.methodLink "OneBitLoop$Seen" (50 : Nat) ({ cls := "java/lang/System", name := "arraycopy", desc := "(Ljava/lang/Object;ILjava/lang/Object;II)V" } : Jvm.MethodName)) ∈ lw_g := lw_g_mem (List.mem_of_getElem? (i := 674) (by decide +kernel)) (by decide +kernel)
theorem wd_675 : (Jvm.Cond.methodLink "OneBitLoop$Holding" (46 : Nat) ({ cls := "OneBitLoop$Twin", name := "makeStep", desc := "(J)Z" } : Jvm.MethodName)) ∈ lw_g := lw_g_mem (List.mem_of_getElem? (i := 675) (by decide +kernel)) (by decide +kernel)
theorem wd_677 : (Jvm.Cond.instanceMethod ({ cls := "OneBitLoop", name := "held", desc := "(I)J" } : Jvm.MethodName)) ∈ lw_g := lw_g_mem (List.mem_of_getElem? (i := 677) (by decide +kernel)) (by decide +kernel)
theorem wd_678 : (Jvm.Cond.selects "OneBitLoop" ({ cls := "OneBitLoop", name := "held", desc := "(I)J" } : Jvm.MethodName) ({ cls := "OneBitLoop", name := "held", desc := "(I)J" } : Jvm.MethodName)) ∈ lw_g := lw_g_mem (List.mem_of_getElem? (i := 678) (by decide +kernel)) (by decide +kernel)
theorem wd_679 : (Jvm.Cond.code ({ cls := "OneBitLoop", name := "held", desc := "(I)J" } : Jvm.MethodName) prog_1_method_26_code (2 : Nat) (Option.some Jvm.ClassFile.FieldType.long)) ∈ lw_g := lw_g_mem (List.mem_of_getElem? (i := 679) (by decide +kernel)) (by decide +kernel)
theorem wd_681 : (Jvm.Cond.instanceMethod ({ cls := "OneBitLoop", name := "reach", desc := "(JJJ)I" } : Jvm.MethodName)) ∈ lw_g := lw_g_mem (List.mem_of_getElem? (i := 681) (by decide +kernel)) (by decide +kernel)
theorem wd_682 : (Jvm.Cond.selects "OneBitLoop" ({ cls := "OneBitLoop", name := "reach", desc := "(JJJ)I" } : Jvm.MethodName) ({ cls := "OneBitLoop", name := "reach", desc := "(JJJ)I" } : Jvm.MethodName)) ∈ lw_g := lw_g_mem (List.mem_of_getElem? (i := 682) (by decide +kernel)) (by decide +kernel)
theorem wd_683 : (Jvm.Cond.code ({ cls := "OneBitLoop", name := "reach", desc := "(JJJ)I" } : Jvm.MethodName) prog_1_method_27_code (7 : Nat) (Option.some Jvm.ClassFile.FieldType.int)) ∈ lw_g := lw_g_mem (List.mem_of_getElem? (i := 683) (by decide +kernel)) (by decide +kernel)
theorem wd_684 : (Jvm.Cond.constantLong "OneBitLoop" (246 : Nat) (6 : Int64)) ∈ lw_g := lw_g_mem (List.mem_of_getElem? (i := 684) (by decide +kernel)) (by decide +kernel)
theorem wd_685 : (Jvm.Cond.methodLink "OneBitLoop" (250 : Nat) ({ cls := "OneBitLoop", name := "isReachable", desc := "()Z" } : Jvm.MethodName)) ∈ lw_g := lw_g_mem (List.mem_of_getElem? (i := 685) (by decide +kernel)) (by decide +kernel)
theorem wd_687 : (Jvm.Cond.instanceMethod ({ cls := "OneBitLoop", name := "isReachable", desc := "()Z" } : Jvm.MethodName)) ∈ lw_g := lw_g_mem (List.mem_of_getElem? (i := 687) (by decide +kernel)) (by decide +kernel)
theorem wd_688 : (Jvm.Cond.code ({ cls := "OneBitLoop", name := "isReachable", desc := "()Z" } : Jvm.MethodName) prog_1_method_38_code (2 : Nat) (Option.some Jvm.ClassFile.FieldType.boolean)) ∈ lw_g := lw_g_mem (List.mem_of_getElem? (i := 688) (by decide +kernel)) (by decide +kernel)
theorem wd_689 : (Jvm.Cond.methodLink "OneBitLoop" (254 : Nat) ({ cls := "OneBitLoop$Reaching", name := "findStands", desc := "(LOneBitLoop$Twin;JJJ)I" } : Jvm.MethodName)) ∈ lw_g := lw_g_mem (List.mem_of_getElem? (i := 689) (by decide +kernel)) (by decide +kernel)
theorem wd_690 : (Jvm.Cond.instanceMethod ({ cls := "OneBitLoop$Reaching", name := "findStands", desc := "(LOneBitLoop$Twin;JJJ)I" } : Jvm.MethodName)) ∈ lw_g := lw_g_mem (List.mem_of_getElem? (i := 690) (by decide +kernel)) (by decide +kernel)
theorem wd_691 : (Jvm.Cond.selects "OneBitLoop$Reaching" ({ cls := "OneBitLoop$Reaching", name := "findStands", desc := "(LOneBitLoop$Twin;JJJ)I" } : Jvm.MethodName) ({ cls := "OneBitLoop$Reaching", name := "findStands", desc := "(LOneBitLoop$Twin;JJJ)I" } : Jvm.MethodName)) ∈ lw_g := lw_g_mem (List.mem_of_getElem? (i := 691) (by decide +kernel)) (by decide +kernel)
theorem wd_692 : (Jvm.Cond.code ({ cls := "OneBitLoop$Reaching", name := "findStands", desc := "(LOneBitLoop$Twin;JJJ)I" } : Jvm.MethodName) prog_4_method_2_code (12 : Nat) (Option.some Jvm.ClassFile.FieldType.int)) ∈ lw_g := lw_g_mem (List.mem_of_getElem? (i := 692) (by decide +kernel)) (by decide +kernel)
theorem wd_693 : (Jvm.Cond.methodLink "OneBitLoop$Reaching" (34 : Nat) ({ cls := "OneBitLoop$Seen", name := "empty", desc := "()V" } : Jvm.MethodName)) ∈ lw_g := lw_g_mem (List.mem_of_getElem? (i := 693) (by decide +kernel)) (by decide +kernel)
theorem wd_694 : (Jvm.Cond.methodLink "OneBitLoop$Reaching" (39 : Nat) ({ cls := "OneBitLoop$Seen", name := "find", desc := "(LOneBitLoop$Twin;)I" } : Jvm.MethodName)) ∈ lw_g := lw_g_mem (List.mem_of_getElem? (i := 694) (by decide +kernel)) (by decide +kernel)
theorem wd_695 : (Jvm.Cond.methodLink "OneBitLoop$Reaching" (43 : Nat) ({ cls := "OneBitLoop$Seen", name := "addAsked", desc := "()V" } : Jvm.MethodName)) ∈ lw_g := lw_g_mem (List.mem_of_getElem? (i := 695) (by decide +kernel)) (by decide +kernel)
theorem wd_696 : (Jvm.Cond.methodLink "OneBitLoop$Reaching" (49 : Nat) ({ cls := "OneBitLoop$Reaching", name := "tryFrom", desc := "(ILOneBitLoop$Twin;JJ)I" } : Jvm.MethodName)) ∈ lw_g := lw_g_mem (List.mem_of_getElem? (i := 696) (by decide +kernel)) (by decide +kernel)
theorem wd_698 : (Jvm.Cond.instanceMethod ({ cls := "OneBitLoop$Reaching", name := "tryFrom", desc := "(ILOneBitLoop$Twin;JJ)I" } : Jvm.MethodName)) ∈ lw_g := lw_g_mem (List.mem_of_getElem? (i := 698) (by decide +kernel)) (by decide +kernel)
theorem wd_699 : (Jvm.Cond.code ({ cls := "OneBitLoop$Reaching", name := "tryFrom", desc := "(ILOneBitLoop$Twin;JJ)I" } : Jvm.MethodName) prog_4_method_3_code (7 : Nat) (Option.some Jvm.ClassFile.FieldType.int)) ∈ lw_g := lw_g_mem (List.mem_of_getElem? (i := 699) (by decide +kernel)) (by decide +kernel)
theorem wd_700 : (Jvm.Cond.methodLink "OneBitLoop$Reaching" (53 : Nat) ({ cls := "OneBitLoop$Seen", name := "restore", desc := "(ILOneBitLoop$Twin;)V" } : Jvm.MethodName)) ∈ lw_g := lw_g_mem (List.mem_of_getElem? (i := 700) (by decide +kernel)) (by decide +kernel)
theorem wd_701 : (Jvm.Cond.instanceMethod ({ cls := "OneBitLoop$Seen", name := "restore", desc := "(ILOneBitLoop$Twin;)V" } : Jvm.MethodName)) ∈ lw_g := lw_g_mem (List.mem_of_getElem? (i := 701) (by decide +kernel)) (by decide +kernel)
theorem wd_702 : (Jvm.Cond.selects "OneBitLoop$Seen" ({ cls := "OneBitLoop$Seen", name := "restore", desc := "(ILOneBitLoop$Twin;)V" } : Jvm.MethodName) ({ cls := "OneBitLoop$Seen", name := "restore", desc := "(ILOneBitLoop$Twin;)V" } : Jvm.MethodName)) ∈ lw_g := lw_g_mem (List.mem_of_getElem? (i := 702) (by decide +kernel)) (by decide +kernel)
theorem wd_703 : (Jvm.Cond.code ({ cls := "OneBitLoop$Seen", name := "restore", desc := "(ILOneBitLoop$Twin;)V" } : Jvm.MethodName) prog_6_method_5_code (4 : Nat) (Option.none : Option Jvm.ClassFile.FieldType)) ∈ lw_g := lw_g_mem (List.mem_of_getElem? (i := 703) (by decide +kernel)) (by decide +kernel)
theorem wd_704 : (Jvm.Cond.methodLink "OneBitLoop$Reaching" (57 : Nat) ({ cls := "OneBitLoop$Twin", name := "makeStep", desc := "(J)Z" } : Jvm.MethodName)) ∈ lw_g := lw_g_mem (List.mem_of_getElem? (i := 704) (by decide +kernel)) (by decide +kernel)
theorem wd_705 : (Jvm.Cond.methodLink "OneBitLoop$Reaching" (63 : Nat) ({ cls := "OneBitLoop$Reaching", name := "isBeyond", desc := "(LOneBitLoop$Twin;J)Z" } : Jvm.MethodName)) ∈ lw_g := lw_g_mem (List.mem_of_getElem? (i := 705) (by decide +kernel)) (by decide +kernel)
theorem wd_707 : (Jvm.Cond.instanceMethod ({ cls := "OneBitLoop$Reaching", name := "isBeyond", desc := "(LOneBitLoop$Twin;J)Z" } : Jvm.MethodName)) ∈ lw_g := lw_g_mem (List.mem_of_getElem? (i := 707) (by decide +kernel)) (by decide +kernel)
theorem wd_708 : (Jvm.Cond.code ({ cls := "OneBitLoop$Reaching", name := "isBeyond", desc := "(LOneBitLoop$Twin;J)Z" } : Jvm.MethodName) prog_4_method_4_code (7 : Nat) (Option.some Jvm.ClassFile.FieldType.boolean)) ∈ lw_g := lw_g_mem (List.mem_of_getElem? (i := 708) (by decide +kernel)) (by decide +kernel)
theorem wd_709 : (Jvm.Cond.methodLink "OneBitLoop$Reaching" (67 : Nat) ({ cls := "OneBitLoop$Reaching", name := "tellRow", desc := "(IJ)V" } : Jvm.MethodName)) ∈ lw_g := lw_g_mem (List.mem_of_getElem? (i := 709) (by decide +kernel)) (by decide +kernel)
theorem wd_711 : (Jvm.Cond.instanceMethod ({ cls := "OneBitLoop$Reaching", name := "tellRow", desc := "(IJ)V" } : Jvm.MethodName)) ∈ lw_g := lw_g_mem (List.mem_of_getElem? (i := 711) (by decide +kernel)) (by decide +kernel)
theorem wd_712 : (Jvm.Cond.code ({ cls := "OneBitLoop$Reaching", name := "tellRow", desc := "(IJ)V" } : Jvm.MethodName) prog_4_method_5_code (7 : Nat) (Option.none : Option Jvm.ClassFile.FieldType)) ∈ lw_g := lw_g_mem (List.mem_of_getElem? (i := 712) (by decide +kernel)) (by decide +kernel)
theorem wd_714 : (Jvm.Cond.instanceMethod ({ cls := "OneBitLoop", name := "leaving", desc := "(I)J" } : Jvm.MethodName)) ∈ lw_g := lw_g_mem (List.mem_of_getElem? (i := 714) (by decide +kernel)) (by decide +kernel)
theorem wd_715 : (Jvm.Cond.selects "OneBitLoop" ({ cls := "OneBitLoop", name := "leaving", desc := "(I)J" } : Jvm.MethodName) ({ cls := "OneBitLoop", name := "leaving", desc := "(I)J" } : Jvm.MethodName)) ∈ lw_g := lw_g_mem (List.mem_of_getElem? (i := 715) (by decide +kernel)) (by decide +kernel)
theorem wd_716 : (Jvm.Cond.code ({ cls := "OneBitLoop", name := "leaving", desc := "(I)J" } : Jvm.MethodName) prog_1_method_28_code (2 : Nat) (Option.some Jvm.ClassFile.FieldType.long)) ∈ lw_g := lw_g_mem (List.mem_of_getElem? (i := 716) (by decide +kernel)) (by decide +kernel)
theorem wd_718 : (Jvm.Cond.instanceMethod ({ cls := "OneBitLoop", name := "worst", desc := "(IJJ)J" } : Jvm.MethodName)) ∈ lw_g := lw_g_mem (List.mem_of_getElem? (i := 718) (by decide +kernel)) (by decide +kernel)
theorem wd_719 : (Jvm.Cond.selects "OneBitLoop" ({ cls := "OneBitLoop", name := "worst", desc := "(IJJ)J" } : Jvm.MethodName) ({ cls := "OneBitLoop", name := "worst", desc := "(IJJ)J" } : Jvm.MethodName)) ∈ lw_g := lw_g_mem (List.mem_of_getElem? (i := 719) (by decide +kernel)) (by decide +kernel)
theorem wd_720 : (Jvm.Cond.code ({ cls := "OneBitLoop", name := "worst", desc := "(IJJ)J" } : Jvm.MethodName) prog_1_method_29_code (7 : Nat) (Option.some Jvm.ClassFile.FieldType.long)) ∈ lw_g := lw_g_mem (List.mem_of_getElem? (i := 720) (by decide +kernel)) (by decide +kernel)
theorem wd_721 : (Jvm.Cond.methodLink "OneBitLoop" (264 : Nat) ({ cls := "OneBitLoop$Worst", name := "goThroughAll", desc := "(IJJ)Z" } : Jvm.MethodName)) ∈ lw_g := lw_g_mem (List.mem_of_getElem? (i := 721) (by decide +kernel)) (by decide +kernel)
theorem wd_722 : (Jvm.Cond.instanceMethod ({ cls := "OneBitLoop$Worst", name := "goThroughAll", desc := "(IJJ)Z" } : Jvm.MethodName)) ∈ lw_g := lw_g_mem (List.mem_of_getElem? (i := 722) (by decide +kernel)) (by decide +kernel)
theorem wd_723 : (Jvm.Cond.selects "OneBitLoop$Worst" ({ cls := "OneBitLoop$Worst", name := "goThroughAll", desc := "(IJJ)Z" } : Jvm.MethodName) ({ cls := "OneBitLoop$Worst", name := "goThroughAll", desc := "(IJJ)Z" } : Jvm.MethodName)) ∈ lw_g := lw_g_mem (List.mem_of_getElem? (i := 723) (by decide +kernel)) (by decide +kernel)
theorem wd_724 : (Jvm.Cond.code ({ cls := "OneBitLoop$Worst", name := "goThroughAll", desc := "(IJJ)Z" } : Jvm.MethodName) prog_9_method_2_code (15 : Nat) (Option.some Jvm.ClassFile.FieldType.boolean)) ∈ lw_g := lw_g_mem (List.mem_of_getElem? (i := 724) (by decide +kernel)) (by decide +kernel)
theorem wd_725 : (Jvm.Cond.constantLong "OneBitLoop$Worst" (49 : Nat) (-1 : Int64)) ∈ lw_g := lw_g_mem (List.mem_of_getElem? (i := 725) (by decide +kernel)) (by decide +kernel)
theorem wd_726 : (Jvm.Cond.methodLink "OneBitLoop$Worst" (51 : Nat) ({ cls := "OneBitLoop$Twin", name := "beginAgain", desc := "()V" } : Jvm.MethodName)) ∈ lw_g := lw_g_mem (List.mem_of_getElem? (i := 726) (by decide +kernel)) (by decide +kernel)
theorem wd_727 : (Jvm.Cond.methodLink "OneBitLoop$Worst" (54 : Nat) ({ cls := "java/lang/Integer", name := "numberOfTrailingZeros", desc := "(I)I" } : Jvm.MethodName)) ∈ lw_g := lw_g_mem (List.mem_of_getElem? (i := 727) (by decide +kernel)) (by decide +kernel)
theorem wd_728 : (Jvm.Cond.static ({ cls := "java/lang/Integer", name := "numberOfTrailingZeros", desc := "(I)I" } : Jvm.MethodName)) ∈ lw_g := lw_g_mem (List.mem_of_getElem? (i := 728) (by decide +kernel)) (by decide +kernel)
theorem wd_729 : (Jvm.Cond.code ({ cls := "java/lang/Integer", name := "numberOfTrailingZeros", desc := "(I)I" } : Jvm.MethodName) prog_14_method_48_code (2 : Nat) (Option.some Jvm.ClassFile.FieldType.int)) ∈ lw_g := lw_g_mem (List.mem_of_getElem? (i := 729) (by decide +kernel)) (by decide +kernel)
theorem wd_730 : (Jvm.Cond.constant "java/lang/Integer" (264 : Nat) (65536 : Int32)) ∈ lw_g := lw_g_mem (List.mem_of_getElem? (i := 730) (by decide +kernel)) (by decide +kernel)
theorem wd_731 : (Jvm.Cond.methodLink "OneBitLoop$Worst" (60 : Nat) ({ cls := "OneBitLoop$Worst", name := "goOn", desc := "(IIIJJ)Z" } : Jvm.MethodName)) ∈ lw_g := lw_g_mem (List.mem_of_getElem? (i := 731) (by decide +kernel)) (by decide +kernel)
theorem wd_733 : (Jvm.Cond.instanceMethod ({ cls := "OneBitLoop$Worst", name := "goOn", desc := "(IIIJJ)Z" } : Jvm.MethodName)) ∈ lw_g := lw_g_mem (List.mem_of_getElem? (i := 733) (by decide +kernel)) (by decide +kernel)
theorem wd_734 : (Jvm.Cond.code ({ cls := "OneBitLoop$Worst", name := "goOn", desc := "(IIIJJ)Z" } : Jvm.MethodName) prog_9_method_3_code (9 : Nat) (Option.some Jvm.ClassFile.FieldType.boolean)) ∈ lw_g := lw_g_mem (List.mem_of_getElem? (i := 734) (by decide +kernel)) (by decide +kernel)
theorem wd_735 : (Jvm.Cond.methodLink "OneBitLoop$Worst" (74 : Nat) ({ cls := "OneBitLoop$Twin", name := "becomeLike", desc := "(LOneBitLoop$Twin;)V" } : Jvm.MethodName)) ∈ lw_g := lw_g_mem (List.mem_of_getElem? (i := 735) (by decide +kernel)) (by decide +kernel)
theorem wd_736 : (Jvm.Cond.methodLink "OneBitLoop$Worst" (78 : Nat) ({ cls := "OneBitLoop$Worst", name := "isOne", desc := "(III)Z" } : Jvm.MethodName)) ∈ lw_g := lw_g_mem (List.mem_of_getElem? (i := 736) (by decide +kernel)) (by decide +kernel)
theorem wd_737 : (Jvm.Cond.static ({ cls := "OneBitLoop$Worst", name := "isOne", desc := "(III)Z" } : Jvm.MethodName)) ∈ lw_g := lw_g_mem (List.mem_of_getElem? (i := 737) (by decide +kernel)) (by decide +kernel)
theorem wd_738 : (Jvm.Cond.code ({ cls := "OneBitLoop$Worst", name := "isOne", desc := "(III)Z" } : Jvm.MethodName) prog_9_method_4_code (3 : Nat) (Option.some Jvm.ClassFile.FieldType.boolean)) ∈ lw_g := lw_g_mem (List.mem_of_getElem? (i := 738) (by decide +kernel)) (by decide +kernel)
theorem wd_739 : (Jvm.Cond.methodLink "OneBitLoop$Worst" (82 : Nat) ({ cls := "OneBitLoop$Twin", name := "makeStep", desc := "(J)Z" } : Jvm.MethodName)) ∈ lw_g := lw_g_mem (List.mem_of_getElem? (i := 739) (by decide +kernel)) (by decide +kernel)
theorem wd_740 : (Jvm.Cond.methodLink "OneBitLoop$Worst" (68 : Nat) ({ cls := "java/lang/Math", name := "abs", desc := "(J)J" } : Jvm.MethodName)) ∈ lw_g := lw_g_mem (List.mem_of_getElem? (i := 740) (by decide +kernel)) (by decide +kernel)
theorem wd_742 : (Jvm.Cond.instanceMethod ({ cls := "OneBitLoop", name := "worstAt", desc := "(I)J" } : Jvm.MethodName)) ∈ lw_g := lw_g_mem (List.mem_of_getElem? (i := 742) (by decide +kernel)) (by decide +kernel)
theorem wd_743 : (Jvm.Cond.selects "OneBitLoop" ({ cls := "OneBitLoop", name := "worstAt", desc := "(I)J" } : Jvm.MethodName) ({ cls := "OneBitLoop", name := "worstAt", desc := "(I)J" } : Jvm.MethodName)) ∈ lw_g := lw_g_mem (List.mem_of_getElem? (i := 743) (by decide +kernel)) (by decide +kernel)
theorem wd_744 : (Jvm.Cond.code ({ cls := "OneBitLoop", name := "worstAt", desc := "(I)J" } : Jvm.MethodName) prog_1_method_30_code (2 : Nat) (Option.some Jvm.ClassFile.FieldType.long)) ∈ lw_g := lw_g_mem (List.mem_of_getElem? (i := 744) (by decide +kernel)) (by decide +kernel)
theorem wd_745 : (Jvm.Cond.methodLink "OneBitLoop" (273 : Nat) ({ cls := "OneBitLoop$Worst", name := "sampleOf", desc := "(I)J" } : Jvm.MethodName)) ∈ lw_g := lw_g_mem (List.mem_of_getElem? (i := 745) (by decide +kernel)) (by decide +kernel)
theorem wd_746 : (Jvm.Cond.instanceMethod ({ cls := "OneBitLoop$Worst", name := "sampleOf", desc := "(I)J" } : Jvm.MethodName)) ∈ lw_g := lw_g_mem (List.mem_of_getElem? (i := 746) (by decide +kernel)) (by decide +kernel)
theorem wd_747 : (Jvm.Cond.selects "OneBitLoop$Worst" ({ cls := "OneBitLoop$Worst", name := "sampleOf", desc := "(I)J" } : Jvm.MethodName) ({ cls := "OneBitLoop$Worst", name := "sampleOf", desc := "(I)J" } : Jvm.MethodName)) ∈ lw_g := lw_g_mem (List.mem_of_getElem? (i := 747) (by decide +kernel)) (by decide +kernel)
theorem wd_748 : (Jvm.Cond.code ({ cls := "OneBitLoop$Worst", name := "sampleOf", desc := "(I)J" } : Jvm.MethodName) prog_9_method_5_code (2 : Nat) (Option.some Jvm.ClassFile.FieldType.long)) ∈ lw_g := lw_g_mem (List.mem_of_getElem? (i := 748) (by decide +kernel)) (by decide +kernel)
theorem wd_750 : (Jvm.Cond.instanceMethod ({ cls := "OneBitLoop", name := "count", desc := "(I)I" } : Jvm.MethodName)) ∈ lw_g := lw_g_mem (List.mem_of_getElem? (i := 750) (by decide +kernel)) (by decide +kernel)
theorem wd_751 : (Jvm.Cond.selects "OneBitLoop" ({ cls := "OneBitLoop", name := "count", desc := "(I)I" } : Jvm.MethodName) ({ cls := "OneBitLoop", name := "count", desc := "(I)I" } : Jvm.MethodName)) ∈ lw_g := lw_g_mem (List.mem_of_getElem? (i := 751) (by decide +kernel)) (by decide +kernel)
theorem wd_752 : (Jvm.Cond.code ({ cls := "OneBitLoop", name := "count", desc := "(I)I" } : Jvm.MethodName) prog_1_method_31_code (2 : Nat) (Option.some Jvm.ClassFile.FieldType.int)) ∈ lw_g := lw_g_mem (List.mem_of_getElem? (i := 752) (by decide +kernel)) (by decide +kernel)
theorem wd_754 : (Jvm.Cond.instanceMethod ({ cls := "OneBitLoop", name := "digest", desc := "()J" } : Jvm.MethodName)) ∈ lw_g := lw_g_mem (List.mem_of_getElem? (i := 754) (by decide +kernel)) (by decide +kernel)
theorem wd_755 : (Jvm.Cond.selects "OneBitLoop" ({ cls := "OneBitLoop", name := "digest", desc := "()J" } : Jvm.MethodName) ({ cls := "OneBitLoop", name := "digest", desc := "()J" } : Jvm.MethodName)) ∈ lw_g := lw_g_mem (List.mem_of_getElem? (i := 755) (by decide +kernel)) (by decide +kernel)
theorem wd_756 : (Jvm.Cond.code ({ cls := "OneBitLoop", name := "digest", desc := "()J" } : Jvm.MethodName) prog_1_method_32_code (5 : Nat) (Option.some Jvm.ClassFile.FieldType.long)) ∈ lw_g := lw_g_mem (List.mem_of_getElem? (i := 756) (by decide +kernel)) (by decide +kernel)
theorem wd_757 : (Jvm.Cond.constantLong "OneBitLoop" (278 : Nat) (17 : Int64)) ∈ lw_g := lw_g_mem (List.mem_of_getElem? (i := 757) (by decide +kernel)) (by decide +kernel)
theorem wd_758 : (Jvm.Cond.constantLong "OneBitLoop" (280 : Nat) (31 : Int64)) ∈ lw_g := lw_g_mem (List.mem_of_getElem? (i := 758) (by decide +kernel)) (by decide +kernel)
theorem wd_762 : (Jvm.Cond.instanceMethod ({ cls := "OneBitLoopModel", name := "<init>", desc := "()V" } : Jvm.MethodName)) ∈ lw_g := lw_g_mem (List.mem_of_getElem? (i := 762) (by decide +kernel)) (by decide +kernel)
theorem wd_763 : (Jvm.Cond.code ({ cls := "OneBitLoopModel", name := "<init>", desc := "()V" } : Jvm.MethodName) prog_11_method_1_code (1 : Nat) (Option.none : Option Jvm.ClassFile.FieldType)) ∈ lw_g := lw_g_mem (List.mem_of_getElem? (i := 763) (by decide +kernel)) (by decide +kernel)
theorem wd_764 : (Jvm.Cond.methodLink "OneBitLoopModel" (1 : Nat) ({ cls := "java/lang/Object", name := "<init>", desc := "()V" } : Jvm.MethodName)) ∈ lw_g := lw_g_mem (List.mem_of_getElem? (i := 764) (by decide +kernel)) (by decide +kernel)
theorem wd_765 : (Jvm.Cond.constantLong "OneBitLoopModel" (91 : Nat) (-1 : Int64)) ∈ lw_g := lw_g_mem (List.mem_of_getElem? (i := 765) (by decide +kernel)) (by decide +kernel)
theorem wd_766 : (Jvm.Cond.fieldLink "OneBitLoopModel" (7 : Nat) "OneBitLoopModel" "isThere" "[Z") ∈ lw_g := lw_g_mem (List.mem_of_getElem? (i := 766) (by decide +kernel)) (by decide +kernel)
theorem wd_767 : (Jvm.Cond.fieldLink "OneBitLoopModel" (13 : Nat) "OneBitLoopModel" "forms" "[I") ∈ lw_g := lw_g_mem (List.mem_of_getElem? (i := 767) (by decide +kernel)) (by decide +kernel)
theorem wd_768 : (Jvm.Cond.fieldLink "OneBitLoopModel" (17 : Nat) "OneBitLoopModel" "sizes" "[I") ∈ lw_g := lw_g_mem (List.mem_of_getElem? (i := 768) (by decide +kernel)) (by decide +kernel)
theorem wd_769 : (Jvm.Cond.fieldLink "OneBitLoopModel" (20 : Nat) "OneBitLoopModel" "items" "[J") ∈ lw_g := lw_g_mem (List.mem_of_getElem? (i := 769) (by decide +kernel)) (by decide +kernel)
theorem wd_770 : (Jvm.Cond.fieldLink "OneBitLoopModel" (24 : Nat) "OneBitLoopModel" "moved" "[J") ∈ lw_g := lw_g_mem (List.mem_of_getElem? (i := 770) (by decide +kernel)) (by decide +kernel)
theorem wd_771 : (Jvm.Cond.fieldLink "OneBitLoopModel" (93 : Nat) "OneBitLoopModel" "finding" "I") ∈ lw_g := lw_g_mem (List.mem_of_getElem? (i := 771) (by decide +kernel)) (by decide +kernel)
theorem wd_772 : (Jvm.Cond.fieldLink "OneBitLoopModel" (160 : Nat) "OneBitLoopModel" "stages" "I") ∈ lw_g := lw_g_mem (List.mem_of_getElem? (i := 772) (by decide +kernel)) (by decide +kernel)
theorem wd_773 : (Jvm.Cond.fieldLink "OneBitLoopModel" (27 : Nat) "OneBitLoopModel" "kinds" "[I") ∈ lw_g := lw_g_mem (List.mem_of_getElem? (i := 773) (by decide +kernel)) (by decide +kernel)
theorem wd_774 : (Jvm.Cond.fieldLink "OneBitLoopModel" (30 : Nat) "OneBitLoopModel" "first" "[J") ∈ lw_g := lw_g_mem (List.mem_of_getElem? (i := 774) (by decide +kernel)) (by decide +kernel)
theorem wd_775 : (Jvm.Cond.fieldLink "OneBitLoopModel" (33 : Nat) "OneBitLoopModel" "second" "[I") ∈ lw_g := lw_g_mem (List.mem_of_getElem? (i := 775) (by decide +kernel)) (by decide +kernel)
theorem wd_776 : (Jvm.Cond.fieldLink "OneBitLoopModel" (87 : Nat) "OneBitLoopModel" "levelMany" "I") ∈ lw_g := lw_g_mem (List.mem_of_getElem? (i := 776) (by decide +kernel)) (by decide +kernel)
theorem wd_777 : (Jvm.Cond.fieldLink "OneBitLoopModel" (36 : Nat) "OneBitLoopModel" "levels" "[J") ∈ lw_g := lw_g_mem (List.mem_of_getElem? (i := 777) (by decide +kernel)) (by decide +kernel)
theorem wd_778 : (Jvm.Cond.fieldLink "OneBitLoopModel" (173 : Nat) "OneBitLoopModel" "span" "I") ∈ lw_g := lw_g_mem (List.mem_of_getElem? (i := 778) (by decide +kernel)) (by decide +kernel)
theorem wd_779 : (Jvm.Cond.fieldLink "OneBitLoopModel" (176 : Nat) "OneBitLoopModel" "seedTold" "J") ∈ lw_g := lw_g_mem (List.mem_of_getElem? (i := 779) (by decide +kernel)) (by decide +kernel)
theorem wd_780 : (Jvm.Cond.fieldLink "OneBitLoopModel" (39 : Nat) "OneBitLoopModel" "has" "[J") ∈ lw_g := lw_g_mem (List.mem_of_getElem? (i := 780) (by decide +kernel)) (by decide +kernel)
theorem wd_781 : (Jvm.Cond.fieldLink "OneBitLoopModel" (180 : Nat) "OneBitLoopModel" "seed" "J") ∈ lw_g := lw_g_mem (List.mem_of_getElem? (i := 781) (by decide +kernel)) (by decide +kernel)
theorem wd_782 : (Jvm.Cond.fieldLink "OneBitLoopModel" (129 : Nat) "OneBitLoopModel" "steps" "I") ∈ lw_g := lw_g_mem (List.mem_of_getElem? (i := 782) (by decide +kernel)) (by decide +kernel)
theorem wd_783 : (Jvm.Cond.fieldLink "OneBitLoopModel" (42 : Nat) "OneBitLoopModel" "made" "[J") ∈ lw_g := lw_g_mem (List.mem_of_getElem? (i := 783) (by decide +kernel)) (by decide +kernel)
theorem wd_784 : (Jvm.Cond.fieldLink "OneBitLoopModel" (45 : Nat) "OneBitLoopModel" "record" "[J") ∈ lw_g := lw_g_mem (List.mem_of_getElem? (i := 784) (by decide +kernel)) (by decide +kernel)
theorem wd_785 : (Jvm.Cond.fieldLink "OneBitLoopModel" (231 : Nat) "OneBitLoopModel" "traced" "I") ∈ lw_g := lw_g_mem (List.mem_of_getElem? (i := 785) (by decide +kernel)) (by decide +kernel)
theorem wd_786 : (Jvm.Cond.fieldLink "OneBitLoopModel" (48 : Nat) "OneBitLoopModel" "trace" "[I") ∈ lw_g := lw_g_mem (List.mem_of_getElem? (i := 786) (by decide +kernel)) (by decide +kernel)
theorem wd_787 : (Jvm.Cond.fieldLink "OneBitLoopModel" (51 : Nat) "OneBitLoopModel" "now" "[J") ∈ lw_g := lw_g_mem (List.mem_of_getElem? (i := 787) (by decide +kernel)) (by decide +kernel)
theorem wd_788 : (Jvm.Cond.fieldLink "OneBitLoopModel" (183 : Nat) "OneBitLoopModel" "seedNow" "J") ∈ lw_g := lw_g_mem (List.mem_of_getElem? (i := 788) (by decide +kernel)) (by decide +kernel)
theorem wd_789 : (Jvm.Cond.fieldLink "OneBitLoopModel" (211 : Nat) "OneBitLoopModel" "levelNow" "I") ∈ lw_g := lw_g_mem (List.mem_of_getElem? (i := 789) (by decide +kernel)) (by decide +kernel)
theorem wd_790 : (Jvm.Cond.fieldLink "OneBitLoopModel" (186 : Nat) "OneBitLoopModel" "tracedNow" "I") ∈ lw_g := lw_g_mem (List.mem_of_getElem? (i := 790) (by decide +kernel)) (by decide +kernel)
theorem wd_791 : (Jvm.Cond.fieldLink "OneBitLoopModel" (54 : Nat) "OneBitLoopModel" "traceNow" "[I") ∈ lw_g := lw_g_mem (List.mem_of_getElem? (i := 791) (by decide +kernel)) (by decide +kernel)
theorem wd_792 : (Jvm.Cond.fieldLink "OneBitLoopModel" (57 : Nat) "OneBitLoopModel" "weights" "[I") ∈ lw_g := lw_g_mem (List.mem_of_getElem? (i := 792) (by decide +kernel)) (by decide +kernel)
theorem wd_793 : (Jvm.Cond.fieldLink "OneBitLoopModel" (60 : Nat) "OneBitLoopModel" "running" "[J") ∈ lw_g := lw_g_mem (List.mem_of_getElem? (i := 793) (by decide +kernel)) (by decide +kernel)
theorem wd_794 : (Jvm.Cond.fieldLink "OneBitLoopModel" (63 : Nat) "OneBitLoopModel" "stood" "[J") ∈ lw_g := lw_g_mem (List.mem_of_getElem? (i := 794) (by decide +kernel)) (by decide +kernel)
theorem wd_795 : (Jvm.Cond.fieldLink "OneBitLoopModel" (66 : Nat) "OneBitLoopModel" "held" "[J") ∈ lw_g := lw_g_mem (List.mem_of_getElem? (i := 795) (by decide +kernel)) (by decide +kernel)
theorem wd_796 : (Jvm.Cond.fieldLink "OneBitLoopModel" (270 : Nat) "OneBitLoopModel" "stands" "I") ∈ lw_g := lw_g_mem (List.mem_of_getElem? (i := 796) (by decide +kernel)) (by decide +kernel)
theorem wd_797 : (Jvm.Cond.fieldLink "OneBitLoopModel" (69 : Nat) "OneBitLoopModel" "standOne" "[J") ∈ lw_g := lw_g_mem (List.mem_of_getElem? (i := 797) (by decide +kernel)) (by decide +kernel)
theorem wd_798 : (Jvm.Cond.fieldLink "OneBitLoopModel" (72 : Nat) "OneBitLoopModel" "standTwo" "[J") ∈ lw_g := lw_g_mem (List.mem_of_getElem? (i := 798) (by decide +kernel)) (by decide +kernel)
theorem wd_799 : (Jvm.Cond.fieldLink "OneBitLoopModel" (75 : Nat) "OneBitLoopModel" "cameFrom" "[I") ∈ lw_g := lw_g_mem (List.mem_of_getElem? (i := 799) (by decide +kernel)) (by decide +kernel)
theorem wd_800 : (Jvm.Cond.fieldLink "OneBitLoopModel" (78 : Nat) "OneBitLoopModel" "cameBy" "[J") ∈ lw_g := lw_g_mem (List.mem_of_getElem? (i := 800) (by decide +kernel)) (by decide +kernel)
theorem wd_801 : (Jvm.Cond.fieldLink "OneBitLoopModel" (263 : Nat) "OneBitLoopModel" "leaves" "I") ∈ lw_g := lw_g_mem (List.mem_of_getElem? (i := 801) (by decide +kernel)) (by decide +kernel)
theorem wd_802 : (Jvm.Cond.fieldLink "OneBitLoopModel" (81 : Nat) "OneBitLoopModel" "leaving" "[J") ∈ lw_g := lw_g_mem (List.mem_of_getElem? (i := 802) (by decide +kernel)) (by decide +kernel)
theorem wd_803 : (Jvm.Cond.fieldLink "OneBitLoopModel" (276 : Nat) "OneBitLoopModel" "worstWhy" "I") ∈ lw_g := lw_g_mem (List.mem_of_getElem? (i := 803) (by decide +kernel)) (by decide +kernel)
theorem wd_804 : (Jvm.Cond.fieldLink "OneBitLoopModel" (285 : Nat) "OneBitLoopModel" "worstMany" "I") ∈ lw_g := lw_g_mem (List.mem_of_getElem? (i := 804) (by decide +kernel)) (by decide +kernel)
theorem wd_805 : (Jvm.Cond.fieldLink "OneBitLoopModel" (84 : Nat) "OneBitLoopModel" "worst" "[J") ∈ lw_g := lw_g_mem (List.mem_of_getElem? (i := 805) (by decide +kernel)) (by decide +kernel)
theorem wd_887 : (Jvm.Cond.arrayClass Jvm.ClassFile.FieldType.boolean) ∈ lw_g := lw_g_mem (List.mem_of_getElem? (i := 887) (by decide +kernel)) (by decide +kernel)
theorem wd_889 : (Jvm.Cond.instanceMethod ({ cls := "OneBitLoopModel", name := "reel", desc := "(III)I" } : Jvm.MethodName)) ∈ lw_g := lw_g_mem (List.mem_of_getElem? (i := 889) (by decide +kernel)) (by decide +kernel)
theorem wd_890 : (Jvm.Cond.selects "OneBitLoopModel" ({ cls := "OneBitLoopModel", name := "reel", desc := "(III)I" } : Jvm.MethodName) ({ cls := "OneBitLoopModel", name := "reel", desc := "(III)I" } : Jvm.MethodName)) ∈ lw_g := lw_g_mem (List.mem_of_getElem? (i := 890) (by decide +kernel)) (by decide +kernel)
theorem wd_891 : (Jvm.Cond.code ({ cls := "OneBitLoopModel", name := "reel", desc := "(III)I" } : Jvm.MethodName) prog_11_method_6_code (5 : Nat) (Option.some Jvm.ClassFile.FieldType.int)) ∈ lw_g := lw_g_mem (List.mem_of_getElem? (i := 891) (by decide +kernel)) (by decide +kernel)
theorem wd_892 : (Jvm.Cond.methodLink "OneBitLoopModel" (102 : Nat) ({ cls := "OneBitLoopModel", name := "isReel", desc := "(I)Z" } : Jvm.MethodName)) ∈ lw_g := lw_g_mem (List.mem_of_getElem? (i := 892) (by decide +kernel)) (by decide +kernel)
theorem wd_893 : (Jvm.Cond.static ({ cls := "OneBitLoopModel", name := "isReel", desc := "(I)Z" } : Jvm.MethodName)) ∈ lw_g := lw_g_mem (List.mem_of_getElem? (i := 893) (by decide +kernel)) (by decide +kernel)
theorem wd_894 : (Jvm.Cond.code ({ cls := "OneBitLoopModel", name := "isReel", desc := "(I)Z" } : Jvm.MethodName) prog_11_method_5_code (1 : Nat) (Option.some Jvm.ClassFile.FieldType.boolean)) ∈ lw_g := lw_g_mem (List.mem_of_getElem? (i := 894) (by decide +kernel)) (by decide +kernel)
theorem wd_895 : (Jvm.Cond.constantLong "OneBitLoopModel" (96 : Nat) (5 : Int64)) ∈ lw_g := lw_g_mem (List.mem_of_getElem? (i := 895) (by decide +kernel)) (by decide +kernel)
theorem wd_896 : (Jvm.Cond.methodLink "OneBitLoopModel" (98 : Nat) ({ cls := "OneBitLoopModel", name := "in", desc := "(JJJ)Z" } : Jvm.MethodName)) ∈ lw_g := lw_g_mem (List.mem_of_getElem? (i := 896) (by decide +kernel)) (by decide +kernel)
theorem wd_897 : (Jvm.Cond.static ({ cls := "OneBitLoopModel", name := "in", desc := "(JJJ)Z" } : Jvm.MethodName)) ∈ lw_g := lw_g_mem (List.mem_of_getElem? (i := 897) (by decide +kernel)) (by decide +kernel)
theorem wd_898 : (Jvm.Cond.code ({ cls := "OneBitLoopModel", name := "in", desc := "(JJJ)Z" } : Jvm.MethodName) prog_11_method_3_code (6 : Nat) (Option.some Jvm.ClassFile.FieldType.boolean)) ∈ lw_g := lw_g_mem (List.mem_of_getElem? (i := 898) (by decide +kernel)) (by decide +kernel)
theorem wd_899 : (Jvm.Cond.methodLink "OneBitLoopModel" (106 : Nat) ({ cls := "OneBitLoopModel", name := "meets", desc := "(I)I" } : Jvm.MethodName)) ∈ lw_g := lw_g_mem (List.mem_of_getElem? (i := 899) (by decide +kernel)) (by decide +kernel)
theorem wd_901 : (Jvm.Cond.instanceMethod ({ cls := "OneBitLoopModel", name := "meets", desc := "(I)I" } : Jvm.MethodName)) ∈ lw_g := lw_g_mem (List.mem_of_getElem? (i := 901) (by decide +kernel)) (by decide +kernel)
theorem wd_902 : (Jvm.Cond.code ({ cls := "OneBitLoopModel", name := "meets", desc := "(I)I" } : Jvm.MethodName) prog_11_method_4_code (2 : Nat) (Option.some Jvm.ClassFile.FieldType.int)) ∈ lw_g := lw_g_mem (List.mem_of_getElem? (i := 902) (by decide +kernel)) (by decide +kernel)
theorem wd_904 : (Jvm.Cond.instanceMethod ({ cls := "OneBitLoopModel", name := "lose", desc := "(I)I" } : Jvm.MethodName)) ∈ lw_g := lw_g_mem (List.mem_of_getElem? (i := 904) (by decide +kernel)) (by decide +kernel)
theorem wd_905 : (Jvm.Cond.selects "OneBitLoopModel" ({ cls := "OneBitLoopModel", name := "lose", desc := "(I)I" } : Jvm.MethodName) ({ cls := "OneBitLoopModel", name := "lose", desc := "(I)I" } : Jvm.MethodName)) ∈ lw_g := lw_g_mem (List.mem_of_getElem? (i := 905) (by decide +kernel)) (by decide +kernel)
theorem wd_906 : (Jvm.Cond.code ({ cls := "OneBitLoopModel", name := "lose", desc := "(I)I" } : Jvm.MethodName) prog_11_method_7_code (2 : Nat) (Option.some Jvm.ClassFile.FieldType.int)) ∈ lw_g := lw_g_mem (List.mem_of_getElem? (i := 906) (by decide +kernel)) (by decide +kernel)
theorem wd_908 : (Jvm.Cond.instanceMethod ({ cls := "OneBitLoopModel", name := "put", desc := "(IIIJ)I" } : Jvm.MethodName)) ∈ lw_g := lw_g_mem (List.mem_of_getElem? (i := 908) (by decide +kernel)) (by decide +kernel)
theorem wd_909 : (Jvm.Cond.selects "OneBitLoopModel" ({ cls := "OneBitLoopModel", name := "put", desc := "(IIIJ)I" } : Jvm.MethodName) ({ cls := "OneBitLoopModel", name := "put", desc := "(IIIJ)I" } : Jvm.MethodName)) ∈ lw_g := lw_g_mem (List.mem_of_getElem? (i := 909) (by decide +kernel)) (by decide +kernel)
theorem wd_910 : (Jvm.Cond.code ({ cls := "OneBitLoopModel", name := "put", desc := "(IIIJ)I" } : Jvm.MethodName) prog_11_method_10_code (7 : Nat) (Option.some Jvm.ClassFile.FieldType.int)) ∈ lw_g := lw_g_mem (List.mem_of_getElem? (i := 910) (by decide +kernel)) (by decide +kernel)
theorem wd_911 : (Jvm.Cond.methodLink "OneBitLoopModel" (120 : Nat) ({ cls := "OneBitLoopModel", name := "lacks", desc := "(III)I" } : Jvm.MethodName)) ∈ lw_g := lw_g_mem (List.mem_of_getElem? (i := 911) (by decide +kernel)) (by decide +kernel)
theorem wd_913 : (Jvm.Cond.instanceMethod ({ cls := "OneBitLoopModel", name := "lacks", desc := "(III)I" } : Jvm.MethodName)) ∈ lw_g := lw_g_mem (List.mem_of_getElem? (i := 913) (by decide +kernel)) (by decide +kernel)
theorem wd_914 : (Jvm.Cond.code ({ cls := "OneBitLoopModel", name := "lacks", desc := "(III)I" } : Jvm.MethodName) prog_11_method_9_code (4 : Nat) (Option.some Jvm.ClassFile.FieldType.int)) ∈ lw_g := lw_g_mem (List.mem_of_getElem? (i := 914) (by decide +kernel)) (by decide +kernel)
theorem wd_915 : (Jvm.Cond.methodLink "OneBitLoopModel" (124 : Nat) ({ cls := "OneBitLoopModel", name := "laid", desc := "(IJ)J" } : Jvm.MethodName)) ∈ lw_g := lw_g_mem (List.mem_of_getElem? (i := 915) (by decide +kernel)) (by decide +kernel)
theorem wd_916 : (Jvm.Cond.static ({ cls := "OneBitLoopModel", name := "laid", desc := "(IJ)J" } : Jvm.MethodName)) ∈ lw_g := lw_g_mem (List.mem_of_getElem? (i := 916) (by decide +kernel)) (by decide +kernel)
theorem wd_917 : (Jvm.Cond.code ({ cls := "OneBitLoopModel", name := "laid", desc := "(IJ)J" } : Jvm.MethodName) prog_11_method_8_code (3 : Nat) (Option.some Jvm.ClassFile.FieldType.long)) ∈ lw_g := lw_g_mem (List.mem_of_getElem? (i := 917) (by decide +kernel)) (by decide +kernel)
theorem wd_918 : (Jvm.Cond.constant "OneBitLoopModel" (110 : Nat) (2147483647 : Int32)) ∈ lw_g := lw_g_mem (List.mem_of_getElem? (i := 918) (by decide +kernel)) (by decide +kernel)
theorem wd_919 : (Jvm.Cond.constant "OneBitLoopModel" (111 : Nat) (2139095040 : Int32)) ∈ lw_g := lw_g_mem (List.mem_of_getElem? (i := 919) (by decide +kernel)) (by decide +kernel)
theorem wd_920 : (Jvm.Cond.constantLong "OneBitLoopModel" (112 : Nat) (2143289344 : Int64)) ∈ lw_g := lw_g_mem (List.mem_of_getElem? (i := 920) (by decide +kernel)) (by decide +kernel)
theorem wd_921 : (Jvm.Cond.constantLong "OneBitLoopModel" (114 : Nat) (9223372036854775807 : Int64)) ∈ lw_g := lw_g_mem (List.mem_of_getElem? (i := 921) (by decide +kernel)) (by decide +kernel)
theorem wd_922 : (Jvm.Cond.constantLong "OneBitLoopModel" (116 : Nat) (9218868437227405312 : Int64)) ∈ lw_g := lw_g_mem (List.mem_of_getElem? (i := 922) (by decide +kernel)) (by decide +kernel)
theorem wd_923 : (Jvm.Cond.constantLong "OneBitLoopModel" (118 : Nat) (9221120237041090560 : Int64)) ∈ lw_g := lw_g_mem (List.mem_of_getElem? (i := 923) (by decide +kernel)) (by decide +kernel)
theorem wd_925 : (Jvm.Cond.instanceMethod ({ cls := "OneBitLoopModel", name := "get", desc := "(III)J" } : Jvm.MethodName)) ∈ lw_g := lw_g_mem (List.mem_of_getElem? (i := 925) (by decide +kernel)) (by decide +kernel)
theorem wd_926 : (Jvm.Cond.selects "OneBitLoopModel" ({ cls := "OneBitLoopModel", name := "get", desc := "(III)J" } : Jvm.MethodName) ({ cls := "OneBitLoopModel", name := "get", desc := "(III)J" } : Jvm.MethodName)) ∈ lw_g := lw_g_mem (List.mem_of_getElem? (i := 926) (by decide +kernel)) (by decide +kernel)
theorem wd_927 : (Jvm.Cond.code ({ cls := "OneBitLoopModel", name := "get", desc := "(III)J" } : Jvm.MethodName) prog_11_method_11_code (6 : Nat) (Option.some Jvm.ClassFile.FieldType.long)) ∈ lw_g := lw_g_mem (List.mem_of_getElem? (i := 927) (by decide +kernel)) (by decide +kernel)
theorem wd_929 : (Jvm.Cond.instanceMethod ({ cls := "OneBitLoopModel", name := "copy", desc := "(IIIII)I" } : Jvm.MethodName)) ∈ lw_g := lw_g_mem (List.mem_of_getElem? (i := 929) (by decide +kernel)) (by decide +kernel)
theorem wd_930 : (Jvm.Cond.selects "OneBitLoopModel" ({ cls := "OneBitLoopModel", name := "copy", desc := "(IIIII)I" } : Jvm.MethodName) ({ cls := "OneBitLoopModel", name := "copy", desc := "(IIIII)I" } : Jvm.MethodName)) ∈ lw_g := lw_g_mem (List.mem_of_getElem? (i := 930) (by decide +kernel)) (by decide +kernel)
theorem wd_931 : (Jvm.Cond.code ({ cls := "OneBitLoopModel", name := "copy", desc := "(IIIII)I" } : Jvm.MethodName) prog_11_method_12_code (7 : Nat) (Option.some Jvm.ClassFile.FieldType.int)) ∈ lw_g := lw_g_mem (List.mem_of_getElem? (i := 931) (by decide +kernel)) (by decide +kernel)
theorem wd_933 : (Jvm.Cond.instanceMethod ({ cls := "OneBitLoopModel", name := "sample", desc := "(II)J" } : Jvm.MethodName)) ∈ lw_g := lw_g_mem (List.mem_of_getElem? (i := 933) (by decide +kernel)) (by decide +kernel)
theorem wd_934 : (Jvm.Cond.selects "OneBitLoopModel" ({ cls := "OneBitLoopModel", name := "sample", desc := "(II)J" } : Jvm.MethodName) ({ cls := "OneBitLoopModel", name := "sample", desc := "(II)J" } : Jvm.MethodName)) ∈ lw_g := lw_g_mem (List.mem_of_getElem? (i := 934) (by decide +kernel)) (by decide +kernel)
theorem wd_935 : (Jvm.Cond.code ({ cls := "OneBitLoopModel", name := "sample", desc := "(II)J" } : Jvm.MethodName) prog_11_method_14_code (5 : Nat) (Option.some Jvm.ClassFile.FieldType.long)) ∈ lw_g := lw_g_mem (List.mem_of_getElem? (i := 935) (by decide +kernel)) (by decide +kernel)
theorem wd_936 : (Jvm.Cond.methodLink "OneBitLoopModel" (148 : Nat) ({ cls := "OneBitLoopModel", name := "sampleOf", desc := "(II)J" } : Jvm.MethodName)) ∈ lw_g := lw_g_mem (List.mem_of_getElem? (i := 936) (by decide +kernel)) (by decide +kernel)
theorem wd_938 : (Jvm.Cond.instanceMethod ({ cls := "OneBitLoopModel", name := "sampleOf", desc := "(II)J" } : Jvm.MethodName)) ∈ lw_g := lw_g_mem (List.mem_of_getElem? (i := 938) (by decide +kernel)) (by decide +kernel)
theorem wd_939 : (Jvm.Cond.code ({ cls := "OneBitLoopModel", name := "sampleOf", desc := "(II)J" } : Jvm.MethodName) prog_11_method_13_code (7 : Nat) (Option.some Jvm.ClassFile.FieldType.long)) ∈ lw_g := lw_g_mem (List.mem_of_getElem? (i := 939) (by decide +kernel)) (by decide +kernel)
theorem wd_940 : (Jvm.Cond.constant "OneBitLoopModel" (128 : Nat) (2143289344 : Int32)) ∈ lw_g := lw_g_mem (List.mem_of_getElem? (i := 940) (by decide +kernel)) (by decide +kernel)
theorem wd_941 : (Jvm.Cond.methodLink "OneBitLoopModel" (132 : Nat) ({ cls := "java/lang/Float", name := "intBitsToFloat", desc := "(I)F" } : Jvm.MethodName)) ∈ lw_g := lw_g_mem (List.mem_of_getElem? (i := 941) (by decide +kernel)) (by decide +kernel)
theorem wd_942 : (Jvm.Cond.static ({ cls := "java/lang/Float", name := "intBitsToFloat", desc := "(I)F" } : Jvm.MethodName)) ∈ lw_g := lw_g_mem (List.mem_of_getElem? (i := 942) (by decide +kernel)) (by decide +kernel)
theorem wd_943 : (Jvm.Cond.native ({ cls := "java/lang/Float", name := "intBitsToFloat", desc := "(I)F" } : Jvm.MethodName)) ∈ lw_g := lw_g_mem (List.mem_of_getElem? (i := 943) (by decide +kernel)) (by decide +kernel)
theorem wd_944 : (Jvm.Cond.methodLink "OneBitLoopModel" (138 : Nat) ({ cls := "java/lang/Double", name := "longBitsToDouble", desc := "(J)D" } : Jvm.MethodName)) ∈ lw_g := lw_g_mem (List.mem_of_getElem? (i := 944) (by decide +kernel)) (by decide +kernel)
theorem wd_945 : (Jvm.Cond.static ({ cls := "java/lang/Double", name := "longBitsToDouble", desc := "(J)D" } : Jvm.MethodName)) ∈ lw_g := lw_g_mem (List.mem_of_getElem? (i := 945) (by decide +kernel)) (by decide +kernel)
theorem wd_946 : (Jvm.Cond.native ({ cls := "java/lang/Double", name := "longBitsToDouble", desc := "(J)D" } : Jvm.MethodName)) ∈ lw_g := lw_g_mem (List.mem_of_getElem? (i := 946) (by decide +kernel)) (by decide +kernel)
theorem wd_947 : (Jvm.Cond.constantLong "OneBitLoopModel" (144 : Nat) (1000000000000 : Int64)) ∈ lw_g := lw_g_mem (List.mem_of_getElem? (i := 947) (by decide +kernel)) (by decide +kernel)
theorem wd_948 : (Jvm.Cond.constantLong "OneBitLoopModel" (146 : Nat) (-1000000000000 : Int64)) ∈ lw_g := lw_g_mem (List.mem_of_getElem? (i := 948) (by decide +kernel)) (by decide +kernel)
theorem wd_950 : (Jvm.Cond.instanceMethod ({ cls := "OneBitLoopModel", name := "stage", desc := "(IJI)I" } : Jvm.MethodName)) ∈ lw_g := lw_g_mem (List.mem_of_getElem? (i := 950) (by decide +kernel)) (by decide +kernel)
theorem wd_951 : (Jvm.Cond.selects "OneBitLoopModel" ({ cls := "OneBitLoopModel", name := "stage", desc := "(IJI)I" } : Jvm.MethodName) ({ cls := "OneBitLoopModel", name := "stage", desc := "(IJI)I" } : Jvm.MethodName)) ∈ lw_g := lw_g_mem (List.mem_of_getElem? (i := 951) (by decide +kernel)) (by decide +kernel)
theorem wd_952 : (Jvm.Cond.code ({ cls := "OneBitLoopModel", name := "stage", desc := "(IJI)I" } : Jvm.MethodName) prog_11_method_15_code (7 : Nat) (Option.some Jvm.ClassFile.FieldType.int)) ∈ lw_g := lw_g_mem (List.mem_of_getElem? (i := 952) (by decide +kernel)) (by decide +kernel)
theorem wd_953 : (Jvm.Cond.constantLong "OneBitLoopModel" (152 : Nat) (256 : Int64)) ∈ lw_g := lw_g_mem (List.mem_of_getElem? (i := 953) (by decide +kernel)) (by decide +kernel)
theorem wd_954 : (Jvm.Cond.constantLong "OneBitLoopModel" (154 : Nat) (1000000000000000 : Int64)) ∈ lw_g := lw_g_mem (List.mem_of_getElem? (i := 954) (by decide +kernel)) (by decide +kernel)
theorem wd_955 : (Jvm.Cond.constantLong "OneBitLoopModel" (156 : Nat) (-100 : Int64)) ∈ lw_g := lw_g_mem (List.mem_of_getElem? (i := 955) (by decide +kernel)) (by decide +kernel)
theorem wd_956 : (Jvm.Cond.constantLong "OneBitLoopModel" (158 : Nat) (100 : Int64)) ∈ lw_g := lw_g_mem (List.mem_of_getElem? (i := 956) (by decide +kernel)) (by decide +kernel)
theorem wd_958 : (Jvm.Cond.instanceMethod ({ cls := "OneBitLoopModel", name := "levels", desc := "(IJJ)I" } : Jvm.MethodName)) ∈ lw_g := lw_g_mem (List.mem_of_getElem? (i := 958) (by decide +kernel)) (by decide +kernel)
theorem wd_959 : (Jvm.Cond.selects "OneBitLoopModel" ({ cls := "OneBitLoopModel", name := "levels", desc := "(IJJ)I" } : Jvm.MethodName) ({ cls := "OneBitLoopModel", name := "levels", desc := "(IJJ)I" } : Jvm.MethodName)) ∈ lw_g := lw_g_mem (List.mem_of_getElem? (i := 959) (by decide +kernel)) (by decide +kernel)
theorem wd_960 : (Jvm.Cond.code ({ cls := "OneBitLoopModel", name := "levels", desc := "(IJJ)I" } : Jvm.MethodName) prog_11_method_17_code (7 : Nat) (Option.some Jvm.ClassFile.FieldType.int)) ∈ lw_g := lw_g_mem (List.mem_of_getElem? (i := 960) (by decide +kernel)) (by decide +kernel)
theorem wd_961 : (Jvm.Cond.constantLong "OneBitLoopModel" (163 : Nat) (2 : Int64)) ∈ lw_g := lw_g_mem (List.mem_of_getElem? (i := 961) (by decide +kernel)) (by decide +kernel)
theorem wd_962 : (Jvm.Cond.constantLong "OneBitLoopModel" (165 : Nat) (16 : Int64)) ∈ lw_g := lw_g_mem (List.mem_of_getElem? (i := 962) (by decide +kernel)) (by decide +kernel)
theorem wd_963 : (Jvm.Cond.methodLink "OneBitLoopModel" (167 : Nat) ({ cls := "OneBitLoopModel", name := "isSample", desc := "(J)Z" } : Jvm.MethodName)) ∈ lw_g := lw_g_mem (List.mem_of_getElem? (i := 963) (by decide +kernel)) (by decide +kernel)
theorem wd_964 : (Jvm.Cond.static ({ cls := "OneBitLoopModel", name := "isSample", desc := "(J)Z" } : Jvm.MethodName)) ∈ lw_g := lw_g_mem (List.mem_of_getElem? (i := 964) (by decide +kernel)) (by decide +kernel)
theorem wd_965 : (Jvm.Cond.code ({ cls := "OneBitLoopModel", name := "isSample", desc := "(J)Z" } : Jvm.MethodName) prog_11_method_16_code (2 : Nat) (Option.some Jvm.ClassFile.FieldType.boolean)) ∈ lw_g := lw_g_mem (List.mem_of_getElem? (i := 965) (by decide +kernel)) (by decide +kernel)
theorem wd_966 : (Jvm.Cond.constantLong "OneBitLoopModel" (171 : Nat) (1000000000 : Int64)) ∈ lw_g := lw_g_mem (List.mem_of_getElem? (i := 966) (by decide +kernel)) (by decide +kernel)
theorem wd_968 : (Jvm.Cond.instanceMethod ({ cls := "OneBitLoopModel", name := "level", desc := "(IJ)I" } : Jvm.MethodName)) ∈ lw_g := lw_g_mem (List.mem_of_getElem? (i := 968) (by decide +kernel)) (by decide +kernel)
theorem wd_969 : (Jvm.Cond.selects "OneBitLoopModel" ({ cls := "OneBitLoopModel", name := "level", desc := "(IJ)I" } : Jvm.MethodName) ({ cls := "OneBitLoopModel", name := "level", desc := "(IJ)I" } : Jvm.MethodName)) ∈ lw_g := lw_g_mem (List.mem_of_getElem? (i := 969) (by decide +kernel)) (by decide +kernel)
theorem wd_970 : (Jvm.Cond.code ({ cls := "OneBitLoopModel", name := "level", desc := "(IJ)I" } : Jvm.MethodName) prog_11_method_18_code (4 : Nat) (Option.some Jvm.ClassFile.FieldType.int)) ∈ lw_g := lw_g_mem (List.mem_of_getElem? (i := 970) (by decide +kernel)) (by decide +kernel)
theorem wd_972 : (Jvm.Cond.instanceMethod ({ cls := "OneBitLoopModel", name := "lot", desc := "(IJ)I" } : Jvm.MethodName)) ∈ lw_g := lw_g_mem (List.mem_of_getElem? (i := 972) (by decide +kernel)) (by decide +kernel)
theorem wd_973 : (Jvm.Cond.selects "OneBitLoopModel" ({ cls := "OneBitLoopModel", name := "lot", desc := "(IJ)I" } : Jvm.MethodName) ({ cls := "OneBitLoopModel", name := "lot", desc := "(IJ)I" } : Jvm.MethodName)) ∈ lw_g := lw_g_mem (List.mem_of_getElem? (i := 973) (by decide +kernel)) (by decide +kernel)
theorem wd_974 : (Jvm.Cond.code ({ cls := "OneBitLoopModel", name := "lot", desc := "(IJ)I" } : Jvm.MethodName) prog_11_method_19_code (4 : Nat) (Option.some Jvm.ClassFile.FieldType.int)) ∈ lw_g := lw_g_mem (List.mem_of_getElem? (i := 974) (by decide +kernel)) (by decide +kernel)
theorem wd_976 : (Jvm.Cond.instanceMethod ({ cls := "OneBitLoopModel", name := "step", desc := "(J)I" } : Jvm.MethodName)) ∈ lw_g := lw_g_mem (List.mem_of_getElem? (i := 976) (by decide +kernel)) (by decide +kernel)
theorem wd_977 : (Jvm.Cond.selects "OneBitLoopModel" ({ cls := "OneBitLoopModel", name := "step", desc := "(J)I" } : Jvm.MethodName) ({ cls := "OneBitLoopModel", name := "step", desc := "(J)I" } : Jvm.MethodName)) ∈ lw_g := lw_g_mem (List.mem_of_getElem? (i := 977) (by decide +kernel)) (by decide +kernel)
theorem wd_978 : (Jvm.Cond.code ({ cls := "OneBitLoopModel", name := "step", desc := "(J)I" } : Jvm.MethodName) prog_11_method_31_code (3 : Nat) (Option.some Jvm.ClassFile.FieldType.int)) ∈ lw_g := lw_g_mem (List.mem_of_getElem? (i := 978) (by decide +kernel)) (by decide +kernel)
theorem wd_979 : (Jvm.Cond.methodLink "OneBitLoopModel" (234 : Nat) ({ cls := "OneBitLoopModel", name := "does", desc := "(J)I" } : Jvm.MethodName)) ∈ lw_g := lw_g_mem (List.mem_of_getElem? (i := 979) (by decide +kernel)) (by decide +kernel)
theorem wd_981 : (Jvm.Cond.instanceMethod ({ cls := "OneBitLoopModel", name := "does", desc := "(J)I" } : Jvm.MethodName)) ∈ lw_g := lw_g_mem (List.mem_of_getElem? (i := 981) (by decide +kernel)) (by decide +kernel)
theorem wd_982 : (Jvm.Cond.code ({ cls := "OneBitLoopModel", name := "does", desc := "(J)I" } : Jvm.MethodName) prog_11_method_30_code (4 : Nat) (Option.some Jvm.ClassFile.FieldType.int)) ∈ lw_g := lw_g_mem (List.mem_of_getElem? (i := 982) (by decide +kernel)) (by decide +kernel)
theorem wd_983 : (Jvm.Cond.methodLink "OneBitLoopModel" (222 : Nat) ({ cls := "OneBitLoopModel", name := "take", desc := "()V" } : Jvm.MethodName)) ∈ lw_g := lw_g_mem (List.mem_of_getElem? (i := 983) (by decide +kernel)) (by decide +kernel)
theorem wd_985 : (Jvm.Cond.instanceMethod ({ cls := "OneBitLoopModel", name := "take", desc := "()V" } : Jvm.MethodName)) ∈ lw_g := lw_g_mem (List.mem_of_getElem? (i := 985) (by decide +kernel)) (by decide +kernel)
theorem wd_986 : (Jvm.Cond.code ({ cls := "OneBitLoopModel", name := "take", desc := "()V" } : Jvm.MethodName) prog_11_method_20_code (2 : Nat) (Option.none : Option Jvm.ClassFile.FieldType)) ∈ lw_g := lw_g_mem (List.mem_of_getElem? (i := 986) (by decide +kernel)) (by decide +kernel)
theorem wd_987 : (Jvm.Cond.methodLink "OneBitLoopModel" (225 : Nat) ({ cls := "OneBitLoopModel", name := "tries", desc := "(J)Z" } : Jvm.MethodName)) ∈ lw_g := lw_g_mem (List.mem_of_getElem? (i := 987) (by decide +kernel)) (by decide +kernel)
theorem wd_989 : (Jvm.Cond.instanceMethod ({ cls := "OneBitLoopModel", name := "tries", desc := "(J)Z" } : Jvm.MethodName)) ∈ lw_g := lw_g_mem (List.mem_of_getElem? (i := 989) (by decide +kernel)) (by decide +kernel)
theorem wd_990 : (Jvm.Cond.code ({ cls := "OneBitLoopModel", name := "tries", desc := "(J)Z" } : Jvm.MethodName) prog_11_method_29_code (10 : Nat) (Option.some Jvm.ClassFile.FieldType.boolean)) ∈ lw_g := lw_g_mem (List.mem_of_getElem? (i := 990) (by decide +kernel)) (by decide +kernel)
theorem wd_991 : (Jvm.Cond.constantLong "OneBitLoopModel" (203 : Nat) (6364136223846793005 : Int64)) ∈ lw_g := lw_g_mem (List.mem_of_getElem? (i := 991) (by decide +kernel)) (by decide +kernel)
theorem wd_992 : (Jvm.Cond.constantLong "OneBitLoopModel" (205 : Nat) (1442695040888963407 : Int64)) ∈ lw_g := lw_g_mem (List.mem_of_getElem? (i := 992) (by decide +kernel)) (by decide +kernel)
theorem wd_993 : (Jvm.Cond.methodLink "OneBitLoopModel" (207 : Nat) ({ cls := "OneBitLoopModel", name := "nearest", desc := "(J)I" } : Jvm.MethodName)) ∈ lw_g := lw_g_mem (List.mem_of_getElem? (i := 993) (by decide +kernel)) (by decide +kernel)
theorem wd_995 : (Jvm.Cond.instanceMethod ({ cls := "OneBitLoopModel", name := "nearest", desc := "(J)I" } : Jvm.MethodName)) ∈ lw_g := lw_g_mem (List.mem_of_getElem? (i := 995) (by decide +kernel)) (by decide +kernel)
theorem wd_996 : (Jvm.Cond.code ({ cls := "OneBitLoopModel", name := "nearest", desc := "(J)I" } : Jvm.MethodName) prog_11_method_28_code (9 : Nat) (Option.some Jvm.ClassFile.FieldType.int)) ∈ lw_g := lw_g_mem (List.mem_of_getElem? (i := 996) (by decide +kernel)) (by decide +kernel)
theorem wd_997 : (Jvm.Cond.methodLink "OneBitLoopModel" (214 : Nat) ({ cls := "OneBitLoopModel", name := "takes", desc := "(IJJJ)V" } : Jvm.MethodName)) ∈ lw_g := lw_g_mem (List.mem_of_getElem? (i := 997) (by decide +kernel)) (by decide +kernel)
theorem wd_999 : (Jvm.Cond.instanceMethod ({ cls := "OneBitLoopModel", name := "takes", desc := "(IJJJ)V" } : Jvm.MethodName)) ∈ lw_g := lw_g_mem (List.mem_of_getElem? (i := 999) (by decide +kernel)) (by decide +kernel)
theorem wd_1000 : (Jvm.Cond.code ({ cls := "OneBitLoopModel", name := "takes", desc := "(IJJJ)V" } : Jvm.MethodName) prog_11_method_27_code (8 : Nat) (Option.none : Option Jvm.ClassFile.FieldType)) ∈ lw_g := lw_g_mem (List.mem_of_getElem? (i := 1000) (by decide +kernel)) (by decide +kernel)
theorem wd_1001 : (Jvm.Cond.methodLink "OneBitLoopModel" (193 : Nat) ({ cls := "OneBitLoopModel", name := "plain", desc := "(IJJ)V" } : Jvm.MethodName)) ∈ lw_g := lw_g_mem (List.mem_of_getElem? (i := 1001) (by decide +kernel)) (by decide +kernel)
theorem wd_1003 : (Jvm.Cond.instanceMethod ({ cls := "OneBitLoopModel", name := "plain", desc := "(IJJ)V" } : Jvm.MethodName)) ∈ lw_g := lw_g_mem (List.mem_of_getElem? (i := 1003) (by decide +kernel)) (by decide +kernel)
theorem wd_1004 : (Jvm.Cond.code ({ cls := "OneBitLoopModel", name := "plain", desc := "(IJJ)V" } : Jvm.MethodName) prog_11_method_24_code (6 : Nat) (Option.none : Option Jvm.ClassFile.FieldType)) ∈ lw_g := lw_g_mem (List.mem_of_getElem? (i := 1004) (by decide +kernel)) (by decide +kernel)
theorem wd_1005 : (Jvm.Cond.methodLink "OneBitLoopModel" (189 : Nat) ({ cls := "OneBitLoopModel", name := "writes", desc := "(I)V" } : Jvm.MethodName)) ∈ lw_g := lw_g_mem (List.mem_of_getElem? (i := 1005) (by decide +kernel)) (by decide +kernel)
theorem wd_1007 : (Jvm.Cond.instanceMethod ({ cls := "OneBitLoopModel", name := "writes", desc := "(I)V" } : Jvm.MethodName)) ∈ lw_g := lw_g_mem (List.mem_of_getElem? (i := 1007) (by decide +kernel)) (by decide +kernel)
theorem wd_1008 : (Jvm.Cond.code ({ cls := "OneBitLoopModel", name := "writes", desc := "(I)V" } : Jvm.MethodName) prog_11_method_23_code (2 : Nat) (Option.none : Option Jvm.ClassFile.FieldType)) ∈ lw_g := lw_g_mem (List.mem_of_getElem? (i := 1008) (by decide +kernel)) (by decide +kernel)
theorem wd_1009 : (Jvm.Cond.methodLink "OneBitLoopModel" (197 : Nat) ({ cls := "OneBitLoopModel", name := "leaky", desc := "(IJJ)V" } : Jvm.MethodName)) ∈ lw_g := lw_g_mem (List.mem_of_getElem? (i := 1009) (by decide +kernel)) (by decide +kernel)
theorem wd_1011 : (Jvm.Cond.instanceMethod ({ cls := "OneBitLoopModel", name := "leaky", desc := "(IJJ)V" } : Jvm.MethodName)) ∈ lw_g := lw_g_mem (List.mem_of_getElem? (i := 1011) (by decide +kernel)) (by decide +kernel)
theorem wd_1012 : (Jvm.Cond.code ({ cls := "OneBitLoopModel", name := "leaky", desc := "(IJJ)V" } : Jvm.MethodName) prog_11_method_25_code (8 : Nat) (Option.none : Option Jvm.ClassFile.FieldType)) ∈ lw_g := lw_g_mem (List.mem_of_getElem? (i := 1012) (by decide +kernel)) (by decide +kernel)
theorem wd_1013 : (Jvm.Cond.methodLink "OneBitLoopModel" (200 : Nat) ({ cls := "OneBitLoopModel", name := "bounded", desc := "(IJJ)V" } : Jvm.MethodName)) ∈ lw_g := lw_g_mem (List.mem_of_getElem? (i := 1013) (by decide +kernel)) (by decide +kernel)
theorem wd_1015 : (Jvm.Cond.instanceMethod ({ cls := "OneBitLoopModel", name := "bounded", desc := "(IJJ)V" } : Jvm.MethodName)) ∈ lw_g := lw_g_mem (List.mem_of_getElem? (i := 1015) (by decide +kernel)) (by decide +kernel)
theorem wd_1016 : (Jvm.Cond.code ({ cls := "OneBitLoopModel", name := "bounded", desc := "(IJJ)V" } : Jvm.MethodName) prog_11_method_26_code (10 : Nat) (Option.none : Option Jvm.ClassFile.FieldType)) ∈ lw_g := lw_g_mem (List.mem_of_getElem? (i := 1016) (by decide +kernel)) (by decide +kernel)
theorem wd_1017 : (Jvm.Cond.constantLong "OneBitLoopModel" (218 : Nat) (-1125899906842623 : Int64)) ∈ lw_g := lw_g_mem (List.mem_of_getElem? (i := 1017) (by decide +kernel)) (by decide +kernel)
theorem wd_1018 : (Jvm.Cond.constantLong "OneBitLoopModel" (220 : Nat) (1125899906842623 : Int64)) ∈ lw_g := lw_g_mem (List.mem_of_getElem? (i := 1018) (by decide +kernel)) (by decide +kernel)
theorem wd_1019 : (Jvm.Cond.methodLink "OneBitLoopModel" (228 : Nat) ({ cls := "OneBitLoopModel", name := "lay", desc := "()V" } : Jvm.MethodName)) ∈ lw_g := lw_g_mem (List.mem_of_getElem? (i := 1019) (by decide +kernel)) (by decide +kernel)
theorem wd_1021 : (Jvm.Cond.instanceMethod ({ cls := "OneBitLoopModel", name := "lay", desc := "()V" } : Jvm.MethodName)) ∈ lw_g := lw_g_mem (List.mem_of_getElem? (i := 1021) (by decide +kernel)) (by decide +kernel)
theorem wd_1022 : (Jvm.Cond.code ({ cls := "OneBitLoopModel", name := "lay", desc := "()V" } : Jvm.MethodName) prog_11_method_22_code (2 : Nat) (Option.none : Option Jvm.ClassFile.FieldType)) ∈ lw_g := lw_g_mem (List.mem_of_getElem? (i := 1022) (by decide +kernel)) (by decide +kernel)
theorem wd_1024 : (Jvm.Cond.instanceMethod ({ cls := "OneBitLoopModel", name := "run", desc := "(III)I" } : Jvm.MethodName)) ∈ lw_g := lw_g_mem (List.mem_of_getElem? (i := 1024) (by decide +kernel)) (by decide +kernel)
theorem wd_1025 : (Jvm.Cond.selects "OneBitLoopModel" ({ cls := "OneBitLoopModel", name := "run", desc := "(III)I" } : Jvm.MethodName) ({ cls := "OneBitLoopModel", name := "run", desc := "(III)I" } : Jvm.MethodName)) ∈ lw_g := lw_g_mem (List.mem_of_getElem? (i := 1025) (by decide +kernel)) (by decide +kernel)
theorem wd_1026 : (Jvm.Cond.code ({ cls := "OneBitLoopModel", name := "run", desc := "(III)I" } : Jvm.MethodName) prog_11_method_32_code (7 : Nat) (Option.some Jvm.ClassFile.FieldType.int)) ∈ lw_g := lw_g_mem (List.mem_of_getElem? (i := 1026) (by decide +kernel)) (by decide +kernel)
theorem wd_1027 : (Jvm.Cond.constantLong "OneBitLoopModel" (237 : Nat) (300 : Int64)) ∈ lw_g := lw_g_mem (List.mem_of_getElem? (i := 1027) (by decide +kernel)) (by decide +kernel)
theorem wd_1029 : (Jvm.Cond.instanceMethod ({ cls := "OneBitLoopModel", name := "undo", desc := "(I)I" } : Jvm.MethodName)) ∈ lw_g := lw_g_mem (List.mem_of_getElem? (i := 1029) (by decide +kernel)) (by decide +kernel)
theorem wd_1030 : (Jvm.Cond.selects "OneBitLoopModel" ({ cls := "OneBitLoopModel", name := "undo", desc := "(I)I" } : Jvm.MethodName) ({ cls := "OneBitLoopModel", name := "undo", desc := "(I)I" } : Jvm.MethodName)) ∈ lw_g := lw_g_mem (List.mem_of_getElem? (i := 1030) (by decide +kernel)) (by decide +kernel)
theorem wd_1031 : (Jvm.Cond.code ({ cls := "OneBitLoopModel", name := "undo", desc := "(I)I" } : Jvm.MethodName) prog_11_method_33_code (4 : Nat) (Option.some Jvm.ClassFile.FieldType.int)) ∈ lw_g := lw_g_mem (List.mem_of_getElem? (i := 1031) (by decide +kernel)) (by decide +kernel)
theorem wd_1032 : (Jvm.Cond.methodLink "OneBitLoopModel" (239 : Nat) ({ cls := "OneBitLoopModel", name := "rest", desc := "()V" } : Jvm.MethodName)) ∈ lw_g := lw_g_mem (List.mem_of_getElem? (i := 1032) (by decide +kernel)) (by decide +kernel)
theorem wd_1034 : (Jvm.Cond.instanceMethod ({ cls := "OneBitLoopModel", name := "rest", desc := "()V" } : Jvm.MethodName)) ∈ lw_g := lw_g_mem (List.mem_of_getElem? (i := 1034) (by decide +kernel)) (by decide +kernel)
theorem wd_1035 : (Jvm.Cond.code ({ cls := "OneBitLoopModel", name := "rest", desc := "()V" } : Jvm.MethodName) prog_11_method_21_code (2 : Nat) (Option.none : Option Jvm.ClassFile.FieldType)) ∈ lw_g := lw_g_mem (List.mem_of_getElem? (i := 1035) (by decide +kernel)) (by decide +kernel)
theorem wd_1037 : (Jvm.Cond.instanceMethod ({ cls := "OneBitLoopModel", name := "clear", desc := "()I" } : Jvm.MethodName)) ∈ lw_g := lw_g_mem (List.mem_of_getElem? (i := 1037) (by decide +kernel)) (by decide +kernel)
theorem wd_1038 : (Jvm.Cond.selects "OneBitLoopModel" ({ cls := "OneBitLoopModel", name := "clear", desc := "()I" } : Jvm.MethodName) ({ cls := "OneBitLoopModel", name := "clear", desc := "()I" } : Jvm.MethodName)) ∈ lw_g := lw_g_mem (List.mem_of_getElem? (i := 1038) (by decide +kernel)) (by decide +kernel)
theorem wd_1039 : (Jvm.Cond.code ({ cls := "OneBitLoopModel", name := "clear", desc := "()I" } : Jvm.MethodName) prog_11_method_34_code (2 : Nat) (Option.some Jvm.ClassFile.FieldType.int)) ∈ lw_g := lw_g_mem (List.mem_of_getElem? (i := 1039) (by decide +kernel)) (by decide +kernel)
theorem wd_1041 : (Jvm.Cond.instanceMethod ({ cls := "OneBitLoopModel", name := "stageAt", desc := "(II)J" } : Jvm.MethodName)) ∈ lw_g := lw_g_mem (List.mem_of_getElem? (i := 1041) (by decide +kernel)) (by decide +kernel)
theorem wd_1042 : (Jvm.Cond.selects "OneBitLoopModel" ({ cls := "OneBitLoopModel", name := "stageAt", desc := "(II)J" } : Jvm.MethodName) ({ cls := "OneBitLoopModel", name := "stageAt", desc := "(II)J" } : Jvm.MethodName)) ∈ lw_g := lw_g_mem (List.mem_of_getElem? (i := 1042) (by decide +kernel)) (by decide +kernel)
theorem wd_1043 : (Jvm.Cond.code ({ cls := "OneBitLoopModel", name := "stageAt", desc := "(II)J" } : Jvm.MethodName) prog_11_method_35_code (3 : Nat) (Option.some Jvm.ClassFile.FieldType.long)) ∈ lw_g := lw_g_mem (List.mem_of_getElem? (i := 1043) (by decide +kernel)) (by decide +kernel)
theorem wd_1044 : (Jvm.Cond.constantLong "OneBitLoopModel" (242 : Nat) (6 : Int64)) ∈ lw_g := lw_g_mem (List.mem_of_getElem? (i := 1044) (by decide +kernel)) (by decide +kernel)
theorem wd_1045 : (Jvm.Cond.constantLong "OneBitLoopModel" (244 : Nat) (-9223372036854775808 : Int64)) ∈ lw_g := lw_g_mem (List.mem_of_getElem? (i := 1045) (by decide +kernel)) (by decide +kernel)
theorem wd_1047 : (Jvm.Cond.instanceMethod ({ cls := "OneBitLoopModel", name := "levelAt", desc := "(I)J" } : Jvm.MethodName)) ∈ lw_g := lw_g_mem (List.mem_of_getElem? (i := 1047) (by decide +kernel)) (by decide +kernel)
theorem wd_1048 : (Jvm.Cond.selects "OneBitLoopModel" ({ cls := "OneBitLoopModel", name := "levelAt", desc := "(I)J" } : Jvm.MethodName) ({ cls := "OneBitLoopModel", name := "levelAt", desc := "(I)J" } : Jvm.MethodName)) ∈ lw_g := lw_g_mem (List.mem_of_getElem? (i := 1048) (by decide +kernel)) (by decide +kernel)
theorem wd_1049 : (Jvm.Cond.code ({ cls := "OneBitLoopModel", name := "levelAt", desc := "(I)J" } : Jvm.MethodName) prog_11_method_36_code (2 : Nat) (Option.some Jvm.ClassFile.FieldType.long)) ∈ lw_g := lw_g_mem (List.mem_of_getElem? (i := 1049) (by decide +kernel)) (by decide +kernel)
theorem wd_1051 : (Jvm.Cond.instanceMethod ({ cls := "OneBitLoopModel", name := "record", desc := "(II)J" } : Jvm.MethodName)) ∈ lw_g := lw_g_mem (List.mem_of_getElem? (i := 1051) (by decide +kernel)) (by decide +kernel)
theorem wd_1052 : (Jvm.Cond.selects "OneBitLoopModel" ({ cls := "OneBitLoopModel", name := "record", desc := "(II)J" } : Jvm.MethodName) ({ cls := "OneBitLoopModel", name := "record", desc := "(II)J" } : Jvm.MethodName)) ∈ lw_g := lw_g_mem (List.mem_of_getElem? (i := 1052) (by decide +kernel)) (by decide +kernel)
theorem wd_1053 : (Jvm.Cond.code ({ cls := "OneBitLoopModel", name := "record", desc := "(II)J" } : Jvm.MethodName) prog_11_method_38_code (3 : Nat) (Option.some Jvm.ClassFile.FieldType.long)) ∈ lw_g := lw_g_mem (List.mem_of_getElem? (i := 1053) (by decide +kernel)) (by decide +kernel)
theorem wd_1054 : (Jvm.Cond.methodLink "OneBitLoopModel" (246 : Nat) ({ cls := "OneBitLoopModel", name := "isRecord", desc := "(II)Z" } : Jvm.MethodName)) ∈ lw_g := lw_g_mem (List.mem_of_getElem? (i := 1054) (by decide +kernel)) (by decide +kernel)
theorem wd_1056 : (Jvm.Cond.instanceMethod ({ cls := "OneBitLoopModel", name := "isRecord", desc := "(II)Z" } : Jvm.MethodName)) ∈ lw_g := lw_g_mem (List.mem_of_getElem? (i := 1056) (by decide +kernel)) (by decide +kernel)
theorem wd_1057 : (Jvm.Cond.code ({ cls := "OneBitLoopModel", name := "isRecord", desc := "(II)Z" } : Jvm.MethodName) prog_11_method_37_code (3 : Nat) (Option.some Jvm.ClassFile.FieldType.boolean)) ∈ lw_g := lw_g_mem (List.mem_of_getElem? (i := 1057) (by decide +kernel)) (by decide +kernel)
theorem wd_1059 : (Jvm.Cond.instanceMethod ({ cls := "OneBitLoopModel", name := "forge", desc := "(IIJ)I" } : Jvm.MethodName)) ∈ lw_g := lw_g_mem (List.mem_of_getElem? (i := 1059) (by decide +kernel)) (by decide +kernel)
theorem wd_1060 : (Jvm.Cond.selects "OneBitLoopModel" ({ cls := "OneBitLoopModel", name := "forge", desc := "(IIJ)I" } : Jvm.MethodName) ({ cls := "OneBitLoopModel", name := "forge", desc := "(IIJ)I" } : Jvm.MethodName)) ∈ lw_g := lw_g_mem (List.mem_of_getElem? (i := 1060) (by decide +kernel)) (by decide +kernel)
theorem wd_1061 : (Jvm.Cond.code ({ cls := "OneBitLoopModel", name := "forge", desc := "(IIJ)I" } : Jvm.MethodName) prog_11_method_39_code (5 : Nat) (Option.some Jvm.ClassFile.FieldType.int)) ∈ lw_g := lw_g_mem (List.mem_of_getElem? (i := 1061) (by decide +kernel)) (by decide +kernel)
theorem wd_1063 : (Jvm.Cond.instanceMethod ({ cls := "OneBitLoopModel", name := "check", desc := "()I" } : Jvm.MethodName)) ∈ lw_g := lw_g_mem (List.mem_of_getElem? (i := 1063) (by decide +kernel)) (by decide +kernel)
theorem wd_1064 : (Jvm.Cond.selects "OneBitLoopModel" ({ cls := "OneBitLoopModel", name := "check", desc := "()I" } : Jvm.MethodName) ({ cls := "OneBitLoopModel", name := "check", desc := "()I" } : Jvm.MethodName)) ∈ lw_g := lw_g_mem (List.mem_of_getElem? (i := 1064) (by decide +kernel)) (by decide +kernel)
theorem wd_1065 : (Jvm.Cond.code ({ cls := "OneBitLoopModel", name := "check", desc := "()I" } : Jvm.MethodName) prog_11_method_40_code (3 : Nat) (Option.some Jvm.ClassFile.FieldType.int)) ∈ lw_g := lw_g_mem (List.mem_of_getElem? (i := 1065) (by decide +kernel)) (by decide +kernel)
theorem wd_1067 : (Jvm.Cond.instanceMethod ({ cls := "OneBitLoopModel", name := "read", desc := "(I)J" } : Jvm.MethodName)) ∈ lw_g := lw_g_mem (List.mem_of_getElem? (i := 1067) (by decide +kernel)) (by decide +kernel)
theorem wd_1068 : (Jvm.Cond.selects "OneBitLoopModel" ({ cls := "OneBitLoopModel", name := "read", desc := "(I)J" } : Jvm.MethodName) ({ cls := "OneBitLoopModel", name := "read", desc := "(I)J" } : Jvm.MethodName)) ∈ lw_g := lw_g_mem (List.mem_of_getElem? (i := 1068) (by decide +kernel)) (by decide +kernel)
theorem wd_1069 : (Jvm.Cond.code ({ cls := "OneBitLoopModel", name := "read", desc := "(I)J" } : Jvm.MethodName) prog_11_method_41_code (5 : Nat) (Option.some Jvm.ClassFile.FieldType.long)) ∈ lw_g := lw_g_mem (List.mem_of_getElem? (i := 1069) (by decide +kernel)) (by decide +kernel)
theorem wd_1071 : (Jvm.Cond.instanceMethod ({ cls := "OneBitLoopModel", name := "weight", desc := "(II)I" } : Jvm.MethodName)) ∈ lw_g := lw_g_mem (List.mem_of_getElem? (i := 1071) (by decide +kernel)) (by decide +kernel)
theorem wd_1072 : (Jvm.Cond.selects "OneBitLoopModel" ({ cls := "OneBitLoopModel", name := "weight", desc := "(II)I" } : Jvm.MethodName) ({ cls := "OneBitLoopModel", name := "weight", desc := "(II)I" } : Jvm.MethodName)) ∈ lw_g := lw_g_mem (List.mem_of_getElem? (i := 1072) (by decide +kernel)) (by decide +kernel)
theorem wd_1073 : (Jvm.Cond.code ({ cls := "OneBitLoopModel", name := "weight", desc := "(II)I" } : Jvm.MethodName) prog_11_method_42_code (4 : Nat) (Option.some Jvm.ClassFile.FieldType.int)) ∈ lw_g := lw_g_mem (List.mem_of_getElem? (i := 1073) (by decide +kernel)) (by decide +kernel)
theorem wd_1074 : (Jvm.Cond.constantLong "OneBitLoopModel" (250 : Nat) (7 : Int64)) ∈ lw_g := lw_g_mem (List.mem_of_getElem? (i := 1074) (by decide +kernel)) (by decide +kernel)
theorem wd_1075 : (Jvm.Cond.constant "OneBitLoopModel" (252 : Nat) (-2147483648 : Int32)) ∈ lw_g := lw_g_mem (List.mem_of_getElem? (i := 1075) (by decide +kernel)) (by decide +kernel)
theorem wd_1077 : (Jvm.Cond.instanceMethod ({ cls := "OneBitLoopModel", name := "sums", desc := "(II)J" } : Jvm.MethodName)) ∈ lw_g := lw_g_mem (List.mem_of_getElem? (i := 1077) (by decide +kernel)) (by decide +kernel)
theorem wd_1078 : (Jvm.Cond.selects "OneBitLoopModel" ({ cls := "OneBitLoopModel", name := "sums", desc := "(II)J" } : Jvm.MethodName) ({ cls := "OneBitLoopModel", name := "sums", desc := "(II)J" } : Jvm.MethodName)) ∈ lw_g := lw_g_mem (List.mem_of_getElem? (i := 1078) (by decide +kernel)) (by decide +kernel)
theorem wd_1079 : (Jvm.Cond.code ({ cls := "OneBitLoopModel", name := "sums", desc := "(II)J" } : Jvm.MethodName) prog_11_method_43_code (5 : Nat) (Option.some Jvm.ClassFile.FieldType.long)) ∈ lw_g := lw_g_mem (List.mem_of_getElem? (i := 1079) (by decide +kernel)) (by decide +kernel)
theorem wd_1080 : (Jvm.Cond.constantLong "OneBitLoopModel" (253 : Nat) (4 : Int64)) ∈ lw_g := lw_g_mem (List.mem_of_getElem? (i := 1080) (by decide +kernel)) (by decide +kernel)
theorem wd_1082 : (Jvm.Cond.instanceMethod ({ cls := "OneBitLoopModel", name := "trace", desc := "(I)I" } : Jvm.MethodName)) ∈ lw_g := lw_g_mem (List.mem_of_getElem? (i := 1082) (by decide +kernel)) (by decide +kernel)
theorem wd_1083 : (Jvm.Cond.selects "OneBitLoopModel" ({ cls := "OneBitLoopModel", name := "trace", desc := "(I)I" } : Jvm.MethodName) ({ cls := "OneBitLoopModel", name := "trace", desc := "(I)I" } : Jvm.MethodName)) ∈ lw_g := lw_g_mem (List.mem_of_getElem? (i := 1083) (by decide +kernel)) (by decide +kernel)
theorem wd_1084 : (Jvm.Cond.code ({ cls := "OneBitLoopModel", name := "trace", desc := "(I)I" } : Jvm.MethodName) prog_11_method_44_code (2 : Nat) (Option.some Jvm.ClassFile.FieldType.int)) ∈ lw_g := lw_g_mem (List.mem_of_getElem? (i := 1084) (by decide +kernel)) (by decide +kernel)
theorem wd_1086 : (Jvm.Cond.instanceMethod ({ cls := "OneBitLoopModel", name := "hold", desc := "(JI)I" } : Jvm.MethodName)) ∈ lw_g := lw_g_mem (List.mem_of_getElem? (i := 1086) (by decide +kernel)) (by decide +kernel)
theorem wd_1087 : (Jvm.Cond.selects "OneBitLoopModel" ({ cls := "OneBitLoopModel", name := "hold", desc := "(JI)I" } : Jvm.MethodName) ({ cls := "OneBitLoopModel", name := "hold", desc := "(JI)I" } : Jvm.MethodName)) ∈ lw_g := lw_g_mem (List.mem_of_getElem? (i := 1087) (by decide +kernel)) (by decide +kernel)
theorem wd_1088 : (Jvm.Cond.code ({ cls := "OneBitLoopModel", name := "hold", desc := "(JI)I" } : Jvm.MethodName) prog_11_method_47_code (7 : Nat) (Option.some Jvm.ClassFile.FieldType.int)) ∈ lw_g := lw_g_mem (List.mem_of_getElem? (i := 1088) (by decide +kernel)) (by decide +kernel)
theorem wd_1089 : (Jvm.Cond.constantLong "OneBitLoopModel" (255 : Nat) (400 : Int64)) ∈ lw_g := lw_g_mem (List.mem_of_getElem? (i := 1089) (by decide +kernel)) (by decide +kernel)
theorem wd_1090 : (Jvm.Cond.methodLink "OneBitLoopModel" (257 : Nat) ({ cls := "OneBitLoopModel", name := "stands", desc := "(I)V" } : Jvm.MethodName)) ∈ lw_g := lw_g_mem (List.mem_of_getElem? (i := 1090) (by decide +kernel)) (by decide +kernel)
theorem wd_1092 : (Jvm.Cond.instanceMethod ({ cls := "OneBitLoopModel", name := "stands", desc := "(I)V" } : Jvm.MethodName)) ∈ lw_g := lw_g_mem (List.mem_of_getElem? (i := 1092) (by decide +kernel)) (by decide +kernel)
theorem wd_1093 : (Jvm.Cond.code ({ cls := "OneBitLoopModel", name := "stands", desc := "(I)V" } : Jvm.MethodName) prog_11_method_45_code (3 : Nat) (Option.none : Option Jvm.ClassFile.FieldType)) ∈ lw_g := lw_g_mem (List.mem_of_getElem? (i := 1093) (by decide +kernel)) (by decide +kernel)
theorem wd_1094 : (Jvm.Cond.methodLink "OneBitLoopModel" (260 : Nat) ({ cls := "OneBitLoopModel", name := "isAlike", desc := "(II)Z" } : Jvm.MethodName)) ∈ lw_g := lw_g_mem (List.mem_of_getElem? (i := 1094) (by decide +kernel)) (by decide +kernel)
theorem wd_1096 : (Jvm.Cond.instanceMethod ({ cls := "OneBitLoopModel", name := "isAlike", desc := "(II)Z" } : Jvm.MethodName)) ∈ lw_g := lw_g_mem (List.mem_of_getElem? (i := 1096) (by decide +kernel)) (by decide +kernel)
theorem wd_1097 : (Jvm.Cond.code ({ cls := "OneBitLoopModel", name := "isAlike", desc := "(II)Z" } : Jvm.MethodName) prog_11_method_46_code (5 : Nat) (Option.some Jvm.ClassFile.FieldType.boolean)) ∈ lw_g := lw_g_mem (List.mem_of_getElem? (i := 1097) (by decide +kernel)) (by decide +kernel)
theorem wd_1099 : (Jvm.Cond.instanceMethod ({ cls := "OneBitLoopModel", name := "held", desc := "(I)J" } : Jvm.MethodName)) ∈ lw_g := lw_g_mem (List.mem_of_getElem? (i := 1099) (by decide +kernel)) (by decide +kernel)
theorem wd_1100 : (Jvm.Cond.selects "OneBitLoopModel" ({ cls := "OneBitLoopModel", name := "held", desc := "(I)J" } : Jvm.MethodName) ({ cls := "OneBitLoopModel", name := "held", desc := "(I)J" } : Jvm.MethodName)) ∈ lw_g := lw_g_mem (List.mem_of_getElem? (i := 1100) (by decide +kernel)) (by decide +kernel)
theorem wd_1101 : (Jvm.Cond.code ({ cls := "OneBitLoopModel", name := "held", desc := "(I)J" } : Jvm.MethodName) prog_11_method_48_code (2 : Nat) (Option.some Jvm.ClassFile.FieldType.long)) ∈ lw_g := lw_g_mem (List.mem_of_getElem? (i := 1101) (by decide +kernel)) (by decide +kernel)
theorem wd_1103 : (Jvm.Cond.instanceMethod ({ cls := "OneBitLoopModel", name := "reach", desc := "(JJJ)I" } : Jvm.MethodName)) ∈ lw_g := lw_g_mem (List.mem_of_getElem? (i := 1103) (by decide +kernel)) (by decide +kernel)
theorem wd_1104 : (Jvm.Cond.selects "OneBitLoopModel" ({ cls := "OneBitLoopModel", name := "reach", desc := "(JJJ)I" } : Jvm.MethodName) ({ cls := "OneBitLoopModel", name := "reach", desc := "(JJJ)I" } : Jvm.MethodName)) ∈ lw_g := lw_g_mem (List.mem_of_getElem? (i := 1104) (by decide +kernel)) (by decide +kernel)
theorem wd_1105 : (Jvm.Cond.code ({ cls := "OneBitLoopModel", name := "reach", desc := "(JJJ)I" } : Jvm.MethodName) prog_11_method_51_code (15 : Nat) (Option.some Jvm.ClassFile.FieldType.int)) ∈ lw_g := lw_g_mem (List.mem_of_getElem? (i := 1105) (by decide +kernel)) (by decide +kernel)
theorem wd_1106 : (Jvm.Cond.methodLink "OneBitLoopModel" (266 : Nat) ({ cls := "OneBitLoopModel", name := "mayReach", desc := "()Z" } : Jvm.MethodName)) ∈ lw_g := lw_g_mem (List.mem_of_getElem? (i := 1106) (by decide +kernel)) (by decide +kernel)
theorem wd_1108 : (Jvm.Cond.instanceMethod ({ cls := "OneBitLoopModel", name := "mayReach", desc := "()Z" } : Jvm.MethodName)) ∈ lw_g := lw_g_mem (List.mem_of_getElem? (i := 1108) (by decide +kernel)) (by decide +kernel)
theorem wd_1109 : (Jvm.Cond.code ({ cls := "OneBitLoopModel", name := "mayReach", desc := "()Z" } : Jvm.MethodName) prog_11_method_50_code (3 : Nat) (Option.some Jvm.ClassFile.FieldType.boolean)) ∈ lw_g := lw_g_mem (List.mem_of_getElem? (i := 1109) (by decide +kernel)) (by decide +kernel)
theorem wd_1110 : (Jvm.Cond.methodLink "OneBitLoopModel" (272 : Nat) ({ cls := "OneBitLoopModel", name := "tellRow", desc := "(IJ)V" } : Jvm.MethodName)) ∈ lw_g := lw_g_mem (List.mem_of_getElem? (i := 1110) (by decide +kernel)) (by decide +kernel)
theorem wd_1112 : (Jvm.Cond.instanceMethod ({ cls := "OneBitLoopModel", name := "tellRow", desc := "(IJ)V" } : Jvm.MethodName)) ∈ lw_g := lw_g_mem (List.mem_of_getElem? (i := 1112) (by decide +kernel)) (by decide +kernel)
theorem wd_1113 : (Jvm.Cond.code ({ cls := "OneBitLoopModel", name := "tellRow", desc := "(IJ)V" } : Jvm.MethodName) prog_11_method_49_code (7 : Nat) (Option.none : Option Jvm.ClassFile.FieldType)) ∈ lw_g := lw_g_mem (List.mem_of_getElem? (i := 1113) (by decide +kernel)) (by decide +kernel)
theorem wd_1115 : (Jvm.Cond.instanceMethod ({ cls := "OneBitLoopModel", name := "leaving", desc := "(I)J" } : Jvm.MethodName)) ∈ lw_g := lw_g_mem (List.mem_of_getElem? (i := 1115) (by decide +kernel)) (by decide +kernel)
theorem wd_1116 : (Jvm.Cond.selects "OneBitLoopModel" ({ cls := "OneBitLoopModel", name := "leaving", desc := "(I)J" } : Jvm.MethodName) ({ cls := "OneBitLoopModel", name := "leaving", desc := "(I)J" } : Jvm.MethodName)) ∈ lw_g := lw_g_mem (List.mem_of_getElem? (i := 1116) (by decide +kernel)) (by decide +kernel)
theorem wd_1117 : (Jvm.Cond.code ({ cls := "OneBitLoopModel", name := "leaving", desc := "(I)J" } : Jvm.MethodName) prog_11_method_52_code (2 : Nat) (Option.some Jvm.ClassFile.FieldType.long)) ∈ lw_g := lw_g_mem (List.mem_of_getElem? (i := 1117) (by decide +kernel)) (by decide +kernel)
theorem wd_1119 : (Jvm.Cond.instanceMethod ({ cls := "OneBitLoopModel", name := "worst", desc := "(IJJ)J" } : Jvm.MethodName)) ∈ lw_g := lw_g_mem (List.mem_of_getElem? (i := 1119) (by decide +kernel)) (by decide +kernel)
theorem wd_1120 : (Jvm.Cond.selects "OneBitLoopModel" ({ cls := "OneBitLoopModel", name := "worst", desc := "(IJJ)J" } : Jvm.MethodName) ({ cls := "OneBitLoopModel", name := "worst", desc := "(IJJ)J" } : Jvm.MethodName)) ∈ lw_g := lw_g_mem (List.mem_of_getElem? (i := 1120) (by decide +kernel)) (by decide +kernel)
theorem wd_1121 : (Jvm.Cond.code ({ cls := "OneBitLoopModel", name := "worst", desc := "(IJJ)J" } : Jvm.MethodName) prog_11_method_54_code (14 : Nat) (Option.some Jvm.ClassFile.FieldType.long)) ∈ lw_g := lw_g_mem (List.mem_of_getElem? (i := 1121) (by decide +kernel)) (by decide +kernel)
theorem wd_1122 : (Jvm.Cond.constantLong "OneBitLoopModel" (279 : Nat) (12 : Int64)) ∈ lw_g := lw_g_mem (List.mem_of_getElem? (i := 1122) (by decide +kernel)) (by decide +kernel)
theorem wd_1123 : (Jvm.Cond.methodLink "OneBitLoopModel" (281 : Nat) ({ cls := "OneBitLoopModel", name := "refuses", desc := "(I)J" } : Jvm.MethodName)) ∈ lw_g := lw_g_mem (List.mem_of_getElem? (i := 1123) (by decide +kernel)) (by decide +kernel)
theorem wd_1125 : (Jvm.Cond.instanceMethod ({ cls := "OneBitLoopModel", name := "refuses", desc := "(I)J" } : Jvm.MethodName)) ∈ lw_g := lw_g_mem (List.mem_of_getElem? (i := 1125) (by decide +kernel)) (by decide +kernel)
theorem wd_1126 : (Jvm.Cond.code ({ cls := "OneBitLoopModel", name := "refuses", desc := "(I)J" } : Jvm.MethodName) prog_11_method_53_code (2 : Nat) (Option.some Jvm.ClassFile.FieldType.long)) ∈ lw_g := lw_g_mem (List.mem_of_getElem? (i := 1126) (by decide +kernel)) (by decide +kernel)
theorem wd_1128 : (Jvm.Cond.instanceMethod ({ cls := "OneBitLoopModel", name := "worstAt", desc := "(I)J" } : Jvm.MethodName)) ∈ lw_g := lw_g_mem (List.mem_of_getElem? (i := 1128) (by decide +kernel)) (by decide +kernel)
theorem wd_1129 : (Jvm.Cond.selects "OneBitLoopModel" ({ cls := "OneBitLoopModel", name := "worstAt", desc := "(I)J" } : Jvm.MethodName) ({ cls := "OneBitLoopModel", name := "worstAt", desc := "(I)J" } : Jvm.MethodName)) ∈ lw_g := lw_g_mem (List.mem_of_getElem? (i := 1129) (by decide +kernel)) (by decide +kernel)
theorem wd_1130 : (Jvm.Cond.code ({ cls := "OneBitLoopModel", name := "worstAt", desc := "(I)J" } : Jvm.MethodName) prog_11_method_55_code (2 : Nat) (Option.some Jvm.ClassFile.FieldType.long)) ∈ lw_g := lw_g_mem (List.mem_of_getElem? (i := 1130) (by decide +kernel)) (by decide +kernel)
theorem wd_1132 : (Jvm.Cond.instanceMethod ({ cls := "OneBitLoopModel", name := "count", desc := "(I)I" } : Jvm.MethodName)) ∈ lw_g := lw_g_mem (List.mem_of_getElem? (i := 1132) (by decide +kernel)) (by decide +kernel)
theorem wd_1133 : (Jvm.Cond.selects "OneBitLoopModel" ({ cls := "OneBitLoopModel", name := "count", desc := "(I)I" } : Jvm.MethodName) ({ cls := "OneBitLoopModel", name := "count", desc := "(I)I" } : Jvm.MethodName)) ∈ lw_g := lw_g_mem (List.mem_of_getElem? (i := 1133) (by decide +kernel)) (by decide +kernel)
theorem wd_1134 : (Jvm.Cond.code ({ cls := "OneBitLoopModel", name := "count", desc := "(I)I" } : Jvm.MethodName) prog_11_method_56_code (2 : Nat) (Option.some Jvm.ClassFile.FieldType.int)) ∈ lw_g := lw_g_mem (List.mem_of_getElem? (i := 1134) (by decide +kernel)) (by decide +kernel)
theorem wd_1136 : (Jvm.Cond.instanceMethod ({ cls := "OneBitLoopModel", name := "digest", desc := "()J" } : Jvm.MethodName)) ∈ lw_g := lw_g_mem (List.mem_of_getElem? (i := 1136) (by decide +kernel)) (by decide +kernel)
theorem wd_1137 : (Jvm.Cond.selects "OneBitLoopModel" ({ cls := "OneBitLoopModel", name := "digest", desc := "()J" } : Jvm.MethodName) ({ cls := "OneBitLoopModel", name := "digest", desc := "()J" } : Jvm.MethodName)) ∈ lw_g := lw_g_mem (List.mem_of_getElem? (i := 1137) (by decide +kernel)) (by decide +kernel)
theorem wd_1138 : (Jvm.Cond.code ({ cls := "OneBitLoopModel", name := "digest", desc := "()J" } : Jvm.MethodName) prog_11_method_57_code (5 : Nat) (Option.some Jvm.ClassFile.FieldType.long)) ∈ lw_g := lw_g_mem (List.mem_of_getElem? (i := 1138) (by decide +kernel)) (by decide +kernel)
theorem wd_1139 : (Jvm.Cond.constantLong "OneBitLoopModel" (288 : Nat) (17 : Int64)) ∈ lw_g := lw_g_mem (List.mem_of_getElem? (i := 1139) (by decide +kernel)) (by decide +kernel)
theorem wd_1140 : (Jvm.Cond.constantLong "OneBitLoopModel" (290 : Nat) (31 : Int64)) ∈ lw_g := lw_g_mem (List.mem_of_getElem? (i := 1140) (by decide +kernel)) (by decide +kernel)
theorem wd_1141 : (Jvm.Cond.methodLink "OneBitLoopModel" (292 : Nat) ({ cls := "OneBitLoopModel", name := "stageAt", desc := "(II)J" } : Jvm.MethodName)) ∈ lw_g := lw_g_mem (List.mem_of_getElem? (i := 1141) (by decide +kernel)) (by decide +kernel)
theorem in_X0 : ∀ w ∈ u_ws RX0 TX0 6, w ∈ lw_g := by decide +kernel
theorem in_X1 : ∀ w ∈ u_ws RX1 TX1 3, w ∈ lw_g := by decide +kernel
theorem in_X2 : ∀ w ∈ u_ws RX2 TX2 6, w ∈ lw_g := by decide +kernel
theorem in_X3 : ∀ w ∈ u_ws RX3 TX3 4, w ∈ lw_g := by decide +kernel
theorem in_X4 : ∀ w ∈ u_ws RX4 TX4 6, w ∈ lw_g := by decide +kernel
theorem in_X5 : ∀ w ∈ u_ws RX5 TX5 8, w ∈ lw_g := by decide +kernel
theorem in_X6 : ∀ w ∈ u_ws RX6 TX6 6, w ∈ lw_g := by decide +kernel
theorem in_X7 : ∀ w ∈ u_ws RX7 TX7 8, w ∈ lw_g := by decide +kernel
theorem in_X8 : ∀ w ∈ u_ws RX8 TX8 10, w ∈ lw_g := by decide +kernel
theorem in_X9 : ∀ w ∈ u_ws RX9 TX9 40, w ∈ lw_g := by decide +kernel
theorem cf_X0 : CF 0 RX0 TX0 6 := ⟨rfl, in_X0, ⟨tyX0, tyX0_ok⟩, nmX0⟩
theorem cf_X1 : CF 1 RX1 TX1 3 := ⟨rfl, in_X1, ⟨tyX1, tyX1_ok⟩, nmX1⟩
theorem cf_X2 : CF 2 RX2 TX2 6 := ⟨rfl, in_X2, ⟨tyX2, tyX2_ok⟩, nmX2⟩
theorem cf_X3 : CF 3 RX3 TX3 4 := ⟨rfl, in_X3, ⟨tyX3, tyX3_ok⟩, nmX3⟩
theorem cf_X4 : CF 4 RX4 TX4 6 := ⟨rfl, in_X4, ⟨tyX4, tyX4_ok⟩, nmX4⟩
theorem cf_X5 : CF 5 RX5 TX5 8 := ⟨rfl, in_X5, ⟨tyX5, tyX5_ok⟩, nmX5⟩
theorem cf_X6 : CF 6 RX6 TX6 6 := ⟨rfl, in_X6, ⟨tyX6, tyX6_ok⟩, nmX6⟩
theorem cf_X7 : CF 7 RX7 TX7 8 := ⟨rfl, in_X7, ⟨tyX7, tyX7_ok⟩, nmX7⟩
theorem cf_X8 : CF 8 RX8 TX8 10 := ⟨rfl, in_X8, ⟨tyX8, tyX8_ok⟩, nmX8⟩
theorem cf_X9 : CF 9 RX9 TX9 40 := ⟨rfl, in_X9, ⟨tyX9, tyX9_ok⟩, nmX9⟩
theorem fl_RX5_22 : FL RX5 22 5 3 := ⟨RX5, TX5, 8, rfl, by decide, in_X5, wd_104⟩
theorem fl_RX7_11 : FL RX7 11 7 1 := ⟨RX7, TX7, 8, rfl, by decide, in_X7, wd_290⟩
theorem fl_RX8_19 : FL RX8 19 8 1 := ⟨RX8, TX8, 10, rfl, by decide, in_X8, wd_319⟩
theorem fl_RX8_11 : FL RX8 11 8 0 := ⟨RX8, TX8, 10, rfl, by decide, in_X8, wd_318⟩
theorem fl_RX9_36 : FL RX9 36 9 11 := ⟨RX9, TX9, 40, rfl, by decide, in_X9, wd_777⟩
theorem fl_RX3_9 : FL RX3 9 3 0 := ⟨RX3, TX3, 4, rfl, by decide, in_X3, wd_72⟩
theorem fl_RX9_20 : FL RX9 20 9 3 := ⟨RX9, TX9, 40, rfl, by decide, in_X9, wd_769⟩
theorem fl_RX9_7 : FL RX9 7 9 0 := ⟨RX9, TX9, 40, rfl, by decide, in_X9, wd_766⟩
theorem fl_RX9_13 : FL RX9 13 9 1 := ⟨RX9, TX9, 40, rfl, by decide, in_X9, wd_767⟩
theorem fl_RX9_17 : FL RX9 17 9 2 := ⟨RX9, TX9, 40, rfl, by decide, in_X9, wd_768⟩
theorem fl_RX8_91 : FL RX8 91 3 1 := ⟨RX3, TX3, 4, rfl, by decide, in_X3, wd_75⟩
theorem fl_RX8_95 : FL RX8 95 3 3 := ⟨RX3, TX3, 4, rfl, by decide, in_X3, wd_79⟩
theorem fl_RX3_23 : FL RX3 23 3 3 := ⟨RX3, TX3, 4, rfl, by decide, in_X3, wd_78⟩
theorem fl_RX8_110 : FL RX8 110 3 2 := ⟨RX3, TX3, 4, rfl, by decide, in_X3, wd_77⟩
theorem fl_RX8_102 : FL RX8 102 3 0 := ⟨RX3, TX3, 4, rfl, by decide, in_X3, wd_73⟩
theorem fl_RX9_24 : FL RX9 24 9 4 := ⟨RX9, TX9, 40, rfl, by decide, in_X9, wd_770⟩
theorem fl_RX1_18 : FL RX1 18 1 2 := ⟨RX1, TX1, 3, rfl, by decide, in_X1, wd_153⟩
theorem fl_RX1_15 : FL RX1 15 1 1 := ⟨RX1, TX1, 3, rfl, by decide, in_X1, wd_151⟩
theorem fl_RX3_19 : FL RX3 19 3 2 := ⟨RX3, TX3, 4, rfl, by decide, in_X3, wd_76⟩
theorem fl_RX8_26 : FL RX8 26 8 2 := ⟨RX8, TX8, 10, rfl, by decide, in_X8, wd_320⟩
theorem fl_RX9_129 : FL RX9 129 9 16 := ⟨RX9, TX9, 40, rfl, by decide, in_X9, wd_782⟩
theorem fl_RX9_42 : FL RX9 42 9 17 := ⟨RX9, TX9, 40, rfl, by decide, in_X9, wd_783⟩
theorem fl_RX5_9 : FL RX5 9 5 0 := ⟨RX5, TX5, 8, rfl, by decide, in_X5, wd_97⟩
theorem fl_RX5_25 : FL RX5 25 5 4 := ⟨RX5, TX5, 8, rfl, by decide, in_X5, wd_109⟩
theorem fl_RX5_15 : FL RX5 15 5 1 := ⟨RX5, TX5, 8, rfl, by decide, in_X5, wd_100⟩
theorem fl_RX5_19 : FL RX5 19 5 2 := ⟨RX5, TX5, 8, rfl, by decide, in_X5, wd_102⟩
theorem fl_RX8_138 : FL RX8 138 1 2 := ⟨RX1, TX1, 3, rfl, by decide, in_X1, wd_154⟩
theorem fl_RX8_141 : FL RX8 141 5 4 := ⟨RX5, TX5, 8, rfl, by decide, in_X5, wd_115⟩
theorem fl_RX9_160 : FL RX9 160 9 6 := ⟨RX9, TX9, 40, rfl, by decide, in_X9, wd_772⟩
theorem fl_RX9_39 : FL RX9 39 9 14 := ⟨RX9, TX9, 40, rfl, by decide, in_X9, wd_780⟩
theorem fl_RX9_27 : FL RX9 27 9 7 := ⟨RX9, TX9, 40, rfl, by decide, in_X9, wd_773⟩
theorem fl_RX9_30 : FL RX9 30 9 8 := ⟨RX9, TX9, 40, rfl, by decide, in_X9, wd_774⟩
theorem fl_RX9_33 : FL RX9 33 9 9 := ⟨RX9, TX9, 40, rfl, by decide, in_X9, wd_775⟩
theorem fl_RX5_29 : FL RX5 29 5 5 := ⟨RX5, TX5, 8, rfl, by decide, in_X5, wd_116⟩
theorem fl_RX8_165 : FL RX8 165 5 3 := ⟨RX5, TX5, 8, rfl, by decide, in_X5, wd_108⟩
theorem fl_RX9_87 : FL RX9 87 9 10 := ⟨RX9, TX9, 40, rfl, by decide, in_X9, wd_776⟩
theorem fl_RX8_65 : FL RX8 65 8 7 := ⟨RX8, TX8, 10, rfl, by decide, in_X8, wd_325⟩
theorem fl_RX6_9 : FL RX6 9 6 1 := ⟨RX6, TX6, 6, rfl, by decide, in_X6, wd_259⟩
theorem fl_RX6_23 : FL RX6 23 6 4 := ⟨RX6, TX6, 6, rfl, by decide, in_X6, wd_269⟩
theorem fl_RX6_30 : FL RX6 30 6 0 := ⟨RX6, TX6, 6, rfl, by decide, in_X6, wd_256⟩
theorem fl_RX6_73 : FL RX6 73 5 6 := ⟨RX5, TX5, 8, rfl, by decide, in_X5, wd_119⟩
theorem fl_RX6_19 : FL RX6 19 6 3 := ⟨RX6, TX6, 6, rfl, by decide, in_X6, wd_267⟩
theorem fl_RX6_15 : FL RX6 15 6 2 := ⟨RX6, TX6, 6, rfl, by decide, in_X6, wd_265⟩
theorem fl_RX6_93 : FL RX6 93 5 2 := ⟨RX5, TX5, 8, rfl, by decide, in_X5, wd_103⟩
theorem fl_RX6_106 : FL RX6 106 5 1 := ⟨RX5, TX5, 8, rfl, by decide, in_X5, wd_101⟩
theorem fl_RX6_82 : FL RX6 82 5 0 := ⟨RX5, TX5, 8, rfl, by decide, in_X5, wd_98⟩
theorem fl_RX6_55 : FL RX6 55 5 4 := ⟨RX5, TX5, 8, rfl, by decide, in_X5, wd_112⟩
theorem fl_RX6_62 : FL RX6 62 5 3 := ⟨RX5, TX5, 8, rfl, by decide, in_X5, wd_106⟩
theorem fl_RX6_27 : FL RX6 27 6 5 := ⟨RX6, TX6, 6, rfl, by decide, in_X6, wd_272⟩
theorem fl_RX1_22 : FL RX1 22 6 0 := ⟨RX6, TX6, 6, rfl, by decide, in_X6, wd_258⟩
theorem fl_RX1_36 : FL RX1 36 5 4 := ⟨RX5, TX5, 8, rfl, by decide, in_X5, wd_114⟩
theorem fl_RX1_9 : FL RX1 9 1 0 := ⟨RX1, TX1, 3, rfl, by decide, in_X1, wd_149⟩
theorem fl_RX1_39 : FL RX1 39 6 1 := ⟨RX6, TX6, 6, rfl, by decide, in_X6, wd_263⟩
theorem fl_RX1_28 : FL RX1 28 5 3 := ⟨RX5, TX5, 8, rfl, by decide, in_X5, wd_107⟩
theorem fl_RX1_33 : FL RX1 33 6 5 := ⟨RX6, TX6, 6, rfl, by decide, in_X6, wd_274⟩
theorem fl_RX8_69 : FL RX8 69 8 8 := ⟨RX8, TX8, 10, rfl, by decide, in_X8, wd_326⟩
theorem fl_RX8_289 : FL RX8 289 6 5 := ⟨RX6, TX6, 6, rfl, by decide, in_X6, wd_275⟩
theorem fl_RX9_180 : FL RX9 180 9 15 := ⟨RX9, TX9, 40, rfl, by decide, in_X9, wd_781⟩
theorem fl_RX9_51 : FL RX9 51 9 21 := ⟨RX9, TX9, 40, rfl, by decide, in_X9, wd_787⟩
theorem fl_RX9_54 : FL RX9 54 9 25 := ⟨RX9, TX9, 40, rfl, by decide, in_X9, wd_791⟩
theorem fl_RX9_186 : FL RX9 186 9 24 := ⟨RX9, TX9, 40, rfl, by decide, in_X9, wd_790⟩
theorem fl_RX9_211 : FL RX9 211 9 23 := ⟨RX9, TX9, 40, rfl, by decide, in_X9, wd_789⟩
theorem fl_RX9_173 : FL RX9 173 9 12 := ⟨RX9, TX9, 40, rfl, by decide, in_X9, wd_778⟩
theorem fl_RX9_183 : FL RX9 183 9 22 := ⟨RX9, TX9, 40, rfl, by decide, in_X9, wd_788⟩
theorem fl_RX9_231 : FL RX9 231 9 19 := ⟨RX9, TX9, 40, rfl, by decide, in_X9, wd_785⟩
theorem fl_RX9_48 : FL RX9 48 9 20 := ⟨RX9, TX9, 40, rfl, by decide, in_X9, wd_786⟩
theorem fl_RX9_45 : FL RX9 45 9 18 := ⟨RX9, TX9, 40, rfl, by decide, in_X9, wd_784⟩
theorem fl_RX6_40 : FL RX6 40 5 7 := ⟨RX5, TX5, 8, rfl, by decide, in_X5, wd_123⟩
theorem fl_RX8_186 : FL RX8 186 1 1 := ⟨RX1, TX1, 3, rfl, by decide, in_X1, wd_152⟩
theorem fl_RX9_176 : FL RX9 176 9 13 := ⟨RX9, TX9, 40, rfl, by decide, in_X9, wd_779⟩
theorem fl_RX8_204 : FL RX8 204 6 1 := ⟨RX6, TX6, 6, rfl, by decide, in_X6, wd_264⟩
theorem fl_RX8_201 : FL RX8 201 5 0 := ⟨RX5, TX5, 8, rfl, by decide, in_X5, wd_99⟩
theorem fl_RX8_210 : FL RX8 210 1 0 := ⟨RX1, TX1, 3, rfl, by decide, in_X1, wd_150⟩
theorem fl_RX8_58 : FL RX8 58 8 6 := ⟨RX8, TX8, 10, rfl, by decide, in_X8, wd_324⟩
theorem fl_RX9_57 : FL RX9 57 9 26 := ⟨RX9, TX9, 40, rfl, by decide, in_X9, wd_792⟩
theorem fl_RX9_60 : FL RX9 60 9 27 := ⟨RX9, TX9, 40, rfl, by decide, in_X9, wd_793⟩
theorem fl_RX8_227 : FL RX8 227 6 3 := ⟨RX6, TX6, 6, rfl, by decide, in_X6, wd_268⟩
theorem fl_RX8_230 : FL RX8 230 6 2 := ⟨RX6, TX6, 6, rfl, by decide, in_X6, wd_266⟩
theorem fl_RX4_15 : FL RX4 15 4 1 := ⟨RX4, TX4, 6, rfl, by decide, in_X4, wd_169⟩
theorem fl_RX4_56 : FL RX4 56 6 0 := ⟨RX6, TX6, 6, rfl, by decide, in_X6, wd_257⟩
theorem fl_RX4_70 : FL RX4 70 5 6 := ⟨RX5, TX5, 8, rfl, by decide, in_X5, wd_120⟩
theorem fl_RX4_19 : FL RX4 19 4 2 := ⟨RX4, TX4, 6, rfl, by decide, in_X4, wd_170⟩
theorem fl_RX4_26 : FL RX4 26 4 4 := ⟨RX4, TX4, 6, rfl, by decide, in_X4, wd_172⟩
theorem fl_RX4_73 : FL RX4 73 6 4 := ⟨RX6, TX6, 6, rfl, by decide, in_X6, wd_270⟩
theorem fl_RX4_67 : FL RX4 67 6 1 := ⟨RX6, TX6, 6, rfl, by decide, in_X6, wd_262⟩
theorem fl_RX4_62 : FL RX4 62 5 4 := ⟨RX5, TX5, 8, rfl, by decide, in_X5, wd_113⟩
theorem fl_RX4_9 : FL RX4 9 4 0 := ⟨RX4, TX4, 6, rfl, by decide, in_X4, wd_168⟩
theorem fl_RX4_29 : FL RX4 29 4 5 := ⟨RX4, TX4, 6, rfl, by decide, in_X4, wd_173⟩
theorem fl_RX4_22 : FL RX4 22 4 3 := ⟨RX4, TX4, 6, rfl, by decide, in_X4, wd_171⟩
theorem fl_RX0_30 : FL RX0 30 0 1 := ⟨RX0, TX0, 6, rfl, by decide, in_X0, wd_195⟩
theorem fl_RX0_9 : FL RX0 9 0 2 := ⟨RX0, TX0, 6, rfl, by decide, in_X0, wd_196⟩
theorem fl_RX0_26 : FL RX0 26 0 0 := ⟨RX0, TX0, 6, rfl, by decide, in_X0, wd_194⟩
theorem fl_RX0_52 : FL RX0 52 5 3 := ⟨RX5, TX5, 8, rfl, by decide, in_X5, wd_105⟩
theorem fl_RX0_57 : FL RX0 57 6 5 := ⟨RX6, TX6, 6, rfl, by decide, in_X6, wd_273⟩
theorem fl_RX0_15 : FL RX0 15 0 3 := ⟨RX0, TX0, 6, rfl, by decide, in_X0, wd_197⟩
theorem fl_RX8_38 : FL RX8 38 8 3 := ⟨RX8, TX8, 10, rfl, by decide, in_X8, wd_321⟩
theorem fl_RX9_63 : FL RX9 63 9 28 := ⟨RX9, TX9, 40, rfl, by decide, in_X9, wd_794⟩
theorem fl_RX9_66 : FL RX9 66 9 29 := ⟨RX9, TX9, 40, rfl, by decide, in_X9, wd_795⟩
theorem fl_RX8_237 : FL RX8 237 0 3 := ⟨RX0, TX0, 6, rfl, by decide, in_X0, wd_198⟩
theorem fl_RX8_240 : FL RX8 240 0 4 := ⟨RX0, TX0, 6, rfl, by decide, in_X0, wd_200⟩
theorem fl_RX8_243 : FL RX8 243 0 5 := ⟨RX0, TX0, 6, rfl, by decide, in_X0, wd_202⟩
theorem fl_RX8_169 : FL RX8 169 5 6 := ⟨RX5, TX5, 8, rfl, by decide, in_X5, wd_121⟩
theorem fl_RX2_26 : FL RX2 26 2 0 := ⟨RX2, TX2, 6, rfl, by decide, in_X2, wd_222⟩
theorem fl_RX2_71 : FL RX2 71 5 4 := ⟨RX5, TX5, 8, rfl, by decide, in_X5, wd_111⟩
theorem fl_RX2_76 : FL RX2 76 6 1 := ⟨RX6, TX6, 6, rfl, by decide, in_X6, wd_261⟩
theorem fl_RX2_19 : FL RX2 19 2 4 := ⟨RX2, TX2, 6, rfl, by decide, in_X2, wd_226⟩
theorem fl_RX2_15 : FL RX2 15 2 3 := ⟨RX2, TX2, 6, rfl, by decide, in_X2, wd_225⟩
theorem fl_RX2_9 : FL RX2 9 2 2 := ⟨RX2, TX2, 6, rfl, by decide, in_X2, wd_224⟩
theorem fl_RX2_30 : FL RX2 30 2 1 := ⟨RX2, TX2, 6, rfl, by decide, in_X2, wd_223⟩
theorem fl_RX2_46 : FL RX2 46 4 5 := ⟨RX4, TX4, 6, rfl, by decide, in_X4, wd_174⟩
theorem fl_RX2_22 : FL RX2 22 2 5 := ⟨RX2, TX2, 6, rfl, by decide, in_X2, wd_228⟩
theorem fl_RX8_45 : FL RX8 45 8 4 := ⟨RX8, TX8, 10, rfl, by decide, in_X8, wd_322⟩
theorem fl_RX9_81 : FL RX9 81 9 36 := ⟨RX9, TX9, 40, rfl, by decide, in_X9, wd_802⟩
theorem fl_RX9_78 : FL RX9 78 9 34 := ⟨RX9, TX9, 40, rfl, by decide, in_X9, wd_800⟩
theorem fl_RX9_75 : FL RX9 75 9 33 := ⟨RX9, TX9, 40, rfl, by decide, in_X9, wd_799⟩
theorem fl_RX9_270 : FL RX9 270 9 30 := ⟨RX9, TX9, 40, rfl, by decide, in_X9, wd_796⟩
theorem fl_RX9_69 : FL RX9 69 9 31 := ⟨RX9, TX9, 40, rfl, by decide, in_X9, wd_797⟩
theorem fl_RX9_72 : FL RX9 72 9 32 := ⟨RX9, TX9, 40, rfl, by decide, in_X9, wd_798⟩
theorem fl_RX9_263 : FL RX9 263 9 35 := ⟨RX9, TX9, 40, rfl, by decide, in_X9, wd_801⟩
theorem fl_RX8_258 : FL RX8 258 2 5 := ⟨RX2, TX2, 6, rfl, by decide, in_X2, wd_229⟩
theorem fl_RX8_261 : FL RX8 261 2 4 := ⟨RX2, TX2, 6, rfl, by decide, in_X2, wd_227⟩
theorem fl_RX7_64 : FL RX7 64 6 1 := ⟨RX6, TX6, 6, rfl, by decide, in_X6, wd_260⟩
theorem fl_RX7_37 : FL RX7 37 7 0 := ⟨RX7, TX7, 8, rfl, by decide, in_X7, wd_289⟩
theorem fl_RX7_44 : FL RX7 44 5 4 := ⟨RX5, TX5, 8, rfl, by decide, in_X5, wd_110⟩
theorem fl_RX8_54 : FL RX8 54 8 5 := ⟨RX8, TX8, 10, rfl, by decide, in_X8, wd_323⟩
theorem fl_RX8_271 : FL RX8 271 7 3 := ⟨RX7, TX7, 8, rfl, by decide, in_X7, wd_294⟩
theorem fl_RX9_84 : FL RX9 84 9 39 := ⟨RX9, TX9, 40, rfl, by decide, in_X9, wd_805⟩
theorem fl_RX7_25 : FL RX7 25 7 4 := ⟨RX7, TX7, 8, rfl, by decide, in_X7, wd_295⟩
theorem fl_RX7_28 : FL RX7 28 7 5 := ⟨RX7, TX7, 8, rfl, by decide, in_X7, wd_296⟩
theorem fl_RX7_31 : FL RX7 31 7 6 := ⟨RX7, TX7, 8, rfl, by decide, in_X7, wd_297⟩
theorem fl_RX7_34 : FL RX7 34 7 7 := ⟨RX7, TX7, 8, rfl, by decide, in_X7, wd_298⟩
theorem fl_RX9_285 : FL RX9 285 9 38 := ⟨RX9, TX9, 40, rfl, by decide, in_X9, wd_804⟩
theorem fl_RX8_275 : FL RX8 275 5 5 := ⟨RX5, TX5, 8, rfl, by decide, in_X5, wd_117⟩
theorem fl_RX8_72 : FL RX8 72 8 9 := ⟨RX8, TX8, 10, rfl, by decide, in_X8, wd_327⟩
theorem fl_RX8_268 : FL RX8 268 7 2 := ⟨RX7, TX7, 8, rfl, by decide, in_X7, wd_292⟩
theorem fl_RX9_93 : FL RX9 93 9 5 := ⟨RX9, TX9, 40, rfl, by decide, in_X9, wd_771⟩
theorem fl_RX9_276 : FL RX9 276 9 37 := ⟨RX9, TX9, 40, rfl, by decide, in_X9, wd_803⟩
theorem fl_RX8_176 : FL RX8 176 6 4 := ⟨RX6, TX6, 6, rfl, by decide, in_X6, wd_271⟩
theorem fp_RX3_15 : FP RX3 15 3 1 .boolean := ⟨RX3, TX3, 4, cf_X3, by decide, wd_74, rfl, by decide +kernel⟩
theorem fp_RX3_19 : FP RX3 19 3 2 .int := ⟨RX3, TX3, 4, cf_X3, by decide, wd_76, rfl, by decide +kernel⟩
theorem fp_RX3_23 : FP RX3 23 3 3 .int := ⟨RX3, TX3, 4, cf_X3, by decide, wd_78, rfl, by decide +kernel⟩
theorem fp_RX5_25 : FP RX5 25 5 4 .int := ⟨RX5, TX5, 8, cf_X5, by decide, wd_109, rfl, by decide +kernel⟩
theorem fp_RX5_29 : FP RX5 29 5 5 .int := ⟨RX5, TX5, 8, cf_X5, by decide, wd_116, rfl, by decide +kernel⟩
theorem fp_RX5_32 : FP RX5 32 5 6 .int := ⟨RX5, TX5, 8, cf_X5, by decide, wd_118, rfl, by decide +kernel⟩
theorem fp_RX5_35 : FP RX5 35 5 7 .long := ⟨RX5, TX5, 8, cf_X5, by decide, wd_122, rfl, by decide +kernel⟩
theorem fp_RX1_18 : FP RX1 18 1 2 .int := ⟨RX1, TX1, 3, cf_X1, by decide, wd_153, rfl, by decide +kernel⟩
theorem fp_RX4_22 : FP RX4 22 4 3 .int := ⟨RX4, TX4, 6, cf_X4, by decide, wd_171, rfl, by decide +kernel⟩
theorem fp_RX4_26 : FP RX4 26 4 4 .int := ⟨RX4, TX4, 6, cf_X4, by decide, wd_172, rfl, by decide +kernel⟩
theorem fp_RX4_29 : FP RX4 29 4 5 .int := ⟨RX4, TX4, 6, cf_X4, by decide, wd_173, rfl, by decide +kernel⟩
theorem fp_RX0_15 : FP RX0 15 0 3 .int := ⟨RX0, TX0, 6, cf_X0, by decide, wd_197, rfl, by decide +kernel⟩
theorem fp_RX0_19 : FP RX0 19 0 4 .int := ⟨RX0, TX0, 6, cf_X0, by decide, wd_199, rfl, by decide +kernel⟩
theorem fp_RX0_22 : FP RX0 22 0 5 .long := ⟨RX0, TX0, 6, cf_X0, by decide, wd_201, rfl, by decide +kernel⟩
theorem fp_RX2_22 : FP RX2 22 2 5 .int := ⟨RX2, TX2, 6, cf_X2, by decide, wd_228, rfl, by decide +kernel⟩
theorem fp_RX6_19 : FP RX6 19 6 3 .int := ⟨RX6, TX6, 6, cf_X6, by decide, wd_267, rfl, by decide +kernel⟩
theorem fp_RX6_23 : FP RX6 23 6 4 .long := ⟨RX6, TX6, 6, cf_X6, by decide, wd_269, rfl, by decide +kernel⟩
theorem fp_RX6_27 : FP RX6 27 6 5 .int := ⟨RX6, TX6, 6, cf_X6, by decide, wd_272, rfl, by decide +kernel⟩
theorem fp_RX7_17 : FP RX7 17 7 2 .int := ⟨RX7, TX7, 8, cf_X7, by decide, wd_291, rfl, by decide +kernel⟩
theorem fp_RX7_21 : FP RX7 21 7 3 .long := ⟨RX7, TX7, 8, cf_X7, by decide, wd_293, rfl, by decide +kernel⟩
theorem fp_RX7_25 : FP RX7 25 7 4 .int := ⟨RX7, TX7, 8, cf_X7, by decide, wd_295, rfl, by decide +kernel⟩
theorem fp_RX7_28 : FP RX7 28 7 5 .int := ⟨RX7, TX7, 8, cf_X7, by decide, wd_296, rfl, by decide +kernel⟩
theorem fp_RX7_31 : FP RX7 31 7 6 .long := ⟨RX7, TX7, 8, cf_X7, by decide, wd_297, rfl, by decide +kernel⟩
theorem fp_RX7_34 : FP RX7 34 7 7 .long := ⟨RX7, TX7, 8, cf_X7, by decide, wd_298, rfl, by decide +kernel⟩
theorem fp_RX8_65 : FP RX8 65 8 7 (.object "OneBitLoop$Twin") := ⟨RX8, TX8, 10, cf_X8, by decide, wd_325, rfl, by decide +kernel⟩
theorem fp_RX8_69 : FP RX8 69 8 8 (.object "OneBitLoop$Twin") := ⟨RX8, TX8, 10, cf_X8, by decide, wd_326, rfl, by decide +kernel⟩
theorem fp_RX8_72 : FP RX8 72 8 9 .int := ⟨RX8, TX8, 10, cf_X8, by decide, wd_327, rfl, by decide +kernel⟩
theorem fp_RX9_87 : FP RX9 87 9 10 .int := ⟨RX9, TX9, 40, cf_X9, by decide, wd_776, rfl, by decide +kernel⟩
theorem fp_RX9_93 : FP RX9 93 9 5 .int := ⟨RX9, TX9, 40, cf_X9, by decide, wd_771, rfl, by decide +kernel⟩
theorem fp_RX8_91 : FP RX8 91 3 1 .boolean := ⟨RX3, TX3, 4, cf_X3, by decide, wd_75, rfl, by decide +kernel⟩
theorem fp_RX9_160 : FP RX9 160 9 6 .int := ⟨RX9, TX9, 40, cf_X9, by decide, wd_772, rfl, by decide +kernel⟩
theorem fp_RX8_169 : FP RX8 169 5 6 .int := ⟨RX5, TX5, 8, cf_X5, by decide, wd_121, rfl, by decide +kernel⟩
theorem fp_RX8_172 : FP RX8 172 5 7 .long := ⟨RX5, TX5, 8, cf_X5, by decide, wd_124, rfl, by decide +kernel⟩
theorem fp_RX8_176 : FP RX8 176 6 4 .long := ⟨RX6, TX6, 6, cf_X6, by decide, wd_271, rfl, by decide +kernel⟩
theorem fp_RX9_173 : FP RX9 173 9 12 .int := ⟨RX9, TX9, 40, cf_X9, by decide, wd_778, rfl, by decide +kernel⟩
theorem fp_RX9_176 : FP RX9 176 9 13 .long := ⟨RX9, TX9, 40, cf_X9, by decide, wd_779, rfl, by decide +kernel⟩
theorem fp_RX9_180 : FP RX9 180 9 15 .long := ⟨RX9, TX9, 40, cf_X9, by decide, wd_781, rfl, by decide +kernel⟩
theorem fp_RX9_183 : FP RX9 183 9 22 .long := ⟨RX9, TX9, 40, cf_X9, by decide, wd_788, rfl, by decide +kernel⟩
theorem fp_RX9_186 : FP RX9 186 9 24 .int := ⟨RX9, TX9, 40, cf_X9, by decide, wd_790, rfl, by decide +kernel⟩
theorem fp_RX9_211 : FP RX9 211 9 23 .int := ⟨RX9, TX9, 40, cf_X9, by decide, wd_789, rfl, by decide +kernel⟩
theorem fp_RX9_129 : FP RX9 129 9 16 .int := ⟨RX9, TX9, 40, cf_X9, by decide, wd_782, rfl, by decide +kernel⟩
theorem fp_RX9_231 : FP RX9 231 9 19 .int := ⟨RX9, TX9, 40, cf_X9, by decide, wd_785, rfl, by decide +kernel⟩
theorem fp_RX8_138 : FP RX8 138 1 2 .int := ⟨RX1, TX1, 3, cf_X1, by decide, wd_154, rfl, by decide +kernel⟩
theorem fp_RX8_141 : FP RX8 141 5 4 .int := ⟨RX5, TX5, 8, cf_X5, by decide, wd_115, rfl, by decide +kernel⟩
theorem fp_RX9_263 : FP RX9 263 9 35 .int := ⟨RX9, TX9, 40, cf_X9, by decide, wd_801, rfl, by decide +kernel⟩
theorem fp_RX9_270 : FP RX9 270 9 30 .int := ⟨RX9, TX9, 40, cf_X9, by decide, wd_796, rfl, by decide +kernel⟩
theorem fp_RX8_268 : FP RX8 268 7 2 .int := ⟨RX7, TX7, 8, cf_X7, by decide, wd_292, rfl, by decide +kernel⟩
theorem fp_RX9_276 : FP RX9 276 9 37 .int := ⟨RX9, TX9, 40, cf_X9, by decide, wd_803, rfl, by decide +kernel⟩
theorem fp_RX9_285 : FP RX9 285 9 38 .int := ⟨RX9, TX9, 40, cf_X9, by decide, wd_804, rfl, by decide +kernel⟩
theorem ff_RX3_9 : FF RX3 9 3 0 (.array .long) := ⟨RX3, TX3, 4, cf_X3, by decide, wd_72, rfl, rfl, by decide +kernel⟩
theorem ff_RX5_9 : FF RX5 9 5 0 (.array .int) := ⟨RX5, TX5, 8, cf_X5, by decide, wd_97, rfl, rfl, by decide +kernel⟩
theorem ff_RX5_15 : FF RX5 15 5 1 (.array .long) := ⟨RX5, TX5, 8, cf_X5, by decide, wd_100, rfl, rfl, by decide +kernel⟩
theorem ff_RX5_19 : FF RX5 19 5 2 (.array .int) := ⟨RX5, TX5, 8, cf_X5, by decide, wd_102, rfl, rfl, by decide +kernel⟩
theorem ff_RX5_22 : FF RX5 22 5 3 (.array .long) := ⟨RX5, TX5, 8, cf_X5, by decide, wd_104, rfl, rfl, by decide +kernel⟩
theorem ff_RX1_9 : FF RX1 9 1 0 (.array .long) := ⟨RX1, TX1, 3, cf_X1, by decide, wd_149, rfl, rfl, by decide +kernel⟩
theorem ff_RX1_15 : FF RX1 15 1 1 (.array .long) := ⟨RX1, TX1, 3, cf_X1, by decide, wd_151, rfl, rfl, by decide +kernel⟩
theorem ff_RX4_9 : FF RX4 9 4 0 (.array .long) := ⟨RX4, TX4, 6, cf_X4, by decide, wd_168, rfl, rfl, by decide +kernel⟩
theorem ff_RX4_15 : FF RX4 15 4 1 (.array .int) := ⟨RX4, TX4, 6, cf_X4, by decide, wd_169, rfl, rfl, by decide +kernel⟩
theorem ff_RX4_19 : FF RX4 19 4 2 (.array .long) := ⟨RX4, TX4, 6, cf_X4, by decide, wd_170, rfl, rfl, by decide +kernel⟩
theorem ff_RX0_9 : FF RX0 9 0 2 (.array .long) := ⟨RX0, TX0, 6, cf_X0, by decide, wd_196, rfl, rfl, by decide +kernel⟩
theorem ff_RX0_26 : FF RX0 26 0 0 (.object "OneBitLoop$Shape") := ⟨RX0, TX0, 6, cf_X0, by decide, wd_194, rfl, rfl, by decide +kernel⟩
theorem ff_RX0_30 : FF RX0 30 0 1 (.object "OneBitLoop$Seen") := ⟨RX0, TX0, 6, cf_X0, by decide, wd_195, rfl, rfl, by decide +kernel⟩
theorem ff_RX2_9 : FF RX2 9 2 2 (.array .int) := ⟨RX2, TX2, 6, cf_X2, by decide, wd_224, rfl, rfl, by decide +kernel⟩
theorem ff_RX2_15 : FF RX2 15 2 3 (.array .long) := ⟨RX2, TX2, 6, cf_X2, by decide, wd_225, rfl, rfl, by decide +kernel⟩
theorem ff_RX2_19 : FF RX2 19 2 4 (.array .long) := ⟨RX2, TX2, 6, cf_X2, by decide, wd_226, rfl, rfl, by decide +kernel⟩
theorem ff_RX2_26 : FF RX2 26 2 0 (.object "OneBitLoop$Shape") := ⟨RX2, TX2, 6, cf_X2, by decide, wd_222, rfl, rfl, by decide +kernel⟩
theorem ff_RX2_30 : FF RX2 30 2 1 (.object "OneBitLoop$Seen") := ⟨RX2, TX2, 6, cf_X2, by decide, wd_223, rfl, rfl, by decide +kernel⟩
theorem ff_RX6_9 : FF RX6 9 6 1 (.array .long) := ⟨RX6, TX6, 6, cf_X6, by decide, wd_259, rfl, rfl, by decide +kernel⟩
theorem ff_RX6_15 : FF RX6 15 6 2 (.array .int) := ⟨RX6, TX6, 6, cf_X6, by decide, wd_265, rfl, rfl, by decide +kernel⟩
theorem ff_RX6_30 : FF RX6 30 6 0 (.object "OneBitLoop$Shape") := ⟨RX6, TX6, 6, cf_X6, by decide, wd_256, rfl, rfl, by decide +kernel⟩
theorem ff_RX7_11 : FF RX7 11 7 1 (.array (.object "OneBitLoop$Twin")) := ⟨RX7, TX7, 8, cf_X7, by decide, wd_290, rfl, rfl, by decide +kernel⟩
theorem ff_RX7_37 : FF RX7 37 7 0 (.object "OneBitLoop$Shape") := ⟨RX7, TX7, 8, cf_X7, by decide, wd_289, rfl, rfl, by decide +kernel⟩
theorem ff_RX8_19 : FF RX8 19 8 1 (.object "OneBitLoop$Shape") := ⟨RX8, TX8, 10, cf_X8, by decide, wd_319, rfl, rfl, by decide +kernel⟩
theorem ff_RX8_26 : FF RX8 26 8 2 (.object "OneBitLoop$Log") := ⟨RX8, TX8, 10, cf_X8, by decide, wd_320, rfl, rfl, by decide +kernel⟩
theorem ff_RX8_38 : FF RX8 38 8 3 (.object "OneBitLoop$Holding") := ⟨RX8, TX8, 10, cf_X8, by decide, wd_321, rfl, rfl, by decide +kernel⟩
theorem ff_RX8_45 : FF RX8 45 8 4 (.object "OneBitLoop$Reaching") := ⟨RX8, TX8, 10, cf_X8, by decide, wd_322, rfl, rfl, by decide +kernel⟩
theorem ff_RX8_54 : FF RX8 54 8 5 (.object "OneBitLoop$Worst") := ⟨RX8, TX8, 10, cf_X8, by decide, wd_323, rfl, rfl, by decide +kernel⟩
theorem ff_RX8_58 : FF RX8 58 8 6 (.array .int) := ⟨RX8, TX8, 10, cf_X8, by decide, wd_324, rfl, rfl, by decide +kernel⟩
theorem ff_RX8_11 : FF RX8 11 8 0 (.array (.object "OneBitLoop$Reel")) := ⟨RX8, TX8, 10, cf_X8, by decide, wd_318, rfl, rfl, by decide +kernel⟩
theorem ff_RX9_7 : FF RX9 7 9 0 (.array .boolean) := ⟨RX9, TX9, 40, cf_X9, by decide, wd_766, rfl, rfl, by decide +kernel⟩
theorem ff_RX9_13 : FF RX9 13 9 1 (.array .int) := ⟨RX9, TX9, 40, cf_X9, by decide, wd_767, rfl, rfl, by decide +kernel⟩
theorem ff_RX9_17 : FF RX9 17 9 2 (.array .int) := ⟨RX9, TX9, 40, cf_X9, by decide, wd_768, rfl, rfl, by decide +kernel⟩
theorem ff_RX9_20 : FF RX9 20 9 3 (.array .long) := ⟨RX9, TX9, 40, cf_X9, by decide, wd_769, rfl, rfl, by decide +kernel⟩
theorem ff_RX9_24 : FF RX9 24 9 4 (.array .long) := ⟨RX9, TX9, 40, cf_X9, by decide, wd_770, rfl, rfl, by decide +kernel⟩
theorem ff_RX9_27 : FF RX9 27 9 7 (.array .int) := ⟨RX9, TX9, 40, cf_X9, by decide, wd_773, rfl, rfl, by decide +kernel⟩
theorem ff_RX9_30 : FF RX9 30 9 8 (.array .long) := ⟨RX9, TX9, 40, cf_X9, by decide, wd_774, rfl, rfl, by decide +kernel⟩
theorem ff_RX9_33 : FF RX9 33 9 9 (.array .int) := ⟨RX9, TX9, 40, cf_X9, by decide, wd_775, rfl, rfl, by decide +kernel⟩
theorem ff_RX9_36 : FF RX9 36 9 11 (.array .long) := ⟨RX9, TX9, 40, cf_X9, by decide, wd_777, rfl, rfl, by decide +kernel⟩
theorem ff_RX9_39 : FF RX9 39 9 14 (.array .long) := ⟨RX9, TX9, 40, cf_X9, by decide, wd_780, rfl, rfl, by decide +kernel⟩
theorem ff_RX9_42 : FF RX9 42 9 17 (.array .long) := ⟨RX9, TX9, 40, cf_X9, by decide, wd_783, rfl, rfl, by decide +kernel⟩
theorem ff_RX9_45 : FF RX9 45 9 18 (.array .long) := ⟨RX9, TX9, 40, cf_X9, by decide, wd_784, rfl, rfl, by decide +kernel⟩
theorem ff_RX9_48 : FF RX9 48 9 20 (.array .int) := ⟨RX9, TX9, 40, cf_X9, by decide, wd_786, rfl, rfl, by decide +kernel⟩
theorem ff_RX9_51 : FF RX9 51 9 21 (.array .long) := ⟨RX9, TX9, 40, cf_X9, by decide, wd_787, rfl, rfl, by decide +kernel⟩
theorem ff_RX9_54 : FF RX9 54 9 25 (.array .int) := ⟨RX9, TX9, 40, cf_X9, by decide, wd_791, rfl, rfl, by decide +kernel⟩
theorem ff_RX9_57 : FF RX9 57 9 26 (.array .int) := ⟨RX9, TX9, 40, cf_X9, by decide, wd_792, rfl, rfl, by decide +kernel⟩
theorem ff_RX9_60 : FF RX9 60 9 27 (.array .long) := ⟨RX9, TX9, 40, cf_X9, by decide, wd_793, rfl, rfl, by decide +kernel⟩
theorem ff_RX9_63 : FF RX9 63 9 28 (.array .long) := ⟨RX9, TX9, 40, cf_X9, by decide, wd_794, rfl, rfl, by decide +kernel⟩
theorem ff_RX9_66 : FF RX9 66 9 29 (.array .long) := ⟨RX9, TX9, 40, cf_X9, by decide, wd_795, rfl, rfl, by decide +kernel⟩
theorem ff_RX9_69 : FF RX9 69 9 31 (.array .long) := ⟨RX9, TX9, 40, cf_X9, by decide, wd_797, rfl, rfl, by decide +kernel⟩
theorem ff_RX9_72 : FF RX9 72 9 32 (.array .long) := ⟨RX9, TX9, 40, cf_X9, by decide, wd_798, rfl, rfl, by decide +kernel⟩
theorem ff_RX9_75 : FF RX9 75 9 33 (.array .int) := ⟨RX9, TX9, 40, cf_X9, by decide, wd_799, rfl, rfl, by decide +kernel⟩
theorem ff_RX9_78 : FF RX9 78 9 34 (.array .long) := ⟨RX9, TX9, 40, cf_X9, by decide, wd_800, rfl, rfl, by decide +kernel⟩
theorem ff_RX9_81 : FF RX9 81 9 36 (.array .long) := ⟨RX9, TX9, 40, cf_X9, by decide, wd_802, rfl, rfl, by decide +kernel⟩
theorem ff_RX9_84 : FF RX9 84 9 39 (.array .long) := ⟨RX9, TX9, 40, cf_X9, by decide, wd_805, rfl, rfl, by decide +kernel⟩
theorem cal_Rl_init : CalI yX3_init cX3_init 1 0 := ⟨by decide +kernel, rfl, wd_69, wd_42, wd_70⟩
theorem cal_Sp_init : CalI yX5_init cX5_init 1 0 := ⟨by decide +kernel, rfl, wd_93, wd_43, wd_94⟩
theorem cal_Lg_init : CalI yX1_init cX1_init 1 0 := ⟨by decide +kernel, rfl, wd_146, wd_44, wd_147⟩
theorem cal_Sn_init : CalI yX4_init cX4_init 1 0 := ⟨by decide +kernel, rfl, wd_165, wd_45, wd_166⟩
theorem cal_Hd_init : CalI yX0_init cX0_init 3 2 := ⟨by decide +kernel, rfl, wd_191, wd_46, wd_192⟩
theorem cal_Rc_init : CalI yX2_init cX2_init 3 2 := ⟨by decide +kernel, rfl, wd_219, wd_47, wd_220⟩
theorem cal_Tw_init : CalI yX6_init cX6_init 2 1 := ⟨by decide +kernel, rfl, wd_253, wd_49, wd_254⟩
theorem cal_Ws_init : CalI yX7_init cX7_init 3 1 := ⟨by decide +kernel, rfl, wd_246, wd_48, wd_247⟩
theorem cal_Ob_init : CalI yX8_init cX8_init 2 0 := ⟨by decide +kernel, rfl, wd_60, wd_41, wd_61⟩
theorem cal_Md_init : CalI yX9_init cX9_init 1 0 := ⟨by decide +kernel, rfl, wd_762, wd_50, wd_763⟩
theorem cal_Ob_isReel : CalS yX8_isReel cX8_isReel 1 (some .boolean) 1 := ⟨by decide +kernel, wd_354, wd_41, wd_355⟩
theorem cal_Ob_isForm : CalS yX8_isForm cX8_isForm 1 (some .boolean) 1 := ⟨by decide +kernel, wd_357, wd_41, wd_358⟩
theorem cal_Ob_found : CalV yX8_found RX8 cX8_found 2 (some .int) 1 := ⟨by decide +kernel, wd_361, wd_0, wd_41, wd_362⟩
theorem cal_J7_fill_d0a16 : CalS yJ7_fill_d0a16 cJ7_fill_d0a16 5 none 2 := ⟨by decide +kernel, wd_368, wd_51, wd_369⟩
theorem cal_Rl_renew : CalV yX3_renew RX3 cX3_renew 3 none 2 := ⟨by decide +kernel, wd_364, wd_365, wd_42, wd_366⟩
theorem cal_Ob_reel : CalV yX8_reel RX8 cX8_reel 4 (some .int) 3 := ⟨by decide +kernel, wd_350, wd_351, wd_41, wd_352⟩
theorem cal_Md_in : CalS yX9_in cX9_in 6 (some .boolean) 3 := ⟨by decide +kernel, wd_897, wd_50, wd_898⟩
theorem cal_Md_isReel : CalS yX9_isReel cX9_isReel 1 (some .boolean) 1 := ⟨by decide +kernel, wd_893, wd_50, wd_894⟩
theorem cal_Md_meets : CalV yX9_meets RX9 cX9_meets 2 (some .int) 1 := ⟨by decide +kernel, wd_901, wd_20, wd_50, wd_902⟩
theorem cal_Md_reel : CalV yX9_reel RX9 cX9_reel 5 (some .int) 3 := ⟨by decide +kernel, wd_889, wd_890, wd_50, wd_891⟩
theorem cal_Ob_lose : CalV yX8_lose RX8 cX8_lose 2 (some .int) 1 := ⟨by decide +kernel, wd_371, wd_372, wd_41, wd_373⟩
theorem cal_Md_lose : CalV yX9_lose RX9 cX9_lose 2 (some .int) 1 := ⟨by decide +kernel, wd_904, wd_905, wd_50, wd_906⟩
theorem cal_Rl_hasItem : CalV yX3_hasItem RX3 cX3_hasItem 3 (some .boolean) 1 := ⟨by decide +kernel, wd_383, wd_384, wd_42, wd_385⟩
theorem cal_Ob_refuseItem : CalV yX8_refuseItem RX8 cX8_refuseItem 4 (some .int) 3 := ⟨by decide +kernel, wd_380, wd_1, wd_41, wd_381⟩
theorem cal_Ob_isNoNumber : CalS yX8_isNoNumber cX8_isNoNumber 3 (some .boolean) 2 := ⟨by decide +kernel, wd_390, wd_41, wd_391⟩
theorem cal_Ob_bitsAsHeld : CalS yX8_bitsAsHeld cX8_bitsAsHeld 3 (some .long) 2 := ⟨by decide +kernel, wd_387, wd_41, wd_388⟩
theorem cal_Ob_put : CalV yX8_put RX8 cX8_put 7 (some .int) 4 := ⟨by decide +kernel, wd_375, wd_376, wd_41, wd_377⟩
theorem cal_Md_lacks : CalV yX9_lacks RX9 cX9_lacks 4 (some .int) 3 := ⟨by decide +kernel, wd_913, wd_21, wd_50, wd_914⟩
theorem cal_Md_laid : CalS yX9_laid cX9_laid 3 (some .long) 2 := ⟨by decide +kernel, wd_916, wd_50, wd_917⟩
theorem cal_Md_put : CalV yX9_put RX9 cX9_put 7 (some .int) 4 := ⟨by decide +kernel, wd_908, wd_909, wd_50, wd_910⟩
theorem cal_Ob_get : CalV yX8_get RX8 cX8_get 4 (some .long) 3 := ⟨by decide +kernel, wd_399, wd_400, wd_41, wd_401⟩
theorem cal_Md_get : CalV yX9_get RX9 cX9_get 6 (some .long) 3 := ⟨by decide +kernel, wd_925, wd_926, wd_50, wd_927⟩
theorem cal_Rl_hasRow : CalV yX3_hasRow RX3 cX3_hasRow 3 (some .boolean) 2 := ⟨by decide +kernel, wd_407, wd_408, wd_42, wd_409⟩
theorem cal_Ob_copy : CalV yX8_copy RX8 cX8_copy 8 (some .int) 5 := ⟨by decide +kernel, wd_403, wd_404, wd_41, wd_405⟩
theorem cal_Md_copy : CalV yX9_copy RX9 cX9_copy 7 (some .int) 5 := ⟨by decide +kernel, wd_929, wd_930, wd_50, wd_931⟩
theorem cal_Ob_refuseSample : CalV yX8_refuseSample RX8 cX8_refuseSample 4 (some .int) 2 := ⟨by decide +kernel, wd_419, wd_2, wd_41, wd_420⟩
theorem cal_Lg_latestMade : CalV yX1_latestMade RX1 cX1_latestMade 1 (some .long) 0 := ⟨by decide +kernel, wd_422, wd_423, wd_44, wd_424⟩
theorem cal_Ob_sizeOfParts : CalS yX8_sizeOfParts cX8_sizeOfParts 11 (some .long) 4 := ⟨by decide +kernel, wd_444, wd_41, wd_445⟩
theorem cal_Ob_cutToSample : CalS yX8_cutToSample cX8_cutToSample 5 (some .long) 2 := ⟨by decide +kernel, wd_431, wd_41, wd_432⟩
theorem cal_Rl_sampleOf : CalV yX3_sampleOf RX3 cX3_sampleOf 4 (some .long) 2 := ⟨by decide +kernel, wd_426, wd_427, wd_42, wd_428⟩
theorem cal_Ob_sample : CalV yX8_sample RX8 cX8_sample 3 (some .long) 2 := ⟨by decide +kernel, wd_414, wd_415, wd_41, wd_416⟩
theorem cal_Md_sampleOf : CalV yX9_sampleOf RX9 cX9_sampleOf 7 (some .long) 2 := ⟨by decide +kernel, wd_938, wd_22, wd_50, wd_939⟩
theorem cal_Md_sample : CalV yX9_sample RX9 cX9_sample 5 (some .long) 2 := ⟨by decide +kernel, wd_933, wd_934, wd_50, wd_935⟩
theorem cal_Ob_isStageAsTold : CalS yX8_isStageAsTold cX8_isStageAsTold 6 (some .boolean) 3 := ⟨by decide +kernel, wd_453, wd_41, wd_454⟩
theorem cal_Sp_addStage : CalV yX5_addStage RX5 cX5_addStage 5 (some .int) 3 := ⟨by decide +kernel, wd_458, wd_459, wd_43, wd_460⟩
theorem cal_Ob_stage : CalV yX8_stage RX8 cX8_stage 5 (some .int) 3 := ⟨by decide +kernel, wd_449, wd_450, wd_41, wd_451⟩
theorem cal_Md_stage : CalV yX9_stage RX9 cX9_stage 7 (some .int) 3 := ⟨by decide +kernel, wd_950, wd_951, wd_50, wd_952⟩
theorem cal_Ob_isSample : CalS yX8_isSample cX8_isSample 2 (some .boolean) 1 := ⟨by decide +kernel, wd_467, wd_41, wd_468⟩
theorem cal_Sp_layLevels : CalV yX5_layLevels RX5 cX5_layLevels 7 none 3 := ⟨by decide +kernel, wd_470, wd_471, wd_43, wd_472⟩
theorem cal_Ob_levels : CalV yX8_levels RX8 cX8_levels 6 (some .int) 3 := ⟨by decide +kernel, wd_462, wd_463, wd_41, wd_464⟩
theorem cal_Md_isSample : CalS yX9_isSample cX9_isSample 2 (some .boolean) 1 := ⟨by decide +kernel, wd_964, wd_50, wd_965⟩
theorem cal_Md_levels : CalV yX9_levels RX9 cX9_levels 7 (some .int) 3 := ⟨by decide +kernel, wd_958, wd_959, wd_50, wd_960⟩
theorem cal_Sp_hasLevel : CalV yX5_hasLevel RX5 cX5_hasLevel 2 (some .boolean) 1 := ⟨by decide +kernel, wd_478, wd_479, wd_43, wd_480⟩
theorem cal_Sp_wouldRise : CalV yX5_wouldRise RX5 cX5_wouldRise 4 (some .boolean) 2 := ⟨by decide +kernel, wd_482, wd_483, wd_43, wd_484⟩
theorem cal_Ob_level : CalV yX8_level RX8 cX8_level 4 (some .int) 2 := ⟨by decide +kernel, wd_474, wd_475, wd_41, wd_476⟩
theorem cal_Md_level : CalV yX9_level RX9 cX9_level 4 (some .int) 2 := ⟨by decide +kernel, wd_968, wd_969, wd_50, wd_970⟩
theorem cal_Ob_lot : CalV yX8_lot RX8 cX8_lot 4 (some .int) 2 := ⟨by decide +kernel, wd_486, wd_487, wd_41, wd_488⟩
theorem cal_Md_lot : CalV yX9_lot RX9 cX9_lot 4 (some .int) 2 := ⟨by decide +kernel, wd_972, wd_973, wd_50, wd_974⟩
theorem cal_Tw_becomeLike : CalV yX6_becomeLike RX6 cX6_becomeLike 2 none 1 := ⟨by decide +kernel, wd_499, wd_500, wd_49, wd_501⟩
theorem cal_Tw_drawLot : CalV yX6_drawLot RX6 cX6_drawLot 1 (some .long) 0 := ⟨by decide +kernel, wd_509, wd_4, wd_49, wd_510⟩
theorem cal_Sp_nearestTo : CalV yX5_nearestTo RX5 cX5_nearestTo 4 (some .int) 1 := ⟨by decide +kernel, wd_515, wd_516, wd_43, wd_517⟩
theorem cal_Tw_mark : CalV yX6_mark RX6 cX6_mark 2 none 1 := ⟨by decide +kernel, wd_527, wd_6, wd_49, wd_528⟩
theorem cal_Tw_turnedBy : CalV yX6_turnedBy RX6 cX6_turnedBy 3 (some .long) 2 := ⟨by decide +kernel, wd_531, wd_7, wd_49, wd_532⟩
theorem cal_Tw_leak : CalV yX6_leak RX6 cX6_leak 5 none 1 := ⟨by decide +kernel, wd_536, wd_8, wd_49, wd_537⟩
theorem cal_Tw_addUp : CalV yX6_addUp RX6 cX6_addUp 7 none 3 := ⟨by decide +kernel, wd_540, wd_9, wd_49, wd_541⟩
theorem cal_Tw_cutToBound : CalV yX6_cutToBound RX6 cX6_cutToBound 9 none 1 := ⟨by decide +kernel, wd_544, wd_10, wd_49, wd_545⟩
theorem cal_Tw_takeStage : CalV yX6_takeStage RX6 cX6_takeStage 13 none 4 := ⟨by decide +kernel, wd_523, wd_5, wd_49, wd_524⟩
theorem cal_Tw_isGreat : CalS yX6_isGreat cX6_isGreat 2 (some .boolean) 1 := ⟨by decide +kernel, wd_549, wd_49, wd_550⟩
theorem cal_Tw_makeStep : CalV yX6_makeStep RX6 cX6_makeStep 12 (some .boolean) 1 := ⟨by decide +kernel, wd_504, wd_505, wd_49, wd_506⟩
theorem cal_Lg_write : CalV yX1_write RX1 cX1_write 6 none 2 := ⟨by decide +kernel, wd_554, wd_555, wd_44, wd_556⟩
theorem cal_Ob_makeOne : CalV yX8_makeOne RX8 cX8_makeOne 4 (some .int) 1 := ⟨by decide +kernel, wd_496, wd_3, wd_41, wd_497⟩
theorem cal_Ob_step : CalV yX8_step RX8 cX8_step 3 (some .int) 1 := ⟨by decide +kernel, wd_491, wd_492, wd_41, wd_493⟩
theorem cal_Md_take : CalV yX9_take RX9 cX9_take 2 none 0 := ⟨by decide +kernel, wd_985, wd_24, wd_50, wd_986⟩
theorem cal_Md_nearest : CalV yX9_nearest RX9 cX9_nearest 9 (some .int) 1 := ⟨by decide +kernel, wd_995, wd_26, wd_50, wd_996⟩
theorem cal_Md_writes : CalV yX9_writes RX9 cX9_writes 2 none 1 := ⟨by decide +kernel, wd_1007, wd_29, wd_50, wd_1008⟩
theorem cal_Md_plain : CalV yX9_plain RX9 cX9_plain 6 none 3 := ⟨by decide +kernel, wd_1003, wd_28, wd_50, wd_1004⟩
theorem cal_Md_leaky : CalV yX9_leaky RX9 cX9_leaky 8 none 3 := ⟨by decide +kernel, wd_1011, wd_30, wd_50, wd_1012⟩
theorem cal_Md_bounded : CalV yX9_bounded RX9 cX9_bounded 10 none 3 := ⟨by decide +kernel, wd_1015, wd_31, wd_50, wd_1016⟩
theorem cal_Md_takes : CalV yX9_takes RX9 cX9_takes 8 none 4 := ⟨by decide +kernel, wd_999, wd_27, wd_50, wd_1000⟩
theorem cal_Md_tries : CalV yX9_tries RX9 cX9_tries 10 (some .boolean) 1 := ⟨by decide +kernel, wd_989, wd_25, wd_50, wd_990⟩
theorem cal_Md_lay : CalV yX9_lay RX9 cX9_lay 2 none 0 := ⟨by decide +kernel, wd_1021, wd_32, wd_50, wd_1022⟩
theorem cal_Md_does : CalV yX9_does RX9 cX9_does 4 (some .int) 1 := ⟨by decide +kernel, wd_981, wd_23, wd_50, wd_982⟩
theorem cal_Md_step : CalV yX9_step RX9 cX9_step 3 (some .int) 1 := ⟨by decide +kernel, wd_976, wd_977, wd_50, wd_978⟩
theorem cal_Ob_run : CalV yX8_run RX8 cX8_run 8 (some .int) 3 := ⟨by decide +kernel, wd_558, wd_559, wd_41, wd_560⟩
theorem cal_Md_run : CalV yX9_run RX9 cX9_run 7 (some .int) 3 := ⟨by decide +kernel, wd_1024, wd_1025, wd_50, wd_1026⟩
theorem cal_Tw_beginAgain : CalV yX6_beginAgain RX6 cX6_beginAgain 1 none 0 := ⟨by decide +kernel, wd_566, wd_567, wd_49, wd_568⟩
theorem cal_Ob_undo : CalV yX8_undo RX8 cX8_undo 3 (some .int) 1 := ⟨by decide +kernel, wd_562, wd_563, wd_41, wd_564⟩
theorem cal_Md_rest : CalV yX9_rest RX9 cX9_rest 2 none 0 := ⟨by decide +kernel, wd_1034, wd_33, wd_50, wd_1035⟩
theorem cal_Md_undo : CalV yX9_undo RX9 cX9_undo 4 (some .int) 1 := ⟨by decide +kernel, wd_1029, wd_1030, wd_50, wd_1031⟩
theorem cal_Ob_clear : CalV yX8_clear RX8 cX8_clear 2 (some .int) 0 := ⟨by decide +kernel, wd_571, wd_572, wd_41, wd_573⟩
theorem cal_Md_clear : CalV yX9_clear RX9 cX9_clear 2 (some .int) 0 := ⟨by decide +kernel, wd_1037, wd_1038, wd_50, wd_1039⟩
theorem cal_Sp_hasStage : CalV yX5_hasStage RX5 cX5_hasStage 2 (some .boolean) 1 := ⟨by decide +kernel, wd_579, wd_580, wd_43, wd_581⟩
theorem cal_Ob_stageAt : CalV yX8_stageAt RX8 cX8_stageAt 3 (some .long) 2 := ⟨by decide +kernel, wd_575, wd_576, wd_41, wd_577⟩
theorem cal_Md_stageAt : CalV yX9_stageAt RX9 cX9_stageAt 3 (some .long) 2 := ⟨by decide +kernel, wd_1041, wd_1042, wd_50, wd_1043⟩
theorem cal_Ob_levelAt : CalV yX8_levelAt RX8 cX8_levelAt 2 (some .long) 1 := ⟨by decide +kernel, wd_584, wd_585, wd_41, wd_586⟩
theorem cal_Md_levelAt : CalV yX9_levelAt RX9 cX9_levelAt 2 (some .long) 1 := ⟨by decide +kernel, wd_1047, wd_1048, wd_50, wd_1049⟩
theorem cal_Lg_hasStep : CalV yX1_hasStep RX1 cX1_hasStep 2 (some .boolean) 1 := ⟨by decide +kernel, wd_596, wd_597, wd_44, wd_598⟩
theorem cal_Ob_isRecorded : CalV yX8_isRecorded RX8 cX8_isRecorded 3 (some .boolean) 2 := ⟨by decide +kernel, wd_593, wd_11, wd_41, wd_594⟩
theorem cal_Ob_record : CalV yX8_record RX8 cX8_record 3 (some .long) 2 := ⟨by decide +kernel, wd_588, wd_589, wd_41, wd_590⟩
theorem cal_Md_isRecord : CalV yX9_isRecord RX9 cX9_isRecord 3 (some .boolean) 2 := ⟨by decide +kernel, wd_1056, wd_34, wd_50, wd_1057⟩
theorem cal_Md_record : CalV yX9_record RX9 cX9_record 3 (some .long) 2 := ⟨by decide +kernel, wd_1051, wd_1052, wd_50, wd_1053⟩
theorem cal_Ob_forge : CalV yX8_forge RX8 cX8_forge 5 (some .int) 3 := ⟨by decide +kernel, wd_600, wd_601, wd_41, wd_602⟩
theorem cal_Md_forge : CalV yX9_forge RX9 cX9_forge 5 (some .int) 3 := ⟨by decide +kernel, wd_1059, wd_1060, wd_50, wd_1061⟩
theorem cal_Lg_levelOf : CalV yX1_levelOf RX1 cX1_levelOf 2 (some .long) 1 := ⟨by decide +kernel, wd_612, wd_613, wd_44, wd_614⟩
theorem cal_Lg_agrees : CalV yX1_agrees RX1 cX1_agrees 4 (some .boolean) 2 := ⟨by decide +kernel, wd_608, wd_609, wd_44, wd_610⟩
theorem cal_Ob_check : CalV yX8_check RX8 cX8_check 2 (some .int) 0 := ⟨by decide +kernel, wd_604, wd_605, wd_41, wd_606⟩
theorem cal_Md_check : CalV yX9_check RX9 cX9_check 3 (some .int) 0 := ⟨by decide +kernel, wd_1063, wd_1064, wd_50, wd_1065⟩
theorem cal_Ob_read : CalV yX8_read RX8 cX8_read 5 (some .long) 1 := ⟨by decide +kernel, wd_616, wd_617, wd_41, wd_618⟩
theorem cal_Md_read : CalV yX9_read RX9 cX9_read 5 (some .long) 1 := ⟨by decide +kernel, wd_1067, wd_1068, wd_50, wd_1069⟩
theorem cal_Ob_weight : CalV yX8_weight RX8 cX8_weight 4 (some .int) 2 := ⟨by decide +kernel, wd_621, wd_622, wd_41, wd_623⟩
theorem cal_Md_weight : CalV yX9_weight RX9 cX9_weight 4 (some .int) 2 := ⟨by decide +kernel, wd_1071, wd_1072, wd_50, wd_1073⟩
theorem cal_Lg_runningSum : CalV yX1_runningSum RX1 cX1_runningSum 12 (some .long) 2 := ⟨by decide +kernel, wd_630, wd_631, wd_44, wd_632⟩
theorem cal_Ob_sums : CalV yX8_sums RX8 cX8_sums 3 (some .long) 2 := ⟨by decide +kernel, wd_626, wd_627, wd_41, wd_628⟩
theorem cal_Md_sums : CalV yX9_sums RX9 cX9_sums 5 (some .long) 2 := ⟨by decide +kernel, wd_1077, wd_1078, wd_50, wd_1079⟩
theorem cal_Ob_trace : CalV yX8_trace RX8 cX8_trace 2 (some .int) 1 := ⟨by decide +kernel, wd_634, wd_635, wd_41, wd_636⟩
theorem cal_Md_trace : CalV yX9_trace RX9 cX9_trace 2 (some .int) 1 := ⟨by decide +kernel, wd_1082, wd_1083, wd_50, wd_1084⟩
theorem cal_J7_fill_53178 : CalS yJ7_fill_53178 cJ7_fill_53178 4 none 2 := ⟨by decide +kernel, wd_650, wd_51, wd_651⟩
theorem cal_Sn_empty : CalV yX4_empty RX4 cX4_empty 1 none 0 := ⟨by decide +kernel, wd_646, wd_647, wd_45, wd_648⟩
theorem cal_Sn_ask : CalV yX4_ask RX4 cX4_ask 4 none 1 := ⟨by decide +kernel, wd_658, wd_12, wd_45, wd_659⟩
theorem cal_Sn_hashOfAsked : CalV yX4_hashOfAsked RX4 cX4_hashOfAsked 4 (some .int) 0 := ⟨by decide +kernel, wd_662, wd_13, wd_45, wd_663⟩
theorem cal_Sn_isAsked : CalV yX4_isAsked RX4 cX4_isAsked 3 (some .boolean) 1 := ⟨by decide +kernel, wd_668, wd_14, wd_45, wd_669⟩
theorem cal_Sn_find : CalV yX4_find RX4 cX4_find 4 (some .int) 1 := ⟨by decide +kernel, wd_653, wd_654, wd_45, wd_655⟩
theorem cal_Sn_addAsked : CalV yX4_addAsked RX4 cX4_addAsked 1 none 0 := ⟨by decide +kernel, wd_671, wd_672, wd_45, wd_673⟩
theorem cal_Hd_goRound : CalV yX0_goRound RX0 cX0_goRound 9 (some .int) 3 := ⟨by decide +kernel, wd_642, wd_643, wd_46, wd_644⟩
theorem cal_Ob_hold : CalV yX8_hold RX8 cX8_hold 4 (some .int) 2 := ⟨by decide +kernel, wd_638, wd_639, wd_41, wd_640⟩
theorem cal_Md_stands : CalV yX9_stands RX9 cX9_stands 3 none 1 := ⟨by decide +kernel, wd_1092, wd_35, wd_50, wd_1093⟩
theorem cal_Md_isAlike : CalV yX9_isAlike RX9 cX9_isAlike 5 (some .boolean) 2 := ⟨by decide +kernel, wd_1096, wd_36, wd_50, wd_1097⟩
theorem cal_Md_hold : CalV yX9_hold RX9 cX9_hold 7 (some .int) 2 := ⟨by decide +kernel, wd_1086, wd_1087, wd_50, wd_1088⟩
theorem cal_Ob_held : CalV yX8_held RX8 cX8_held 2 (some .long) 1 := ⟨by decide +kernel, wd_677, wd_678, wd_41, wd_679⟩
theorem cal_Md_held : CalV yX9_held RX9 cX9_held 2 (some .long) 1 := ⟨by decide +kernel, wd_1099, wd_1100, wd_50, wd_1101⟩
theorem cal_Ob_isReachable : CalV yX8_isReachable RX8 cX8_isReachable 2 (some .boolean) 0 := ⟨by decide +kernel, wd_687, wd_15, wd_41, wd_688⟩
theorem cal_Sn_restore : CalV yX4_restore RX4 cX4_restore 4 none 2 := ⟨by decide +kernel, wd_701, wd_702, wd_45, wd_703⟩
theorem cal_Rc_isBeyond : CalV yX2_isBeyond RX2 cX2_isBeyond 7 (some .boolean) 2 := ⟨by decide +kernel, wd_707, wd_17, wd_47, wd_708⟩
theorem cal_Rc_tellRow : CalV yX2_tellRow RX2 cX2_tellRow 7 none 2 := ⟨by decide +kernel, wd_711, wd_18, wd_47, wd_712⟩
theorem cal_Rc_tryFrom : CalV yX2_tryFrom RX2 cX2_tryFrom 7 (some .int) 4 := ⟨by decide +kernel, wd_698, wd_16, wd_47, wd_699⟩
theorem cal_Rc_findStands : CalV yX2_findStands RX2 cX2_findStands 12 (some .int) 4 := ⟨by decide +kernel, wd_690, wd_691, wd_47, wd_692⟩
theorem cal_Ob_reach : CalV yX8_reach RX8 cX8_reach 7 (some .int) 3 := ⟨by decide +kernel, wd_681, wd_682, wd_41, wd_683⟩
theorem cal_Md_mayReach : CalV yX9_mayReach RX9 cX9_mayReach 3 (some .boolean) 0 := ⟨by decide +kernel, wd_1108, wd_37, wd_50, wd_1109⟩
theorem cal_Md_tellRow : CalV yX9_tellRow RX9 cX9_tellRow 7 none 2 := ⟨by decide +kernel, wd_1112, wd_38, wd_50, wd_1113⟩
theorem cal_Md_reach : CalV yX9_reach RX9 cX9_reach 15 (some .int) 3 := ⟨by decide +kernel, wd_1103, wd_1104, wd_50, wd_1105⟩
theorem cal_Ob_leaving : CalV yX8_leaving RX8 cX8_leaving 2 (some .long) 1 := ⟨by decide +kernel, wd_714, wd_715, wd_41, wd_716⟩
theorem cal_Md_leaving : CalV yX9_leaving RX9 cX9_leaving 2 (some .long) 1 := ⟨by decide +kernel, wd_1115, wd_1116, wd_50, wd_1117⟩
theorem cal_J6_numberOfTrailingZeros_0f7a4 : CalS yJ6_numberOfTrailingZeros_0f7a4 cJ6_numberOfTrailingZeros_0f7a4 2 (some .int) 1 := ⟨by decide +kernel, wd_728, wd_56, wd_729⟩
theorem cal_Ws_isOne : CalS yX7_isOne cX7_isOne 3 (some .boolean) 3 := ⟨by decide +kernel, wd_737, wd_48, wd_738⟩
theorem cal_Ws_goOn : CalV yX7_goOn RX7 cX7_goOn 9 (some .boolean) 5 := ⟨by decide +kernel, wd_733, wd_19, wd_48, wd_734⟩
theorem cal_Ws_goThroughAll : CalV yX7_goThroughAll RX7 cX7_goThroughAll 15 (some .boolean) 3 := ⟨by decide +kernel, wd_722, wd_723, wd_48, wd_724⟩
theorem cal_Ob_worst : CalV yX8_worst RX8 cX8_worst 7 (some .long) 3 := ⟨by decide +kernel, wd_718, wd_719, wd_41, wd_720⟩
theorem cal_Md_refuses : CalV yX9_refuses RX9 cX9_refuses 2 (some .long) 1 := ⟨by decide +kernel, wd_1125, wd_39, wd_50, wd_1126⟩
theorem cal_Md_worst : CalV yX9_worst RX9 cX9_worst 14 (some .long) 3 := ⟨by decide +kernel, wd_1119, wd_1120, wd_50, wd_1121⟩
theorem cal_Ws_sampleOf : CalV yX7_sampleOf RX7 cX7_sampleOf 2 (some .long) 1 := ⟨by decide +kernel, wd_746, wd_747, wd_48, wd_748⟩
theorem cal_Ob_worstAt : CalV yX8_worstAt RX8 cX8_worstAt 2 (some .long) 1 := ⟨by decide +kernel, wd_742, wd_743, wd_41, wd_744⟩
theorem cal_Md_worstAt : CalV yX9_worstAt RX9 cX9_worstAt 2 (some .long) 1 := ⟨by decide +kernel, wd_1128, wd_1129, wd_50, wd_1130⟩
theorem cal_Ob_count : CalV yX8_count RX8 cX8_count 2 (some .int) 1 := ⟨by decide +kernel, wd_750, wd_751, wd_41, wd_752⟩
theorem cal_Md_count : CalV yX9_count RX9 cX9_count 2 (some .int) 1 := ⟨by decide +kernel, wd_1132, wd_1133, wd_50, wd_1134⟩
theorem cal_Ob_digest : CalV yX8_digest RX8 cX8_digest 5 (some .long) 0 := ⟨by decide +kernel, wd_754, wd_755, wd_41, wd_756⟩
theorem cal_Md_digest : CalV yX9_digest RX9 cX9_digest 5 (some .long) 0 := ⟨by decide +kernel, wd_1136, wd_1137, wd_50, wd_1138⟩
theorem mc_abs : Cond.code Lib.MathLoose.abs_long.x Lib.MathLoose.abs_long.code 2 (some .long) ∈ lw_g := lw_g_mem (List.mem_of_getElem? (i := 520) (by decide +kernel)) (by decide +kernel)
theorem mc_max : Cond.code Lib.MathLoose.max_long.x Lib.MathLoose.max_long.code 4 (some .long) ∈ lw_g := lw_g_mem (List.mem_of_getElem? (i := 440) (by decide +kernel)) (by decide +kernel)
theorem mc_min : Cond.code Lib.MathLoose.min_long.x Lib.MathLoose.min_long.code 4 (some .long) ∈ lw_g := lw_g_mem (List.mem_of_getElem? (i := 437) (by decide +kernel)) (by decide +kernel)
abbrev rm_Rl_init : Room := { frames := 1, cells := 1, slots := 60, locals := 20 }
abbrev rm_Sp_init : Room := { frames := 1, cells := 4, slots := 31, locals := 20 }
abbrev rm_Lg_init : Room := { frames := 1, cells := 2, slots := 2400, locals := 20 }
abbrev rm_Sn_init : Room := { frames := 1, cells := 3, slots := 5435, locals := 20 }
abbrev rm_Hd_init : Room := { frames := 1, cells := 1, slots := 400, locals := 20 }
abbrev rm_Rc_init : Room := { frames := 1, cells := 3, slots := 1500, locals := 20 }
abbrev rm_Tw_init : Room := { frames := 1, cells := 2, slots := 45, locals := 20 }
abbrev rm_Ws_init : Room := { frames := 2, cells := 40, slots := 676, locals := 41 }
abbrev rm_Ob_init : Room := { frames := 3, cells := 79, slots := 10979, locals := 63 }
abbrev rm_Md_init : Room := { frames := 1, cells := 25, slots := 10350, locals := 20 }
abbrev rm_Ob_isReel : Room := { frames := 0, cells := 0, slots := 0, locals := 0 }
abbrev rm_Ob_isForm : Room := { frames := 0, cells := 0, slots := 0, locals := 0 }
abbrev rm_Ob_found : Room := { frames := 0, cells := 0, slots := 0, locals := 0 }
abbrev rm_J7_fill_d0a16 : Room := { frames := 0, cells := 0, slots := 0, locals := 0 }
abbrev rm_Rl_renew : Room := { frames := 1, cells := 0, slots := 0, locals := 24 }
abbrev rm_Ob_reel : Room := { frames := 2, cells := 0, slots := 0, locals := 46 }
abbrev rm_Md_in : Room := { frames := 0, cells := 0, slots := 0, locals := 0 }
abbrev rm_Md_isReel : Room := { frames := 1, cells := 0, slots := 0, locals := 25 }
abbrev rm_Md_meets : Room := { frames := 0, cells := 0, slots := 0, locals := 0 }
abbrev rm_Md_reel : Room := { frames := 2, cells := 0, slots := 0, locals := 45 }
abbrev rm_Ob_lose : Room := { frames := 1, cells := 0, slots := 0, locals := 21 }
abbrev rm_Md_lose : Room := { frames := 2, cells := 0, slots := 0, locals := 45 }
abbrev rm_Rl_hasItem : Room := { frames := 0, cells := 0, slots := 0, locals := 0 }
abbrev rm_Ob_refuseItem : Room := { frames := 1, cells := 0, slots := 0, locals := 22 }
abbrev rm_Ob_isNoNumber : Room := { frames := 0, cells := 0, slots := 0, locals := 0 }
abbrev rm_Ob_bitsAsHeld : Room := { frames := 1, cells := 0, slots := 0, locals := 22 }
abbrev rm_Ob_put : Room := { frames := 2, cells := 0, slots := 0, locals := 45 }
abbrev rm_Md_lacks : Room := { frames := 1, cells := 0, slots := 0, locals := 25 }
abbrev rm_Md_laid : Room := { frames := 0, cells := 0, slots := 0, locals := 0 }
abbrev rm_Md_put : Room := { frames := 2, cells := 0, slots := 0, locals := 48 }
abbrev rm_Ob_get : Room := { frames := 2, cells := 0, slots := 0, locals := 45 }
abbrev rm_Md_get : Room := { frames := 2, cells := 0, slots := 0, locals := 48 }
abbrev rm_Rl_hasRow : Room := { frames := 0, cells := 0, slots := 0, locals := 0 }
abbrev rm_Ob_copy : Room := { frames := 1, cells := 0, slots := 0, locals := 28 }
abbrev rm_Md_copy : Room := { frames := 2, cells := 0, slots := 0, locals := 45 }
abbrev rm_Ob_refuseSample : Room := { frames := 1, cells := 0, slots := 0, locals := 22 }
abbrev rm_Lg_latestMade : Room := { frames := 0, cells := 0, slots := 0, locals := 0 }
abbrev rm_Ob_sizeOfParts : Room := { frames := 1, cells := 0, slots := 0, locals := 28 }
abbrev rm_Ob_cutToSample : Room := { frames := 2, cells := 0, slots := 0, locals := 58 }
abbrev rm_Rl_sampleOf : Room := { frames := 3, cells := 0, slots := 0, locals := 82 }
abbrev rm_Ob_sample : Room := { frames := 4, cells := 0, slots := 0, locals := 105 }
abbrev rm_Md_sampleOf : Room := { frames := 1, cells := 0, slots := 0, locals := 28 }
abbrev rm_Md_sample : Room := { frames := 2, cells := 0, slots := 0, locals := 54 }
abbrev rm_Ob_isStageAsTold : Room := { frames := 0, cells := 0, slots := 0, locals := 0 }
abbrev rm_Sp_addStage : Room := { frames := 0, cells := 0, slots := 0, locals := 0 }
abbrev rm_Ob_stage : Room := { frames := 1, cells := 0, slots := 0, locals := 25 }
abbrev rm_Md_stage : Room := { frames := 1, cells := 0, slots := 0, locals := 25 }
abbrev rm_Ob_isSample : Room := { frames := 0, cells := 0, slots := 0, locals := 0 }
abbrev rm_Sp_layLevels : Room := { frames := 0, cells := 0, slots := 0, locals := 0 }
abbrev rm_Ob_levels : Room := { frames := 1, cells := 0, slots := 0, locals := 26 }
abbrev rm_Md_isSample : Room := { frames := 1, cells := 0, slots := 0, locals := 25 }
abbrev rm_Md_levels : Room := { frames := 2, cells := 0, slots := 0, locals := 46 }
abbrev rm_Sp_hasLevel : Room := { frames := 0, cells := 0, slots := 0, locals := 0 }
abbrev rm_Sp_wouldRise : Room := { frames := 0, cells := 0, slots := 0, locals := 0 }
abbrev rm_Ob_level : Room := { frames := 1, cells := 0, slots := 0, locals := 23 }
abbrev rm_Md_level : Room := { frames := 2, cells := 0, slots := 0, locals := 46 }
abbrev rm_Ob_lot : Room := { frames := 0, cells := 0, slots := 0, locals := 0 }
abbrev rm_Md_lot : Room := { frames := 1, cells := 0, slots := 0, locals := 25 }
abbrev rm_Tw_becomeLike : Room := { frames := 1, cells := 0, slots := 0, locals := 28 }
abbrev rm_Tw_drawLot : Room := { frames := 0, cells := 0, slots := 0, locals := 0 }
abbrev rm_Sp_nearestTo : Room := { frames := 1, cells := 0, slots := 0, locals := 28 }
abbrev rm_Tw_mark : Room := { frames := 0, cells := 0, slots := 0, locals := 0 }
abbrev rm_Tw_turnedBy : Room := { frames := 0, cells := 0, slots := 0, locals := 0 }
abbrev rm_Tw_leak : Room := { frames := 0, cells := 0, slots := 0, locals := 0 }
abbrev rm_Tw_addUp : Room := { frames := 0, cells := 0, slots := 0, locals := 0 }
abbrev rm_Tw_cutToBound : Room := { frames := 1, cells := 0, slots := 0, locals := 28 }
abbrev rm_Tw_takeStage : Room := { frames := 2, cells := 0, slots := 0, locals := 56 }
abbrev rm_Tw_isGreat : Room := { frames := 0, cells := 0, slots := 0, locals := 0 }
abbrev rm_Tw_makeStep : Room := { frames := 3, cells := 0, slots := 0, locals := 88 }
abbrev rm_Lg_write : Room := { frames := 0, cells := 0, slots := 0, locals := 0 }
abbrev rm_Ob_makeOne : Room := { frames := 4, cells := 0, slots := 0, locals := 119 }
abbrev rm_Ob_step : Room := { frames := 5, cells := 0, slots := 0, locals := 142 }
abbrev rm_Md_take : Room := { frames := 0, cells := 0, slots := 0, locals := 0 }
abbrev rm_Md_nearest : Room := { frames := 0, cells := 0, slots := 0, locals := 0 }
abbrev rm_Md_writes : Room := { frames := 0, cells := 0, slots := 0, locals := 0 }
abbrev rm_Md_plain : Room := { frames := 1, cells := 0, slots := 0, locals := 21 }
abbrev rm_Md_leaky : Room := { frames := 2, cells := 0, slots := 0, locals := 46 }
abbrev rm_Md_bounded : Room := { frames := 2, cells := 0, slots := 0, locals := 46 }
abbrev rm_Md_takes : Room := { frames := 3, cells := 0, slots := 0, locals := 75 }
abbrev rm_Md_tries : Room := { frames := 4, cells := 0, slots := 0, locals := 102 }
abbrev rm_Md_lay : Room := { frames := 0, cells := 0, slots := 0, locals := 0 }
abbrev rm_Md_does : Room := { frames := 5, cells := 0, slots := 0, locals := 131 }
abbrev rm_Md_step : Room := { frames := 6, cells := 0, slots := 0, locals := 154 }
abbrev rm_Ob_run : Room := { frames := 5, cells := 0, slots := 0, locals := 142 }
abbrev rm_Md_run : Room := { frames := 6, cells := 0, slots := 0, locals := 154 }
abbrev rm_Tw_beginAgain : Room := { frames := 1, cells := 0, slots := 0, locals := 24 }
abbrev rm_Ob_undo : Room := { frames := 4, cells := 0, slots := 0, locals := 119 }
abbrev rm_Md_rest : Room := { frames := 0, cells := 0, slots := 0, locals := 0 }
abbrev rm_Md_undo : Room := { frames := 5, cells := 0, slots := 0, locals := 131 }
abbrev rm_Ob_clear : Room := { frames := 2, cells := 0, slots := 0, locals := 44 }
abbrev rm_Md_clear : Room := { frames := 1, cells := 0, slots := 0, locals := 21 }
abbrev rm_Sp_hasStage : Room := { frames := 0, cells := 0, slots := 0, locals := 0 }
abbrev rm_Ob_stageAt : Room := { frames := 1, cells := 0, slots := 0, locals := 21 }
abbrev rm_Md_stageAt : Room := { frames := 1, cells := 0, slots := 0, locals := 25 }
abbrev rm_Ob_levelAt : Room := { frames := 1, cells := 0, slots := 0, locals := 21 }
abbrev rm_Md_levelAt : Room := { frames := 1, cells := 0, slots := 0, locals := 25 }
abbrev rm_Lg_hasStep : Room := { frames := 0, cells := 0, slots := 0, locals := 0 }
abbrev rm_Ob_isRecorded : Room := { frames := 1, cells := 0, slots := 0, locals := 21 }
abbrev rm_Ob_record : Room := { frames := 2, cells := 0, slots := 0, locals := 43 }
abbrev rm_Md_isRecord : Room := { frames := 1, cells := 0, slots := 0, locals := 25 }
abbrev rm_Md_record : Room := { frames := 2, cells := 0, slots := 0, locals := 47 }
abbrev rm_Ob_forge : Room := { frames := 2, cells := 0, slots := 0, locals := 43 }
abbrev rm_Md_forge : Room := { frames := 2, cells := 0, slots := 0, locals := 47 }
abbrev rm_Lg_levelOf : Room := { frames := 0, cells := 0, slots := 0, locals := 0 }
abbrev rm_Lg_agrees : Room := { frames := 1, cells := 0, slots := 0, locals := 21 }
abbrev rm_Ob_check : Room := { frames := 4, cells := 0, slots := 0, locals := 119 }
abbrev rm_Md_check : Room := { frames := 5, cells := 0, slots := 0, locals := 131 }
abbrev rm_Ob_read : Room := { frames := 1, cells := 0, slots := 0, locals := 21 }
abbrev rm_Md_read : Room := { frames := 1, cells := 0, slots := 0, locals := 25 }
abbrev rm_Ob_weight : Room := { frames := 0, cells := 0, slots := 0, locals := 0 }
abbrev rm_Md_weight : Room := { frames := 1, cells := 0, slots := 0, locals := 25 }
abbrev rm_Lg_runningSum : Room := { frames := 1, cells := 0, slots := 0, locals := 21 }
abbrev rm_Ob_sums : Room := { frames := 2, cells := 0, slots := 0, locals := 52 }
abbrev rm_Md_sums : Room := { frames := 1, cells := 0, slots := 0, locals := 25 }
abbrev rm_Ob_trace : Room := { frames := 0, cells := 0, slots := 0, locals := 0 }
abbrev rm_Md_trace : Room := { frames := 1, cells := 0, slots := 0, locals := 25 }
abbrev rm_J7_fill_53178 : Room := { frames := 0, cells := 0, slots := 0, locals := 0 }
abbrev rm_Sn_empty : Room := { frames := 1, cells := 0, slots := 0, locals := 23 }
abbrev rm_Sn_ask : Room := { frames := 0, cells := 0, slots := 0, locals := 0 }
abbrev rm_Sn_hashOfAsked : Room := { frames := 0, cells := 0, slots := 0, locals := 0 }
abbrev rm_Sn_isAsked : Room := { frames := 0, cells := 0, slots := 0, locals := 0 }
abbrev rm_Sn_find : Room := { frames := 1, cells := 0, slots := 0, locals := 23 }
abbrev rm_Sn_addAsked : Room := { frames := 1, cells := 0, slots := 0, locals := 28 }
abbrev rm_Hd_goRound : Room := { frames := 4, cells := 0, slots := 0, locals := 119 }
abbrev rm_Ob_hold : Room := { frames := 5, cells := 0, slots := 0, locals := 147 }
abbrev rm_Md_stands : Room := { frames := 0, cells := 0, slots := 0, locals := 0 }
abbrev rm_Md_isAlike : Room := { frames := 0, cells := 0, slots := 0, locals := 0 }
abbrev rm_Md_hold : Room := { frames := 5, cells := 0, slots := 0, locals := 131 }
abbrev rm_Ob_held : Room := { frames := 0, cells := 0, slots := 0, locals := 0 }
abbrev rm_Md_held : Room := { frames := 1, cells := 0, slots := 0, locals := 25 }
abbrev rm_Ob_isReachable : Room := { frames := 0, cells := 0, slots := 0, locals := 0 }
abbrev rm_Sn_restore : Room := { frames := 0, cells := 0, slots := 0, locals := 0 }
abbrev rm_Rc_isBeyond : Room := { frames := 0, cells := 0, slots := 0, locals := 0 }
abbrev rm_Rc_tellRow : Room := { frames := 0, cells := 0, slots := 0, locals := 0 }
abbrev rm_Rc_tryFrom : Room := { frames := 4, cells := 0, slots := 0, locals := 119 }
abbrev rm_Rc_findStands : Room := { frames := 5, cells := 0, slots := 0, locals := 145 }
abbrev rm_Ob_reach : Room := { frames := 6, cells := 0, slots := 0, locals := 176 }
abbrev rm_Md_mayReach : Room := { frames := 1, cells := 0, slots := 0, locals := 25 }
abbrev rm_Md_tellRow : Room := { frames := 0, cells := 0, slots := 0, locals := 0 }
abbrev rm_Md_reach : Room := { frames := 5, cells := 0, slots := 0, locals := 131 }
abbrev rm_Ob_leaving : Room := { frames := 0, cells := 0, slots := 0, locals := 0 }
abbrev rm_Md_leaving : Room := { frames := 1, cells := 0, slots := 0, locals := 25 }
abbrev rm_J6_numberOfTrailingZeros_0f7a4 : Room := { frames := 0, cells := 0, slots := 0, locals := 0 }
abbrev rm_Ws_isOne : Room := { frames := 0, cells := 0, slots := 0, locals := 0 }
abbrev rm_Ws_goOn : Room := { frames := 4, cells := 0, slots := 0, locals := 119 }
abbrev rm_Ws_goThroughAll : Room := { frames := 5, cells := 0, slots := 0, locals := 147 }
abbrev rm_Ob_worst : Room := { frames := 6, cells := 0, slots := 0, locals := 181 }
abbrev rm_Md_refuses : Room := { frames := 0, cells := 0, slots := 0, locals := 0 }
abbrev rm_Md_worst : Room := { frames := 5, cells := 0, slots := 0, locals := 131 }
abbrev rm_Ws_sampleOf : Room := { frames := 1, cells := 0, slots := 0, locals := 22 }
abbrev rm_Ob_worstAt : Room := { frames := 2, cells := 0, slots := 0, locals := 43 }
abbrev rm_Md_worstAt : Room := { frames := 1, cells := 0, slots := 0, locals := 25 }
abbrev rm_Ob_count : Room := { frames := 0, cells := 0, slots := 0, locals := 0 }
abbrev rm_Md_count : Room := { frames := 0, cells := 0, slots := 0, locals := 0 }
abbrev rm_Ob_digest : Room := { frames := 1, cells := 0, slots := 0, locals := 21 }
abbrev rm_Md_digest : Room := { frames := 2, cells := 0, slots := 0, locals := 47 }
theorem fits_Rl_renew_J7_fill_d0a16 : Fits rm_Rl_renew rm_J7_fill_d0a16 5 0 0 := by unfold Fits; decide
theorem fits_Ob_reel_Ob_found : Fits rm_Ob_reel rm_Ob_found 2 0 0 := by unfold Fits; decide
theorem fits_Ob_reel_Ob_isForm : Fits rm_Ob_reel rm_Ob_isForm 1 0 0 := by unfold Fits; decide
theorem fits_Ob_reel_Ob_isReel : Fits rm_Ob_reel rm_Ob_isReel 1 0 0 := by unfold Fits; decide
theorem fits_Ob_reel_Rl_renew : Fits rm_Ob_reel rm_Rl_renew 3 0 0 := by unfold Fits; decide
theorem fits_Md_isReel_Md_in : Fits rm_Md_isReel rm_Md_in 6 0 0 := by unfold Fits; decide
theorem fits_Md_reel_Md_in : Fits rm_Md_reel rm_Md_in 6 0 0 := by unfold Fits; decide
theorem fits_Md_reel_Md_isReel : Fits rm_Md_reel rm_Md_isReel 1 0 0 := by unfold Fits; decide
theorem fits_Md_reel_Md_meets : Fits rm_Md_reel rm_Md_meets 2 0 0 := by unfold Fits; decide
theorem fits_Ob_lose_Ob_found : Fits rm_Ob_lose rm_Ob_found 2 0 0 := by unfold Fits; decide
theorem fits_Ob_lose_Ob_isReel : Fits rm_Ob_lose rm_Ob_isReel 1 0 0 := by unfold Fits; decide
theorem fits_Md_lose_Md_isReel : Fits rm_Md_lose rm_Md_isReel 1 0 0 := by unfold Fits; decide
theorem fits_Md_lose_Md_meets : Fits rm_Md_lose rm_Md_meets 2 0 0 := by unfold Fits; decide
theorem fits_Ob_refuseItem_Ob_found : Fits rm_Ob_refuseItem rm_Ob_found 2 0 0 := by unfold Fits; decide
theorem fits_Ob_refuseItem_Ob_isForm : Fits rm_Ob_refuseItem rm_Ob_isForm 1 0 0 := by unfold Fits; decide
theorem fits_Ob_refuseItem_Ob_isReel : Fits rm_Ob_refuseItem rm_Ob_isReel 1 0 0 := by unfold Fits; decide
theorem fits_Ob_refuseItem_Rl_hasItem : Fits rm_Ob_refuseItem rm_Rl_hasItem 3 0 0 := by unfold Fits; decide
theorem fits_Ob_bitsAsHeld_Ob_isNoNumber : Fits rm_Ob_bitsAsHeld rm_Ob_isNoNumber 3 0 0 := by unfold Fits; decide
theorem fits_Ob_put_Ob_bitsAsHeld : Fits rm_Ob_put rm_Ob_bitsAsHeld 3 0 0 := by unfold Fits; decide
theorem fits_Ob_put_Ob_refuseItem : Fits rm_Ob_put rm_Ob_refuseItem 4 0 0 := by unfold Fits; decide
theorem fits_Md_lacks_Md_in : Fits rm_Md_lacks rm_Md_in 6 0 0 := by unfold Fits; decide
theorem fits_Md_put_Md_in : Fits rm_Md_put rm_Md_in 6 0 0 := by unfold Fits; decide
theorem fits_Md_put_Md_isReel : Fits rm_Md_put rm_Md_isReel 1 0 0 := by unfold Fits; decide
theorem fits_Md_put_Md_lacks : Fits rm_Md_put rm_Md_lacks 4 0 0 := by unfold Fits; decide
theorem fits_Md_put_Md_laid : Fits rm_Md_put rm_Md_laid 3 0 0 := by unfold Fits; decide
theorem fits_Md_put_Md_meets : Fits rm_Md_put rm_Md_meets 2 0 0 := by unfold Fits; decide
theorem fits_Ob_get_Ob_refuseItem : Fits rm_Ob_get rm_Ob_refuseItem 4 0 0 := by unfold Fits; decide
theorem fits_Md_get_Md_in : Fits rm_Md_get rm_Md_in 6 0 0 := by unfold Fits; decide
theorem fits_Md_get_Md_isReel : Fits rm_Md_get rm_Md_isReel 1 0 0 := by unfold Fits; decide
theorem fits_Md_get_Md_lacks : Fits rm_Md_get rm_Md_lacks 4 0 0 := by unfold Fits; decide
theorem fits_Md_get_Md_meets : Fits rm_Md_get rm_Md_meets 2 0 0 := by unfold Fits; decide
theorem fits_Ob_copy_Ob_found : Fits rm_Ob_copy rm_Ob_found 2 0 0 := by unfold Fits; decide
theorem fits_Ob_copy_Ob_isReel : Fits rm_Ob_copy rm_Ob_isReel 1 0 0 := by unfold Fits; decide
theorem fits_Ob_copy_Rl_hasRow : Fits rm_Ob_copy rm_Rl_hasRow 3 0 0 := by unfold Fits; decide
theorem fits_Md_copy_Md_isReel : Fits rm_Md_copy rm_Md_isReel 1 0 0 := by unfold Fits; decide
theorem fits_Md_copy_Md_meets : Fits rm_Md_copy rm_Md_meets 2 0 0 := by unfold Fits; decide
theorem fits_Ob_refuseSample_Ob_found : Fits rm_Ob_refuseSample rm_Ob_found 2 0 0 := by unfold Fits; decide
theorem fits_Ob_refuseSample_Rl_hasItem : Fits rm_Ob_refuseSample rm_Rl_hasItem 3 0 0 := by unfold Fits; decide
theorem fits_Ob_cutToSample_Ob_sizeOfParts : Fits rm_Ob_cutToSample rm_Ob_sizeOfParts 11 0 0 := by unfold Fits; decide
theorem fits_Rl_sampleOf_Ob_cutToSample : Fits rm_Rl_sampleOf rm_Ob_cutToSample 5 0 0 := by unfold Fits; decide
theorem fits_Rl_sampleOf_Ob_isNoNumber : Fits rm_Rl_sampleOf rm_Ob_isNoNumber 3 0 0 := by unfold Fits; decide
theorem fits_Ob_sample_Lg_latestMade : Fits rm_Ob_sample rm_Lg_latestMade 1 0 0 := by unfold Fits; decide
theorem fits_Ob_sample_Ob_isReel : Fits rm_Ob_sample rm_Ob_isReel 1 0 0 := by unfold Fits; decide
theorem fits_Ob_sample_Ob_refuseSample : Fits rm_Ob_sample rm_Ob_refuseSample 4 0 0 := by unfold Fits; decide
theorem fits_Ob_sample_Rl_sampleOf : Fits rm_Ob_sample rm_Rl_sampleOf 4 0 0 := by unfold Fits; decide
theorem fits_Md_sample_Md_isReel : Fits rm_Md_sample rm_Md_isReel 1 0 0 := by unfold Fits; decide
theorem fits_Md_sample_Md_lacks : Fits rm_Md_sample rm_Md_lacks 4 0 0 := by unfold Fits; decide
theorem fits_Md_sample_Md_meets : Fits rm_Md_sample rm_Md_meets 2 0 0 := by unfold Fits; decide
theorem fits_Md_sample_Md_sampleOf : Fits rm_Md_sample rm_Md_sampleOf 7 0 0 := by unfold Fits; decide
theorem fits_Ob_stage_Ob_isStageAsTold : Fits rm_Ob_stage rm_Ob_isStageAsTold 6 0 0 := by unfold Fits; decide
theorem fits_Ob_stage_Sp_addStage : Fits rm_Ob_stage rm_Sp_addStage 5 0 0 := by unfold Fits; decide
theorem fits_Md_stage_Md_in : Fits rm_Md_stage rm_Md_in 6 0 0 := by unfold Fits; decide
theorem fits_Ob_levels_Ob_isSample : Fits rm_Ob_levels rm_Ob_isSample 2 0 0 := by unfold Fits; decide
theorem fits_Ob_levels_Sp_layLevels : Fits rm_Ob_levels rm_Sp_layLevels 7 0 0 := by unfold Fits; decide
theorem fits_Md_isSample_Md_in : Fits rm_Md_isSample rm_Md_in 6 0 0 := by unfold Fits; decide
theorem fits_Md_levels_Md_in : Fits rm_Md_levels rm_Md_in 6 0 0 := by unfold Fits; decide
theorem fits_Md_levels_Md_isSample : Fits rm_Md_levels rm_Md_isSample 2 0 0 := by unfold Fits; decide
theorem fits_Ob_level_Ob_isSample : Fits rm_Ob_level rm_Ob_isSample 2 0 0 := by unfold Fits; decide
theorem fits_Ob_level_Sp_hasLevel : Fits rm_Ob_level rm_Sp_hasLevel 2 0 0 := by unfold Fits; decide
theorem fits_Ob_level_Sp_wouldRise : Fits rm_Ob_level rm_Sp_wouldRise 4 0 0 := by unfold Fits; decide
theorem fits_Md_level_Md_in : Fits rm_Md_level rm_Md_in 6 0 0 := by unfold Fits; decide
theorem fits_Md_level_Md_isSample : Fits rm_Md_level rm_Md_isSample 2 0 0 := by unfold Fits; decide
theorem fits_Md_lot_Md_in : Fits rm_Md_lot rm_Md_in 6 0 0 := by unfold Fits; decide
theorem fits_Tw_takeStage_Tw_addUp : Fits rm_Tw_takeStage rm_Tw_addUp 7 0 0 := by unfold Fits; decide
theorem fits_Tw_takeStage_Tw_cutToBound : Fits rm_Tw_takeStage rm_Tw_cutToBound 9 0 0 := by unfold Fits; decide
theorem fits_Tw_takeStage_Tw_leak : Fits rm_Tw_takeStage rm_Tw_leak 5 0 0 := by unfold Fits; decide
theorem fits_Tw_takeStage_Tw_mark : Fits rm_Tw_takeStage rm_Tw_mark 2 0 0 := by unfold Fits; decide
theorem fits_Tw_takeStage_Tw_turnedBy : Fits rm_Tw_takeStage rm_Tw_turnedBy 3 0 0 := by unfold Fits; decide
theorem fits_Tw_makeStep_Sp_nearestTo : Fits rm_Tw_makeStep rm_Sp_nearestTo 4 0 0 := by unfold Fits; decide
theorem fits_Tw_makeStep_Tw_drawLot : Fits rm_Tw_makeStep rm_Tw_drawLot 1 0 0 := by unfold Fits; decide
theorem fits_Tw_makeStep_Tw_isGreat : Fits rm_Tw_makeStep rm_Tw_isGreat 2 0 0 := by unfold Fits; decide
theorem fits_Tw_makeStep_Tw_takeStage : Fits rm_Tw_makeStep rm_Tw_takeStage 13 0 0 := by unfold Fits; decide
theorem fits_Ob_makeOne_Lg_write : Fits rm_Ob_makeOne rm_Lg_write 6 0 0 := by unfold Fits; decide
theorem fits_Ob_makeOne_Tw_becomeLike : Fits rm_Ob_makeOne rm_Tw_becomeLike 2 0 0 := by unfold Fits; decide
theorem fits_Ob_makeOne_Tw_makeStep : Fits rm_Ob_makeOne rm_Tw_makeStep 12 0 0 := by unfold Fits; decide
theorem fits_Ob_step_Ob_isSample : Fits rm_Ob_step rm_Ob_isSample 2 0 0 := by unfold Fits; decide
theorem fits_Ob_step_Ob_makeOne : Fits rm_Ob_step rm_Ob_makeOne 4 0 0 := by unfold Fits; decide
theorem fits_Md_plain_Md_writes : Fits rm_Md_plain rm_Md_writes 2 0 0 := by unfold Fits; decide
theorem fits_Md_leaky_Md_plain : Fits rm_Md_leaky rm_Md_plain 6 0 0 := by unfold Fits; decide
theorem fits_Md_leaky_Md_writes : Fits rm_Md_leaky rm_Md_writes 2 0 0 := by unfold Fits; decide
theorem fits_Md_bounded_Md_plain : Fits rm_Md_bounded rm_Md_plain 6 0 0 := by unfold Fits; decide
theorem fits_Md_bounded_Md_writes : Fits rm_Md_bounded rm_Md_writes 2 0 0 := by unfold Fits; decide
theorem fits_Md_takes_Md_bounded : Fits rm_Md_takes rm_Md_bounded 10 0 0 := by unfold Fits; decide
theorem fits_Md_takes_Md_leaky : Fits rm_Md_takes rm_Md_leaky 8 0 0 := by unfold Fits; decide
theorem fits_Md_takes_Md_plain : Fits rm_Md_takes rm_Md_plain 6 0 0 := by unfold Fits; decide
theorem fits_Md_takes_Md_writes : Fits rm_Md_takes rm_Md_writes 2 0 0 := by unfold Fits; decide
theorem fits_Md_tries_Md_in : Fits rm_Md_tries rm_Md_in 6 0 0 := by unfold Fits; decide
theorem fits_Md_tries_Md_nearest : Fits rm_Md_tries rm_Md_nearest 9 0 0 := by unfold Fits; decide
theorem fits_Md_tries_Md_takes : Fits rm_Md_tries rm_Md_takes 8 0 0 := by unfold Fits; decide
theorem fits_Md_does_Md_lay : Fits rm_Md_does rm_Md_lay 2 0 0 := by unfold Fits; decide
theorem fits_Md_does_Md_take : Fits rm_Md_does rm_Md_take 2 0 0 := by unfold Fits; decide
theorem fits_Md_does_Md_tries : Fits rm_Md_does rm_Md_tries 10 0 0 := by unfold Fits; decide
theorem fits_Md_step_Md_does : Fits rm_Md_step rm_Md_does 4 0 0 := by unfold Fits; decide
theorem fits_Md_step_Md_isSample : Fits rm_Md_step rm_Md_isSample 2 0 0 := by unfold Fits; decide
theorem fits_Ob_run_Lg_latestMade : Fits rm_Ob_run rm_Lg_latestMade 1 0 0 := by unfold Fits; decide
theorem fits_Ob_run_Ob_isReel : Fits rm_Ob_run rm_Ob_isReel 1 0 0 := by unfold Fits; decide
theorem fits_Ob_run_Ob_makeOne : Fits rm_Ob_run rm_Ob_makeOne 4 0 0 := by unfold Fits; decide
theorem fits_Ob_run_Ob_refuseSample : Fits rm_Ob_run rm_Ob_refuseSample 4 0 0 := by unfold Fits; decide
theorem fits_Ob_run_Rl_sampleOf : Fits rm_Ob_run rm_Rl_sampleOf 4 0 0 := by unfold Fits; decide
theorem fits_Md_run_Md_does : Fits rm_Md_run rm_Md_does 4 0 0 := by unfold Fits; decide
theorem fits_Md_run_Md_in : Fits rm_Md_run rm_Md_in 6 0 0 := by unfold Fits; decide
theorem fits_Md_run_Md_isReel : Fits rm_Md_run rm_Md_isReel 1 0 0 := by unfold Fits; decide
theorem fits_Md_run_Md_lacks : Fits rm_Md_run rm_Md_lacks 4 0 0 := by unfold Fits; decide
theorem fits_Md_run_Md_meets : Fits rm_Md_run rm_Md_meets 2 0 0 := by unfold Fits; decide
theorem fits_Md_run_Md_sampleOf : Fits rm_Md_run rm_Md_sampleOf 7 0 0 := by unfold Fits; decide
theorem fits_Tw_beginAgain_J7_fill_d0a16 : Fits rm_Tw_beginAgain rm_J7_fill_d0a16 5 0 0 := by unfold Fits; decide
theorem fits_Ob_undo_Tw_becomeLike : Fits rm_Ob_undo rm_Tw_becomeLike 2 0 0 := by unfold Fits; decide
theorem fits_Ob_undo_Tw_beginAgain : Fits rm_Ob_undo rm_Tw_beginAgain 1 0 0 := by unfold Fits; decide
theorem fits_Ob_undo_Tw_makeStep : Fits rm_Ob_undo rm_Tw_makeStep 12 0 0 := by unfold Fits; decide
theorem fits_Md_undo_Md_in : Fits rm_Md_undo rm_Md_in 6 0 0 := by unfold Fits; decide
theorem fits_Md_undo_Md_lay : Fits rm_Md_undo rm_Md_lay 2 0 0 := by unfold Fits; decide
theorem fits_Md_undo_Md_rest : Fits rm_Md_undo rm_Md_rest 2 0 0 := by unfold Fits; decide
theorem fits_Md_undo_Md_tries : Fits rm_Md_undo rm_Md_tries 10 0 0 := by unfold Fits; decide
theorem fits_Ob_clear_Tw_beginAgain : Fits rm_Ob_clear rm_Tw_beginAgain 1 0 0 := by unfold Fits; decide
theorem fits_Md_clear_Md_lay : Fits rm_Md_clear rm_Md_lay 2 0 0 := by unfold Fits; decide
theorem fits_Md_clear_Md_rest : Fits rm_Md_clear rm_Md_rest 2 0 0 := by unfold Fits; decide
theorem fits_Ob_stageAt_Sp_hasStage : Fits rm_Ob_stageAt rm_Sp_hasStage 2 0 0 := by unfold Fits; decide
theorem fits_Md_stageAt_Md_in : Fits rm_Md_stageAt rm_Md_in 6 0 0 := by unfold Fits; decide
theorem fits_Ob_levelAt_Sp_hasLevel : Fits rm_Ob_levelAt rm_Sp_hasLevel 2 0 0 := by unfold Fits; decide
theorem fits_Md_levelAt_Md_in : Fits rm_Md_levelAt rm_Md_in 6 0 0 := by unfold Fits; decide
theorem fits_Ob_isRecorded_Lg_hasStep : Fits rm_Ob_isRecorded rm_Lg_hasStep 2 0 0 := by unfold Fits; decide
theorem fits_Ob_record_Ob_isRecorded : Fits rm_Ob_record rm_Ob_isRecorded 3 0 0 := by unfold Fits; decide
theorem fits_Md_isRecord_Md_in : Fits rm_Md_isRecord rm_Md_in 6 0 0 := by unfold Fits; decide
theorem fits_Md_record_Md_isRecord : Fits rm_Md_record rm_Md_isRecord 3 0 0 := by unfold Fits; decide
theorem fits_Ob_forge_Ob_isRecorded : Fits rm_Ob_forge rm_Ob_isRecorded 3 0 0 := by unfold Fits; decide
theorem fits_Ob_forge_Ob_isSample : Fits rm_Ob_forge rm_Ob_isSample 2 0 0 := by unfold Fits; decide
theorem fits_Md_forge_Md_isRecord : Fits rm_Md_forge rm_Md_isRecord 3 0 0 := by unfold Fits; decide
theorem fits_Md_forge_Md_isSample : Fits rm_Md_forge rm_Md_isSample 2 0 0 := by unfold Fits; decide
theorem fits_Lg_agrees_Lg_levelOf : Fits rm_Lg_agrees rm_Lg_levelOf 2 0 0 := by unfold Fits; decide
theorem fits_Ob_check_Lg_agrees : Fits rm_Ob_check rm_Lg_agrees 4 0 0 := by unfold Fits; decide
theorem fits_Ob_check_Tw_beginAgain : Fits rm_Ob_check rm_Tw_beginAgain 1 0 0 := by unfold Fits; decide
theorem fits_Ob_check_Tw_makeStep : Fits rm_Ob_check rm_Tw_makeStep 12 0 0 := by unfold Fits; decide
theorem fits_Md_check_Md_rest : Fits rm_Md_check rm_Md_rest 2 0 0 := by unfold Fits; decide
theorem fits_Md_check_Md_tries : Fits rm_Md_check rm_Md_tries 10 0 0 := by unfold Fits; decide
theorem fits_Ob_read_Lg_hasStep : Fits rm_Ob_read rm_Lg_hasStep 2 0 0 := by unfold Fits; decide
theorem fits_Ob_read_Lg_levelOf : Fits rm_Ob_read rm_Lg_levelOf 2 0 0 := by unfold Fits; decide
theorem fits_Md_read_Md_in : Fits rm_Md_read rm_Md_in 6 0 0 := by unfold Fits; decide
theorem fits_Md_weight_Md_in : Fits rm_Md_weight rm_Md_in 6 0 0 := by unfold Fits; decide
theorem fits_Lg_runningSum_Lg_levelOf : Fits rm_Lg_runningSum rm_Lg_levelOf 2 0 0 := by unfold Fits; decide
theorem fits_Ob_sums_Lg_hasStep : Fits rm_Ob_sums rm_Lg_hasStep 2 0 0 := by unfold Fits; decide
theorem fits_Ob_sums_Lg_runningSum : Fits rm_Ob_sums rm_Lg_runningSum 12 0 0 := by unfold Fits; decide
theorem fits_Md_sums_Md_in : Fits rm_Md_sums rm_Md_in 6 0 0 := by unfold Fits; decide
theorem fits_Md_trace_Md_in : Fits rm_Md_trace rm_Md_in 6 0 0 := by unfold Fits; decide
theorem fits_Sn_empty_J7_fill_53178 : Fits rm_Sn_empty rm_J7_fill_53178 4 0 0 := by unfold Fits; decide
theorem fits_Sn_find_Sn_ask : Fits rm_Sn_find rm_Sn_ask 4 0 0 := by unfold Fits; decide
theorem fits_Sn_find_Sn_hashOfAsked : Fits rm_Sn_find rm_Sn_hashOfAsked 4 0 0 := by unfold Fits; decide
theorem fits_Sn_find_Sn_isAsked : Fits rm_Sn_find rm_Sn_isAsked 3 0 0 := by unfold Fits; decide
theorem fits_Hd_goRound_Sn_addAsked : Fits rm_Hd_goRound rm_Sn_addAsked 1 0 0 := by unfold Fits; decide
theorem fits_Hd_goRound_Sn_empty : Fits rm_Hd_goRound rm_Sn_empty 1 0 0 := by unfold Fits; decide
theorem fits_Hd_goRound_Sn_find : Fits rm_Hd_goRound rm_Sn_find 4 0 0 := by unfold Fits; decide
theorem fits_Hd_goRound_Tw_makeStep : Fits rm_Hd_goRound rm_Tw_makeStep 12 0 0 := by unfold Fits; decide
theorem fits_Ob_hold_Hd_goRound : Fits rm_Ob_hold rm_Hd_goRound 9 0 0 := by unfold Fits; decide
theorem fits_Ob_hold_Ob_isSample : Fits rm_Ob_hold rm_Ob_isSample 2 0 0 := by unfold Fits; decide
theorem fits_Ob_hold_Tw_becomeLike : Fits rm_Ob_hold rm_Tw_becomeLike 2 0 0 := by unfold Fits; decide
theorem fits_Md_hold_Md_in : Fits rm_Md_hold rm_Md_in 6 0 0 := by unfold Fits; decide
theorem fits_Md_hold_Md_isAlike : Fits rm_Md_hold rm_Md_isAlike 5 0 0 := by unfold Fits; decide
theorem fits_Md_hold_Md_isSample : Fits rm_Md_hold rm_Md_isSample 2 0 0 := by unfold Fits; decide
theorem fits_Md_hold_Md_stands : Fits rm_Md_hold rm_Md_stands 3 0 0 := by unfold Fits; decide
theorem fits_Md_hold_Md_take : Fits rm_Md_hold rm_Md_take 2 0 0 := by unfold Fits; decide
theorem fits_Md_hold_Md_tries : Fits rm_Md_hold rm_Md_tries 10 0 0 := by unfold Fits; decide
theorem fits_Md_held_Md_in : Fits rm_Md_held rm_Md_in 6 0 0 := by unfold Fits; decide
theorem fits_Rc_tryFrom_Rc_isBeyond : Fits rm_Rc_tryFrom rm_Rc_isBeyond 7 0 0 := by unfold Fits; decide
theorem fits_Rc_tryFrom_Rc_tellRow : Fits rm_Rc_tryFrom rm_Rc_tellRow 7 0 0 := by unfold Fits; decide
theorem fits_Rc_tryFrom_Sn_addAsked : Fits rm_Rc_tryFrom rm_Sn_addAsked 1 0 0 := by unfold Fits; decide
theorem fits_Rc_tryFrom_Sn_find : Fits rm_Rc_tryFrom rm_Sn_find 4 0 0 := by unfold Fits; decide
theorem fits_Rc_tryFrom_Sn_restore : Fits rm_Rc_tryFrom rm_Sn_restore 4 0 0 := by unfold Fits; decide
theorem fits_Rc_tryFrom_Tw_makeStep : Fits rm_Rc_tryFrom rm_Tw_makeStep 12 0 0 := by unfold Fits; decide
theorem fits_Rc_findStands_Rc_tryFrom : Fits rm_Rc_findStands rm_Rc_tryFrom 7 0 0 := by unfold Fits; decide
theorem fits_Rc_findStands_Sn_addAsked : Fits rm_Rc_findStands rm_Sn_addAsked 1 0 0 := by unfold Fits; decide
theorem fits_Rc_findStands_Sn_empty : Fits rm_Rc_findStands rm_Sn_empty 1 0 0 := by unfold Fits; decide
theorem fits_Rc_findStands_Sn_find : Fits rm_Rc_findStands rm_Sn_find 4 0 0 := by unfold Fits; decide
theorem fits_Ob_reach_Ob_isReachable : Fits rm_Ob_reach rm_Ob_isReachable 2 0 0 := by unfold Fits; decide
theorem fits_Ob_reach_Ob_isSample : Fits rm_Ob_reach rm_Ob_isSample 2 0 0 := by unfold Fits; decide
theorem fits_Ob_reach_Rc_findStands : Fits rm_Ob_reach rm_Rc_findStands 12 0 0 := by unfold Fits; decide
theorem fits_Ob_reach_Tw_becomeLike : Fits rm_Ob_reach rm_Tw_becomeLike 2 0 0 := by unfold Fits; decide
theorem fits_Md_mayReach_Md_in : Fits rm_Md_mayReach rm_Md_in 6 0 0 := by unfold Fits; decide
theorem fits_Md_reach_Md_in : Fits rm_Md_reach rm_Md_in 6 0 0 := by unfold Fits; decide
theorem fits_Md_reach_Md_isSample : Fits rm_Md_reach rm_Md_isSample 2 0 0 := by unfold Fits; decide
theorem fits_Md_reach_Md_mayReach : Fits rm_Md_reach rm_Md_mayReach 3 0 0 := by unfold Fits; decide
theorem fits_Md_reach_Md_take : Fits rm_Md_reach rm_Md_take 2 0 0 := by unfold Fits; decide
theorem fits_Md_reach_Md_tellRow : Fits rm_Md_reach rm_Md_tellRow 7 0 0 := by unfold Fits; decide
theorem fits_Md_reach_Md_tries : Fits rm_Md_reach rm_Md_tries 10 0 0 := by unfold Fits; decide
theorem fits_Md_leaving_Md_in : Fits rm_Md_leaving rm_Md_in 6 0 0 := by unfold Fits; decide
theorem fits_Ws_goOn_Tw_becomeLike : Fits rm_Ws_goOn rm_Tw_becomeLike 2 0 0 := by unfold Fits; decide
theorem fits_Ws_goOn_Tw_makeStep : Fits rm_Ws_goOn rm_Tw_makeStep 12 0 0 := by unfold Fits; decide
theorem fits_Ws_goOn_Ws_isOne : Fits rm_Ws_goOn rm_Ws_isOne 3 0 0 := by unfold Fits; decide
theorem fits_Ws_goThroughAll_J6_numberOfTrailingZeros_0f7a4 : Fits rm_Ws_goThroughAll rm_J6_numberOfTrailingZeros_0f7a4 2 0 0 := by unfold Fits; decide
theorem fits_Ws_goThroughAll_Tw_beginAgain : Fits rm_Ws_goThroughAll rm_Tw_beginAgain 1 0 0 := by unfold Fits; decide
theorem fits_Ws_goThroughAll_Ws_goOn : Fits rm_Ws_goThroughAll rm_Ws_goOn 9 0 0 := by unfold Fits; decide
theorem fits_Ob_worst_Ob_isSample : Fits rm_Ob_worst rm_Ob_isSample 2 0 0 := by unfold Fits; decide
theorem fits_Ob_worst_Ws_goThroughAll : Fits rm_Ob_worst rm_Ws_goThroughAll 15 0 0 := by unfold Fits; decide
theorem fits_Md_worst_Md_in : Fits rm_Md_worst rm_Md_in 6 0 0 := by unfold Fits; decide
theorem fits_Md_worst_Md_isSample : Fits rm_Md_worst rm_Md_isSample 2 0 0 := by unfold Fits; decide
theorem fits_Md_worst_Md_refuses : Fits rm_Md_worst rm_Md_refuses 2 0 0 := by unfold Fits; decide
theorem fits_Md_worst_Md_rest : Fits rm_Md_worst rm_Md_rest 2 0 0 := by unfold Fits; decide
theorem fits_Md_worst_Md_tries : Fits rm_Md_worst rm_Md_tries 10 0 0 := by unfold Fits; decide
theorem fits_Ws_sampleOf_Ws_isOne : Fits rm_Ws_sampleOf rm_Ws_isOne 3 0 0 := by unfold Fits; decide
theorem fits_Ob_worstAt_Ws_sampleOf : Fits rm_Ob_worstAt rm_Ws_sampleOf 2 0 0 := by unfold Fits; decide
theorem fits_Md_worstAt_Md_in : Fits rm_Md_worstAt rm_Md_in 6 0 0 := by unfold Fits; decide
theorem fits_Ob_digest_Lg_levelOf : Fits rm_Ob_digest rm_Lg_levelOf 2 0 0 := by unfold Fits; decide
theorem fits_Md_digest_Md_stageAt : Fits rm_Md_digest rm_Md_stageAt 3 0 0 := by unfold Fits; decide
